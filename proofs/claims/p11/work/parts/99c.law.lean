section -- [99ca.law]
/-! Part 99ca: cases of the law. Printed by wip/tools/genlaw.py. -/
theorem y_k0 {Γ : q_Γ} (hG : q_GG Γ) {i : Nat} (hi : i + 6 ≤ Γ.2.2.2.1) (hL : Γ.2.2.2.1 ≤ 3072) {h : q_F} (hA : q_Al 0 155 h) (J : t_J h) (E : h 1 1 = h 139 14) {cl sl : Nat} (hc : cl ≤ 3900) (hs : sl ≤ 39000) (k : y_K Γ i cl sl) : q_R Γ q_K 155 369 y_P (308, y_lo i, [], q_hp q_K 155 h, [], cl, sl) := by
  obtain ⟨S, J⟩ := J
  refine r_aload_n c369_308 rfl rfl ?_
  refine y_arg c369_309 c369_310 c369_312 c369_313 c369_314 rfl rfl rfl hi hL (by decide) ?_
  refine y_arg c369_315 c369_316 c369_318 c369_319 c369_320 rfl rfl rfl hi hL (by decide) ?_
  refine y_arg c369_321 c369_322 c369_324 c369_325 c369_326 rfl rfl rfl hi hL (by decide) ?_
  refine y_arg c369_327 c369_328 c369_330 c369_331 c369_332 rfl rfl rfl hi hL (by decide) ?_
  refine y_arg c369_333 c369_334 c369_336 c369_337 c369_338 rfl rfl rfl hi hL (by decide) ?_
  obtain ⟨v1, g1, g2, S2, e1, e2, J2⟩ := t_app (a := (Γ.1 (i + 1))) (b := (Γ.1 (i + 2))) (c := (Γ.1 (i + 3))) (d := (Γ.1 (i + 4))) (e := (Γ.1 (i + 5))) J
  refine y_cv (a := 0) (b := 0) c369_339 (by decide) rfl rfl rfl rfl (by omega) (by omega) rfl rfl (wn156 hG (hG.1 (i + 1)) (hG.1 (i + 2)) (hG.1 (i + 3)) (hG.1 (i + 4)) (hG.1 (i + 5)) hA e1) ?_
  intro i1 A1
  refine r_pop c369_342 rfl rfl ?_
  refine r_aload_n c369_343 rfl rfl ?_
  refine y_arg c369_344 c369_345 c369_347 c369_348 c369_349 rfl rfl rfl hi hL (by decide) ?_
  refine y_arg c369_350 c369_351 c369_353 c369_354 c369_355 rfl rfl rfl hi hL (by decide) ?_
  refine y_arg c369_356 c369_357 c369_359 c369_360 c369_361 rfl rfl rfl hi hL (by decide) ?_
  refine y_arg c369_362 c369_363 c369_365 c369_366 c369_367 rfl rfl rfl hi hL (by decide) ?_
  refine y_arg c369_368 c369_369 c369_371 c369_372 c369_373 rfl rfl rfl hi hL (by decide) ?_
  refine y_cv (a := 0) (b := 0) c369_374 (by decide) rfl rfl rfl rfl (by omega) (by omega) rfl rfl (wn237 hG (hG.1 (i + 1)) (hG.1 (i + 2)) (hG.1 (i + 3)) (hG.1 (i + 4)) (hG.1 (i + 5)) A1 e2) ?_
  intro i2 A2
  refine r_pop c369_377 rfl rfl ?_
  refine r_goto c369_378 ?_
  refine q_R.wk (ks := [5, 0, 1, 2, 3, 4]) (lo' := y_lo i) rfl ?_
  exact k _ _ _ A2 ⟨⟨_, J2⟩, (j_T_J J2).2⟩ (by omega) (by omega)
theorem y_k1 {Γ : q_Γ} (hG : q_GG Γ) {i : Nat} (hi : i + 6 ≤ Γ.2.2.2.1) (hL : Γ.2.2.2.1 ≤ 3072) {h : q_F} (hA : q_Al 0 155 h) (J : t_J h) (E : h 1 1 = h 139 14) {cl sl : Nat} (hc : cl ≤ 3900) (hs : sl ≤ 39000) (k : y_K Γ i cl sl) : q_R Γ q_K 155 369 y_P (381, y_lo i, [], q_hp q_K 155 h, [], cl, sl) := by
  obtain ⟨S, J⟩ := J
  refine r_aload_n c369_381 rfl rfl ?_
  refine y_arg c369_382 c369_383 c369_385 c369_386 c369_387 rfl rfl rfl hi hL (by decide) ?_
  obtain ⟨v1, g1, g2, S2, e1, e2, J2⟩ := t_tru (v := (Γ.1 (i + 1))) J
  refine y_cv (a := 0) (b := 0) c369_388 (by decide) rfl rfl rfl rfl (by omega) (by omega) rfl rfl (wn226 hG (hG.1 (i + 1)) hA e1) ?_
  intro i1 A1
  refine r_pop c369_391 rfl rfl ?_
  refine r_aload_n c369_392 rfl rfl ?_
  refine y_arg c369_393 c369_394 c369_396 c369_397 c369_398 rfl rfl rfl hi hL (by decide) ?_
  refine y_cv (a := 0) (b := 0) c369_399 (by decide) rfl rfl rfl rfl (by omega) (by omega) rfl rfl (wn358 hG (hG.1 (i + 1)) A1 e2) ?_
  intro i2 A2
  refine r_pop c369_402 rfl rfl ?_
  refine r_goto c369_403 ?_
  refine q_R.wk (ks := [5, 0, 1, 2, 3, 4]) (lo' := y_lo i) rfl ?_
  exact k _ _ _ A2 ⟨⟨_, J2⟩, (j_T_J J2).2⟩ (by omega) (by omega)
theorem y_k2 {Γ : q_Γ} (hG : q_GG Γ) {i : Nat} (hi : i + 6 ≤ Γ.2.2.2.1) (hL : Γ.2.2.2.1 ≤ 3072) {h : q_F} (hA : q_Al 0 155 h) (J : t_J h) (E : h 1 1 = h 139 14) {cl sl : Nat} (hc : cl ≤ 3900) (hs : sl ≤ 39000) (k : y_K Γ i cl sl) : q_R Γ q_K 155 369 y_P (406, y_lo i, [], q_hp q_K 155 h, [], cl, sl) := by
  obtain ⟨S, J⟩ := J
  refine r_aload_n c369_406 rfl rfl ?_
  obtain ⟨v1, g1, g2, S2, e1, e2, J2⟩ := t_load  J
  refine y_cv (a := 0) (b := 0) c369_407 (by decide) rfl rfl rfl rfl (by omega) (by omega) rfl rfl (wn187 hG  hA e1) ?_
  intro i1 A1
  refine r_pop c369_410 rfl rfl ?_
  refine r_aload_n c369_411 rfl rfl ?_
  refine y_cv (a := 0) (b := 0) c369_412 (by decide) rfl rfl rfl rfl (by omega) (by omega) rfl rfl (wn283 hG  A1 e2) ?_
  intro i2 A2
  refine r_pop c369_415 rfl rfl ?_
  refine r_goto c369_416 ?_
  refine q_R.wk (ks := [5, 0, 1, 2, 3, 4]) (lo' := y_lo i) rfl ?_
  exact k _ _ _ A2 ⟨⟨_, J2⟩, (j_T_J J2).2⟩ (by omega) (by omega)
theorem y_k3 {Γ : q_Γ} (hG : q_GG Γ) {i : Nat} (hi : i + 6 ≤ Γ.2.2.2.1) (hL : Γ.2.2.2.1 ≤ 3072) {h : q_F} (hA : q_Al 0 155 h) (J : t_J h) (E : h 1 1 = h 139 14) {cl sl : Nat} (hc : cl ≤ 3900) (hs : sl ≤ 39000) (k : y_K Γ i cl sl) : q_R Γ q_K 155 369 y_P (419, y_lo i, [], q_hp q_K 155 h, [], cl, sl) := by
  obtain ⟨S, J⟩ := J
  refine r_aload_n c369_419 rfl rfl ?_
  obtain ⟨v1, e1⟩ := c_errCode h
  refine y_cp (a := 0) (b := 0) c369_420 (by decide) rfl rfl rfl rfl (by omega) (by omega) rfl rfl (wn177 hG  hA e1) ?_
  intro i1
  refine r_pop c369_423 rfl rfl ?_
  refine r_aload_n c369_424 rfl rfl ?_
  obtain ⟨v2, g2, e2, J2⟩ := t_r_errCode  hA J
  refine y_cv (a := 0) (b := 0) c369_425 (by decide) rfl rfl rfl rfl (by omega) (by omega) rfl rfl (wn255 hG  hA e2) ?_
  intro i2 A2
  refine r_pop c369_428 rfl rfl ?_
  refine r_goto c369_429 ?_
  refine q_R.wk (ks := [5, 0, 1, 2, 3, 4]) (lo' := y_lo i) rfl ?_
  exact k _ _ _ A2 ⟨⟨_, J2⟩, (j_T_J J2).2⟩ (by omega) (by omega)
theorem y_k4 {Γ : q_Γ} (hG : q_GG Γ) {i : Nat} (hi : i + 6 ≤ Γ.2.2.2.1) (hL : Γ.2.2.2.1 ≤ 3072) {h : q_F} (hA : q_Al 0 155 h) (J : t_J h) (E : h 1 1 = h 139 14) {cl sl : Nat} (hc : cl ≤ 3900) (hs : sl ≤ 39000) (k : y_K Γ i cl sl) : q_R Γ q_K 155 369 y_P (432, y_lo i, [], q_hp q_K 155 h, [], cl, sl) := by
  obtain ⟨S, J⟩ := J
  refine r_aload_n c369_432 rfl rfl ?_
  obtain ⟨v1, e1⟩ := c_errOff h
  refine y_cp (a := 0) (b := 0) c369_433 (by decide) rfl rfl rfl rfl (by omega) (by omega) rfl rfl (wn178 hG  hA e1) ?_
  intro i1
  refine r_pop c369_436 rfl rfl ?_
  refine r_aload_n c369_437 rfl rfl ?_
  obtain ⟨v2, g2, e2, J2⟩ := t_r_errOff  hA J
  refine y_cv (a := 0) (b := 0) c369_438 (by decide) rfl rfl rfl rfl (by omega) (by omega) rfl rfl (wn257 hG  hA e2) ?_
  intro i2 A2
  refine r_pop c369_441 rfl rfl ?_
  refine r_goto c369_442 ?_
  refine q_R.wk (ks := [5, 0, 1, 2, 3, 4]) (lo' := y_lo i) rfl ?_
  exact k _ _ _ A2 ⟨⟨_, J2⟩, (j_T_J J2).2⟩ (by omega) (by omega)
theorem y_k5 {Γ : q_Γ} (hG : q_GG Γ) {i : Nat} (hi : i + 6 ≤ Γ.2.2.2.1) (hL : Γ.2.2.2.1 ≤ 3072) {h : q_F} (hA : q_Al 0 155 h) (J : t_J h) (E : h 1 1 = h 139 14) {cl sl : Nat} (hc : cl ≤ 3900) (hs : sl ≤ 39000) (k : y_K Γ i cl sl) : q_R Γ q_K 155 369 y_P (445, y_lo i, [], q_hp q_K 155 h, [], cl, sl) := by
  obtain ⟨S, J⟩ := J
  refine r_aload_n c369_445 rfl rfl ?_
  refine y_arg c369_446 c369_447 c369_449 c369_450 c369_451 rfl rfl rfl hi hL (by decide) ?_
  refine r_aload_n c369_452 rfl rfl ?_
  obtain ⟨v1, g1, e1, J1⟩ := t_L5 (v1 := (Γ.1 (i + 1))) hA J
  refine y_cs (a := 1) (b := 6) c369_453 rfl rfl (by omega) (by omega) rfl rfl (wn5 hG (hG.1 (i + 1)) hA e1) ?_
  intro i1 A1
  refine r_istore c369_456 (lo' := [(6, (0, v1)), (5, (0, (i : Int))), (0, (9, 0)), (1, (2, Int.ofNat 0)), (2, (2, Int.ofNat 139)), (3, (2, Int.ofNat 153)), (4, (2, Int.ofNat 154))]) rfl rfl rfl ?_
  refine r_aload_n c369_458 rfl rfl ?_
  refine y_arg c369_459 c369_460 c369_462 c369_463 c369_464 rfl rfl rfl hi hL (by decide) ?_
  obtain ⟨v2, g2, e2, J2⟩ := t_r_count (v := (Γ.1 (i + 1))) A1 J1
  refine y_cv (a := 0) (b := 0) c369_465 (by decide) rfl rfl rfl rfl (by omega) (by omega) rfl rfl (wn250 hG (hG.1 (i + 1)) A1 e2) ?_
  intro i2 A2
  refine r_istore c369_468 (lo' := [(7, (0, v2)), (6, (0, v1)), (5, (0, (i : Int))), (0, (9, 0)), (1, (2, Int.ofNat 0)), (2, (2, Int.ofNat 139)), (3, (2, Int.ofNat 153)), (4, (2, Int.ofNat 154))]) rfl rfl rfl ?_
  refine r_goto c369_470 ?_
  refine q_R.wk (ks := [5, 0, 1, 2, 3, 4]) (lo' := y_lo i) rfl ?_
  exact k _ _ _ A2 ⟨⟨_, J2⟩, (j_T_J J2).2⟩ (by omega) (by omega)
theorem y_k6 {Γ : q_Γ} (hG : q_GG Γ) {i : Nat} (hi : i + 6 ≤ Γ.2.2.2.1) (hL : Γ.2.2.2.1 ≤ 3072) {h : q_F} (hA : q_Al 0 155 h) (J : t_J h) (E : h 1 1 = h 139 14) {cl sl : Nat} (hc : cl ≤ 3900) (hs : sl ≤ 39000) (k : y_K Γ i cl sl) : q_R Γ q_K 155 369 y_P (473, y_lo i, [], q_hp q_K 155 h, [], cl, sl) := by
  obtain ⟨S, J⟩ := J
  refine r_aload_n c369_473 rfl rfl ?_
  refine y_arg c369_474 c369_475 c369_477 c369_478 c369_479 rfl rfl rfl hi hL (by decide) ?_
  refine y_arg c369_480 c369_481 c369_483 c369_484 c369_485 rfl rfl rfl hi hL (by decide) ?_
  refine r_aload_n c369_486 rfl rfl ?_
  obtain ⟨v1, g1, e1, J1⟩ := t_L1 (v1 := (Γ.1 (i + 1))) (v2 := (Γ.1 (i + 2))) hA J
  refine y_cs (a := 2) (b := 12) c369_487 rfl rfl (by omega) (by omega) rfl rfl (wn1 hG (hG.1 (i + 1)) (hG.1 (i + 2)) hA e1) ?_
  intro i1 A1
  refine r_istore c369_490 (lo' := [(6, (0, v1)), (5, (0, (i : Int))), (0, (9, 0)), (1, (2, Int.ofNat 0)), (2, (2, Int.ofNat 139)), (3, (2, Int.ofNat 153)), (4, (2, Int.ofNat 154))]) rfl rfl rfl ?_
  refine r_aload_n c369_492 rfl rfl ?_
  refine y_arg c369_493 c369_494 c369_496 c369_497 c369_498 rfl rfl rfl hi hL (by decide) ?_
  refine y_arg c369_499 c369_500 c369_502 c369_503 c369_504 rfl rfl rfl hi hL (by decide) ?_
  obtain ⟨v2, g2, e2, J2⟩ := t_r_axisC (a := (Γ.1 (i + 1))) (v := (Γ.1 (i + 2))) A1 J1
  refine y_cv (a := 0) (b := 0) c369_505 (by decide) rfl rfl rfl rfl (by omega) (by omega) rfl rfl (wn239 hG (hG.1 (i + 1)) (hG.1 (i + 2)) A1 e2) ?_
  intro i2 A2
  refine r_istore c369_508 (lo' := [(7, (0, v2)), (6, (0, v1)), (5, (0, (i : Int))), (0, (9, 0)), (1, (2, Int.ofNat 0)), (2, (2, Int.ofNat 139)), (3, (2, Int.ofNat 153)), (4, (2, Int.ofNat 154))]) rfl rfl rfl ?_
  refine r_goto c369_510 ?_
  refine q_R.wk (ks := [5, 0, 1, 2, 3, 4]) (lo' := y_lo i) rfl ?_
  exact k _ _ _ A2 ⟨⟨_, J2⟩, (j_T_J J2).2⟩ (by omega) (by omega)
theorem y_k7 {Γ : q_Γ} (hG : q_GG Γ) {i : Nat} (hi : i + 6 ≤ Γ.2.2.2.1) (hL : Γ.2.2.2.1 ≤ 3072) {h : q_F} (hA : q_Al 0 155 h) (J : t_J h) (E : h 1 1 = h 139 14) {cl sl : Nat} (hc : cl ≤ 3900) (hs : sl ≤ 39000) (k : y_K Γ i cl sl) : q_R Γ q_K 155 369 y_P (513, y_lo i, [], q_hp q_K 155 h, [], cl, sl) := by
  obtain ⟨S, J⟩ := J
  refine r_aload_n c369_513 rfl rfl ?_
  refine y_arg c369_514 c369_515 c369_517 c369_518 c369_519 rfl rfl rfl hi hL (by decide) ?_
  refine r_aload_n c369_520 rfl rfl ?_
  obtain ⟨v1, g1, e1, J1⟩ := t_L4 (v1 := (Γ.1 (i + 1))) hA J
  refine y_cs (a := 2) (b := 12) c369_521 rfl rfl (by omega) (by omega) rfl rfl (wn4 hG (hG.1 (i + 1)) hA e1) ?_
  intro i1 A1
  refine r_istore c369_524 (lo' := [(6, (0, v1)), (5, (0, (i : Int))), (0, (9, 0)), (1, (2, Int.ofNat 0)), (2, (2, Int.ofNat 139)), (3, (2, Int.ofNat 153)), (4, (2, Int.ofNat 154))]) rfl rfl rfl ?_
  refine r_aload_n c369_526 rfl rfl ?_
  refine y_arg c369_527 c369_528 c369_530 c369_531 c369_532 rfl rfl rfl hi hL (by decide) ?_
  obtain ⟨v2, g2, e2, J2⟩ := t_r_coordinate (a := (Γ.1 (i + 1))) A1 J1
  refine y_cv (a := 0) (b := 0) c369_533 (by decide) rfl rfl rfl rfl (by omega) (by omega) rfl rfl (wn248 hG (hG.1 (i + 1)) A1 e2) ?_
  intro i2 A2
  refine r_istore c369_536 (lo' := [(7, (0, v2)), (6, (0, v1)), (5, (0, (i : Int))), (0, (9, 0)), (1, (2, Int.ofNat 0)), (2, (2, Int.ofNat 139)), (3, (2, Int.ofNat 153)), (4, (2, Int.ofNat 154))]) rfl rfl rfl ?_
  refine r_goto c369_538 ?_
  refine q_R.wk (ks := [5, 0, 1, 2, 3, 4]) (lo' := y_lo i) rfl ?_
  exact k _ _ _ A2 ⟨⟨_, J2⟩, (j_T_J J2).2⟩ (by omega) (by omega)
end -- [99ca.law]
section -- [99cb.law]
/-! Part 99cb: cases of the law. Printed by wip/tools/genlaw.py. -/
theorem y_k8 {Γ : q_Γ} (hG : q_GG Γ) {i : Nat} (hi : i + 6 ≤ Γ.2.2.2.1) (hL : Γ.2.2.2.1 ≤ 3072) {h : q_F} (hA : q_Al 0 155 h) (J : t_J h) (E : h 1 1 = h 139 14) {cl sl : Nat} (hc : cl ≤ 3900) (hs : sl ≤ 39000) (k : y_K Γ i cl sl) : q_R Γ q_K 155 369 y_P (541, y_lo i, [], q_hp q_K 155 h, [], cl, sl) := by
  obtain ⟨S, J⟩ := J
  refine r_aload_n c369_541 rfl rfl ?_
  refine y_arg c369_542 c369_543 c369_545 c369_546 c369_547 rfl rfl rfl hi hL (by decide) ?_
  refine r_aload_n c369_548 rfl rfl ?_
  obtain ⟨v1, g1, e1, J1⟩ := t_L8 (v1 := (Γ.1 (i + 1))) hA J
  refine y_cs (a := 2) (b := 12) c369_549 rfl rfl (by omega) (by omega) rfl rfl (wn8 hG (hG.1 (i + 1)) hA e1) ?_
  intro i1 A1
  refine r_istore c369_552 (lo' := [(6, (0, v1)), (5, (0, (i : Int))), (0, (9, 0)), (1, (2, Int.ofNat 0)), (2, (2, Int.ofNat 139)), (3, (2, Int.ofNat 153)), (4, (2, Int.ofNat 154))]) rfl rfl rfl ?_
  refine r_aload_n c369_554 rfl rfl ?_
  refine y_arg c369_555 c369_556 c369_558 c369_559 c369_560 rfl rfl rfl hi hL (by decide) ?_
  obtain ⟨v2, g2, e2, J2⟩ := t_r_errorC (a := (Γ.1 (i + 1))) A1 J1
  refine y_cv (a := 0) (b := 0) c369_561 (by decide) rfl rfl rfl rfl (by omega) (by omega) rfl rfl (wn254 hG (hG.1 (i + 1)) A1 e2) ?_
  intro i2 A2
  refine r_istore c369_564 (lo' := [(7, (0, v2)), (6, (0, v1)), (5, (0, (i : Int))), (0, (9, 0)), (1, (2, Int.ofNat 0)), (2, (2, Int.ofNat 139)), (3, (2, Int.ofNat 153)), (4, (2, Int.ofNat 154))]) rfl rfl rfl ?_
  refine r_goto c369_566 ?_
  refine q_R.wk (ks := [5, 0, 1, 2, 3, 4]) (lo' := y_lo i) rfl ?_
  exact k _ _ _ A2 ⟨⟨_, J2⟩, (j_T_J J2).2⟩ (by omega) (by omega)
theorem y_k9 {Γ : q_Γ} (hG : q_GG Γ) {i : Nat} (hi : i + 6 ≤ Γ.2.2.2.1) (hL : Γ.2.2.2.1 ≤ 3072) {h : q_F} (hA : q_Al 0 155 h) (J : t_J h) (E : h 1 1 = h 139 14) {cl sl : Nat} (hc : cl ≤ 3900) (hs : sl ≤ 39000) (k : y_K Γ i cl sl) : q_R Γ q_K 155 369 y_P (569, y_lo i, [], q_hp q_K 155 h, [], cl, sl) := by
  obtain ⟨S, J⟩ := J
  refine r_aload_n c369_569 rfl rfl ?_
  refine y_arg c369_570 c369_571 c369_573 c369_574 c369_575 rfl rfl rfl hi hL (by decide) ?_
  refine r_aload_n c369_576 rfl rfl ?_
  obtain ⟨v1, g1, e1, J1⟩ := t_L22 (v1 := (Γ.1 (i + 1))) hA J
  refine y_cs (a := 1) (b := 6) c369_577 rfl rfl (by omega) (by omega) rfl rfl (wn22 hG (hG.1 (i + 1)) hA e1) ?_
  intro i1 A1
  refine r_istore c369_580 (lo' := [(6, (0, v1)), (5, (0, (i : Int))), (0, (9, 0)), (1, (2, Int.ofNat 0)), (2, (2, Int.ofNat 139)), (3, (2, Int.ofNat 153)), (4, (2, Int.ofNat 154))]) rfl rfl rfl ?_
  refine r_aload_n c369_582 rfl rfl ?_
  refine y_arg c369_583 c369_584 c369_586 c369_587 c369_588 rfl rfl rfl hi hL (by decide) ?_
  obtain ⟨v2, g2, e2, J2⟩ := t_r_readsC (a := (Γ.1 (i + 1))) A1 J1
  refine y_cv (a := 0) (b := 0) c369_589 (by decide) rfl rfl rfl rfl (by omega) (by omega) rfl rfl (wn319 hG (hG.1 (i + 1)) A1 e2) ?_
  intro i2 A2
  refine r_istore c369_592 (lo' := [(7, (0, v2)), (6, (0, v1)), (5, (0, (i : Int))), (0, (9, 0)), (1, (2, Int.ofNat 0)), (2, (2, Int.ofNat 139)), (3, (2, Int.ofNat 153)), (4, (2, Int.ofNat 154))]) rfl rfl rfl ?_
  refine r_aload_n c369_594 rfl rfl ?_
  have q9 := a_p11 J J1 e1 e2
  refine y_cp (a := 0) (b := 0) c369_595 (by decide) rfl rfl rfl rfl (by omega) (by omega) rfl rfl (wn368 hG A2 rfl) ?_
  intro i3
  refine r_iload c369_598 rfl rfl ?_
  refine r_ic_eq c369_600 rfl (q_w32_r i3) (q_w32_r i1) (fun _ => ?_) (fun h9 => absurd q9.1 h9.1)
  refine r_iload c369_605 rfl rfl ?_
  refine r_if_ne (a' := v1) c369_607 rfl (q_w32_r i1) (fun _ => ?_) (fun h9 => ?_)
  · refine r_goto c369_629 ?_
    refine q_R.wk (ks := [5, 0, 1, 2, 3, 4]) (lo' := y_lo i) rfl ?_
    exact k _ _ _ A2 ⟨⟨_, J2⟩, (j_T_J J2).2⟩ (by omega) (by omega)
  · refine r_aload_n c369_610 rfl rfl ?_
    refine r_iconst c369_611 rfl ?_
    refine r_lald c369_612 (by decide) (by decide) rfl (by decide) (q_w32_id (by decide) (by decide)) (by decide) (by decide) rfl ?_
    refine r_iload c369_613 rfl rfl ?_
    refine y_zl c369_615 c369_618 c369_619 c369_622 rfl i2 ?_
    refine y_lc c369_623 c369_624 (q9.2 h9.1) ?_
    refine r_goto c369_629 ?_
    refine q_R.wk (ks := [5, 0, 1, 2, 3, 4]) (lo' := y_lo i) rfl ?_
    exact k _ _ _ A2 ⟨⟨_, J2⟩, (j_T_J J2).2⟩ (by omega) (by omega)
theorem y_k10 {Γ : q_Γ} (hG : q_GG Γ) {i : Nat} (hi : i + 6 ≤ Γ.2.2.2.1) (hL : Γ.2.2.2.1 ≤ 3072) {h : q_F} (hA : q_Al 0 155 h) (J : t_J h) (E : h 1 1 = h 139 14) {cl sl : Nat} (hc : cl ≤ 3900) (hs : sl ≤ 39000) (k : y_K Γ i cl sl) : q_R Γ q_K 155 369 y_P (632, y_lo i, [], q_hp q_K 155 h, [], cl, sl) := by
  obtain ⟨S, J⟩ := J
  refine r_aload_n c369_632 rfl rfl ?_
  obtain ⟨v1, e1⟩ := c_time h
  refine y_cp (a := 0) (b := 0) c369_633 (by decide) rfl rfl rfl rfl (by omega) (by omega) rfl rfl (wn223 hG  hA e1) ?_
  intro i1
  refine r_pop2 c369_636 rfl rfl ?_
  refine r_aload_n c369_637 rfl rfl ?_
  obtain ⟨v2, g2, e2, J2⟩ := t_r_time  hA J
  refine y_cv (a := 0) (b := 0) c369_638 (by decide) rfl rfl rfl rfl (by omega) (by omega) rfl rfl (wn352 hG  hA e2) ?_
  intro i2 A2
  refine r_pop2 c369_641 rfl rfl ?_
  refine r_goto c369_642 ?_
  refine q_R.wk (ks := [5, 0, 1, 2, 3, 4]) (lo' := y_lo i) rfl ?_
  exact k _ _ _ A2 ⟨⟨_, J2⟩, (j_T_J J2).2⟩ (by omega) (by omega)
theorem y_k11 {Γ : q_Γ} (hG : q_GG Γ) {i : Nat} (hi : i + 6 ≤ Γ.2.2.2.1) (hL : Γ.2.2.2.1 ≤ 3072) {h : q_F} (hA : q_Al 0 155 h) (J : t_J h) (E : h 1 1 = h 139 14) {cl sl : Nat} (hc : cl ≤ 3900) (hs : sl ≤ 39000) (k : y_K Γ i cl sl) : q_R Γ q_K 155 369 y_P (645, y_lo i, [], q_hp q_K 155 h, [], cl, sl) := by
  obtain ⟨S, J⟩ := J
  refine r_aload_n c369_645 rfl rfl ?_
  refine y_arg c369_646 c369_647 c369_649 c369_650 c369_651 rfl rfl rfl hi hL (by decide) ?_
  refine r_aload_n c369_652 rfl rfl ?_
  obtain ⟨v1, g1, e1, J1⟩ := t_L9 (v1 := (Γ.1 (i + 1))) hA J
  refine y_cs (a := 3) (b := 18) c369_653 rfl rfl (by omega) (by omega) rfl rfl (wn9 hG (hG.1 (i + 1)) hA e1) ?_
  intro i1 A1
  refine r_istore c369_656 (lo' := [(6, (0, v1)), (5, (0, (i : Int))), (0, (9, 0)), (1, (2, Int.ofNat 0)), (2, (2, Int.ofNat 139)), (3, (2, Int.ofNat 153)), (4, (2, Int.ofNat 154))]) rfl rfl rfl ?_
  refine r_aload_n c369_658 rfl rfl ?_
  refine y_arg c369_659 c369_660 c369_662 c369_663 c369_664 rfl rfl rfl hi hL (by decide) ?_
  obtain ⟨v2, g2, e2, J2⟩ := t_r_homeC (a := (Γ.1 (i + 1))) A1 J1
  refine y_cv (a := 0) (b := 0) c369_665 (by decide) rfl rfl rfl rfl (by omega) (by omega) rfl rfl (wn263 hG (hG.1 (i + 1)) A1 e2) ?_
  intro i2 A2
  refine r_istore c369_668 (lo' := [(7, (0, v2)), (6, (0, v1)), (5, (0, (i : Int))), (0, (9, 0)), (1, (2, Int.ofNat 0)), (2, (2, Int.ofNat 139)), (3, (2, Int.ofNat 153)), (4, (2, Int.ofNat 154))]) rfl rfl rfl ?_
  refine r_goto c369_670 ?_
  refine q_R.wk (ks := [5, 0, 1, 2, 3, 4]) (lo' := y_lo i) rfl ?_
  exact k _ _ _ A2 ⟨⟨_, J2⟩, (j_T_J J2).2⟩ (by omega) (by omega)
theorem y_k12 {Γ : q_Γ} (hG : q_GG Γ) {i : Nat} (hi : i + 6 ≤ Γ.2.2.2.1) (hL : Γ.2.2.2.1 ≤ 3072) {h : q_F} (hA : q_Al 0 155 h) (J : t_J h) (E : h 1 1 = h 139 14) {cl sl : Nat} (hc : cl ≤ 3900) (hs : sl ≤ 39000) (k : y_K Γ i cl sl) : q_R Γ q_K 155 369 y_P (673, y_lo i, [], q_hp q_K 155 h, [], cl, sl) := by
  obtain ⟨S, J⟩ := J
  refine r_aload_n c369_673 rfl rfl ?_
  refine y_arg c369_674 c369_675 c369_677 c369_678 c369_679 rfl rfl rfl hi hL (by decide) ?_
  refine y_arg c369_680 c369_681 c369_683 c369_684 c369_685 rfl rfl rfl hi hL (by decide) ?_
  refine r_aload_n c369_686 rfl rfl ?_
  obtain ⟨v1, g1, e1, J1⟩ := t_L12 (v1 := (Γ.1 (i + 1))) (v2 := (Γ.1 (i + 2))) hA J
  refine y_cs (a := 3) (b := 18) c369_687 rfl rfl (by omega) (by omega) rfl rfl (wn12 hG (hG.1 (i + 1)) (hG.1 (i + 2)) hA e1) ?_
  intro i1 A1
  refine r_istore c369_690 (lo' := [(6, (0, v1)), (5, (0, (i : Int))), (0, (9, 0)), (1, (2, Int.ofNat 0)), (2, (2, Int.ofNat 139)), (3, (2, Int.ofNat 153)), (4, (2, Int.ofNat 154))]) rfl rfl rfl ?_
  refine r_aload_n c369_692 rfl rfl ?_
  refine y_arg c369_693 c369_694 c369_696 c369_697 c369_698 rfl rfl rfl hi hL (by decide) ?_
  refine y_arg c369_699 c369_700 c369_702 c369_703 c369_704 rfl rfl rfl hi hL (by decide) ?_
  obtain ⟨v2, g2, e2, J2⟩ := t_r_jogC (a := (Γ.1 (i + 1))) (v := (Γ.1 (i + 2))) A1 J1
  refine y_cv (a := 0) (b := 0) c369_705 (by decide) rfl rfl rfl rfl (by omega) (by omega) rfl rfl (wn274 hG (hG.1 (i + 1)) (hG.1 (i + 2)) A1 e2) ?_
  intro i2 A2
  refine r_istore c369_708 (lo' := [(7, (0, v2)), (6, (0, v1)), (5, (0, (i : Int))), (0, (9, 0)), (1, (2, Int.ofNat 0)), (2, (2, Int.ofNat 139)), (3, (2, Int.ofNat 153)), (4, (2, Int.ofNat 154))]) rfl rfl rfl ?_
  refine r_goto c369_710 ?_
  refine q_R.wk (ks := [5, 0, 1, 2, 3, 4]) (lo' := y_lo i) rfl ?_
  exact k _ _ _ A2 ⟨⟨_, J2⟩, (j_T_J J2).2⟩ (by omega) (by omega)
theorem y_k13 {Γ : q_Γ} (hG : q_GG Γ) {i : Nat} (hi : i + 6 ≤ Γ.2.2.2.1) (hL : Γ.2.2.2.1 ≤ 3072) {h : q_F} (hA : q_Al 0 155 h) (J : t_J h) (E : h 1 1 = h 139 14) {cl sl : Nat} (hc : cl ≤ 3900) (hs : sl ≤ 39000) (k : y_K Γ i cl sl) : q_R Γ q_K 155 369 y_P (713, y_lo i, [], q_hp q_K 155 h, [], cl, sl) := by
  obtain ⟨S, J⟩ := J
  refine r_aload_n c369_713 rfl rfl ?_
  refine y_arg c369_714 c369_715 c369_717 c369_718 c369_719 rfl rfl rfl hi hL (by decide) ?_
  refine y_arg c369_720 c369_721 c369_723 c369_724 c369_725 rfl rfl rfl hi hL (by decide) ?_
  refine y_arg c369_726 c369_727 c369_729 c369_730 c369_731 rfl rfl rfl hi hL (by decide) ?_
  refine r_aload_n c369_732 rfl rfl ?_
  obtain ⟨v1, g1, e1, J1⟩ := t_L20 (v1 := (Γ.1 (i + 1))) (v2 := (Γ.1 (i + 2))) (v3 := (Γ.1 (i + 3))) hA J
  refine y_cs (a := 5) (b := 30) c369_733 rfl rfl (by omega) (by omega) rfl rfl (wn20 hG (hG.1 (i + 1)) (hG.1 (i + 2)) (hG.1 (i + 3)) hA e1) ?_
  intro i1 A1
  refine r_istore c369_736 (lo' := [(6, (0, v1)), (5, (0, (i : Int))), (0, (9, 0)), (1, (2, Int.ofNat 0)), (2, (2, Int.ofNat 139)), (3, (2, Int.ofNat 153)), (4, (2, Int.ofNat 154))]) rfl rfl rfl ?_
  refine r_aload_n c369_738 rfl rfl ?_
  refine y_arg c369_739 c369_740 c369_742 c369_743 c369_744 rfl rfl rfl hi hL (by decide) ?_
  refine y_arg c369_745 c369_746 c369_748 c369_749 c369_750 rfl rfl rfl hi hL (by decide) ?_
  refine y_arg c369_751 c369_752 c369_754 c369_755 c369_756 rfl rfl rfl hi hL (by decide) ?_
  obtain ⟨v2, g2, e2, J2⟩ := t_r_queueC (x := (Γ.1 (i + 1))) (y := (Γ.1 (i + 2))) (z := (Γ.1 (i + 3))) A1 J1
  refine y_cv (a := 0) (b := 0) c369_757 (by decide) rfl rfl rfl rfl (by omega) (by omega) rfl rfl (wn309 hG (hG.1 (i + 1)) (hG.1 (i + 2)) (hG.1 (i + 3)) A1 e2) ?_
  intro i2 A2
  refine r_istore c369_760 (lo' := [(7, (0, v2)), (6, (0, v1)), (5, (0, (i : Int))), (0, (9, 0)), (1, (2, Int.ofNat 0)), (2, (2, Int.ofNat 139)), (3, (2, Int.ofNat 153)), (4, (2, Int.ofNat 154))]) rfl rfl rfl ?_
  refine r_goto c369_762 ?_
  refine q_R.wk (ks := [5, 0, 1, 2, 3, 4]) (lo' := y_lo i) rfl ?_
  exact k _ _ _ A2 ⟨⟨_, J2⟩, (j_T_J J2).2⟩ (by omega) (by omega)
theorem y_k14 {Γ : q_Γ} (hG : q_GG Γ) {i : Nat} (hi : i + 6 ≤ Γ.2.2.2.1) (hL : Γ.2.2.2.1 ≤ 3072) {h : q_F} (hA : q_Al 0 155 h) (J : t_J h) (E : h 1 1 = h 139 14) {cl sl : Nat} (hc : cl ≤ 3900) (hs : sl ≤ 39000) (k : y_K Γ i cl sl) : q_R Γ q_K 155 369 y_P (765, y_lo i, [], q_hp q_K 155 h, [], cl, sl) := by
  obtain ⟨S, J⟩ := J
  refine r_aload_n c369_765 rfl rfl ?_
  refine r_aload_n c369_766 rfl rfl ?_
  obtain ⟨v1, g1, e1, J1⟩ := t_L37  hA J
  refine y_cs (a := 1) (b := 6) c369_767 rfl rfl (by omega) (by omega) rfl rfl (wn37 hG  hA e1) ?_
  intro i1 A1
  refine r_istore c369_770 (lo' := [(6, (0, v1)), (5, (0, (i : Int))), (0, (9, 0)), (1, (2, Int.ofNat 0)), (2, (2, Int.ofNat 139)), (3, (2, Int.ofNat 153)), (4, (2, Int.ofNat 154))]) rfl rfl rfl ?_
  refine r_aload_n c369_772 rfl rfl ?_
  obtain ⟨v2, g2, e2, J2⟩ := t_r_unqueue  A1 J1
  refine y_cv (a := 0) (b := 0) c369_773 (by decide) rfl rfl rfl rfl (by omega) (by omega) rfl rfl (wn361 hG  A1 e2) ?_
  intro i2 A2
  refine r_istore c369_776 (lo' := [(7, (0, v2)), (6, (0, v1)), (5, (0, (i : Int))), (0, (9, 0)), (1, (2, Int.ofNat 0)), (2, (2, Int.ofNat 139)), (3, (2, Int.ofNat 153)), (4, (2, Int.ofNat 154))]) rfl rfl rfl ?_
  refine r_goto c369_778 ?_
  refine q_R.wk (ks := [5, 0, 1, 2, 3, 4]) (lo' := y_lo i) rfl ?_
  exact k _ _ _ A2 ⟨⟨_, J2⟩, (j_T_J J2).2⟩ (by omega) (by omega)
theorem y_k15 {Γ : q_Γ} (hG : q_GG Γ) {i : Nat} (hi : i + 6 ≤ Γ.2.2.2.1) (hL : Γ.2.2.2.1 ≤ 3072) {h : q_F} (hA : q_Al 0 155 h) (J : t_J h) (E : h 1 1 = h 139 14) {cl sl : Nat} (hc : cl ≤ 3900) (hs : sl ≤ 39000) (k : y_K Γ i cl sl) : q_R Γ q_K 155 369 y_P (781, y_lo i, [], q_hp q_K 155 h, [], cl, sl) := by
  obtain ⟨S, J⟩ := J
  refine r_aload_n c369_781 rfl rfl ?_
  refine y_arg c369_782 c369_783 c369_785 c369_786 c369_787 rfl rfl rfl hi hL (by decide) ?_
  refine r_aload_n c369_788 rfl rfl ?_
  obtain ⟨v1, g1, e1, J1⟩ := t_L24 (v1 := (Γ.1 (i + 1))) hA J
  refine y_cs (a := 1) (b := 6) c369_789 rfl rfl (by omega) (by omega) rfl rfl (wn24 hG (hG.1 (i + 1)) hA e1) ?_
  intro i1 A1
  refine r_istore c369_792 (lo' := [(6, (0, v1)), (5, (0, (i : Int))), (0, (9, 0)), (1, (2, Int.ofNat 0)), (2, (2, Int.ofNat 139)), (3, (2, Int.ofNat 153)), (4, (2, Int.ofNat 154))]) rfl rfl rfl ?_
  refine r_aload_n c369_794 rfl rfl ?_
  refine y_arg c369_795 c369_796 c369_798 c369_799 c369_800 rfl rfl rfl hi hL (by decide) ?_
  obtain ⟨v2, g2, e2, J2⟩ := t_r_runC (n := (Γ.1 (i + 1))) A1 J1
  refine y_cv (a := 0) (b := 0) c369_801 (by decide) rfl rfl rfl rfl (by omega) (by omega) rfl rfl (wn324 hG (hG.1 (i + 1)) A1 e2) ?_
  intro i2 A2
  refine r_istore c369_804 (lo' := [(7, (0, v2)), (6, (0, v1)), (5, (0, (i : Int))), (0, (9, 0)), (1, (2, Int.ofNat 0)), (2, (2, Int.ofNat 139)), (3, (2, Int.ofNat 153)), (4, (2, Int.ofNat 154))]) rfl rfl rfl ?_
  refine r_goto c369_806 ?_
  refine q_R.wk (ks := [5, 0, 1, 2, 3, 4]) (lo' := y_lo i) rfl ?_
  exact k _ _ _ A2 ⟨⟨_, J2⟩, (j_T_J J2).2⟩ (by omega) (by omega)
end -- [99cb.law]
section -- [99cc.law]
/-! Part 99cc: cases of the law. Printed by wip/tools/genlaw.py. -/
theorem y_k16 {Γ : q_Γ} (hG : q_GG Γ) {i : Nat} (hi : i + 6 ≤ Γ.2.2.2.1) (hL : Γ.2.2.2.1 ≤ 3072) {h : q_F} (hA : q_Al 0 155 h) (J : t_J h) (E : h 1 1 = h 139 14) {cl sl : Nat} (hc : cl ≤ 3900) (hs : sl ≤ 39000) (k : y_K Γ i cl sl) : q_R Γ q_K 155 369 y_P (809, y_lo i, [], q_hp q_K 155 h, [], cl, sl) := by
  obtain ⟨S, J⟩ := J
  refine r_aload_n c369_809 rfl rfl ?_
  obtain ⟨v1, g1, e1, J1⟩ := t_c_reset  hA J
  refine y_cv (a := 0) (b := 0) c369_810 (by decide) rfl rfl rfl rfl (by omega) (by omega) rfl rfl (wn205 hG  hA e1) ?_
  intro i1 A1
  refine r_pop c369_813 rfl rfl ?_
  refine r_aload_n c369_814 rfl rfl ?_
  obtain ⟨v2, g2, e2, J2⟩ := t_r_reset  A1 J1
  refine y_cv (a := 0) (b := 0) c369_815 (by decide) rfl rfl rfl rfl (by omega) (by omega) rfl rfl (wn321 hG  A1 e2) ?_
  intro i2 A2
  refine r_pop c369_818 rfl rfl ?_
  refine r_goto c369_819 ?_
  refine q_R.wk (ks := [5, 0, 1, 2, 3, 4]) (lo' := y_lo i) rfl ?_
  exact k _ _ _ A2 ⟨⟨_, J2⟩, (j_T_J J2).2⟩ (by omega) (by omega)
theorem y_k17 {Γ : q_Γ} (hG : q_GG Γ) {i : Nat} (hi : i + 6 ≤ Γ.2.2.2.1) (hL : Γ.2.2.2.1 ≤ 3072) {h : q_F} (hA : q_Al 0 155 h) (J : t_J h) (E : h 1 1 = h 139 14) {cl sl : Nat} (hc : cl ≤ 3900) (hs : sl ≤ 39000) (k : y_K Γ i cl sl) : q_R Γ q_K 155 369 y_P (822, y_lo i, [], q_hp q_K 155 h, [], cl, sl) := by
  obtain ⟨S, J⟩ := J
  refine r_aload_n c369_822 rfl rfl ?_
  refine y_arg c369_823 c369_824 c369_826 c369_827 c369_828 rfl rfl rfl hi hL (by decide) ?_
  refine y_nz c369_829 c369_832 c369_833 c369_836 rfl (hG.1 (i + 1)) ?_
  obtain ⟨v1, g1, e1, J1⟩ := t_c_setC (v := (y_nzv (Γ.1 (i + 1)))) (y_nz01 (Γ.1 (i + 1))) J
  refine y_cv (a := 0) (b := 0) c369_837 (by decide) rfl rfl rfl rfl (by omega) (by omega) rfl rfl (wn210 hG (y_nz01 (Γ.1 (i + 1))) hA e1) ?_
  intro i1 A1
  refine r_pop c369_840 rfl rfl ?_
  refine r_aload_n c369_841 rfl rfl ?_
  refine y_arg c369_842 c369_843 c369_845 c369_846 c369_847 rfl rfl rfl hi hL (by decide) ?_
  refine y_nz c369_848 c369_851 c369_852 c369_855 rfl (hG.1 (i + 1)) ?_
  obtain ⟨v2, g2, e2, J2⟩ := t_r_setC (v := (y_nzv (Γ.1 (i + 1)))) (y_nz01 (Γ.1 (i + 1))) J1
  refine y_cv (a := 0) (b := 0) c369_856 (by decide) rfl rfl rfl rfl (by omega) (by omega) rfl rfl (wn328 hG (y_nz01 (Γ.1 (i + 1))) A1 e2) ?_
  intro i2 A2
  refine r_pop c369_859 rfl rfl ?_
  refine r_goto c369_860 ?_
  refine q_R.wk (ks := [5, 0, 1, 2, 3, 4]) (lo' := y_lo i) rfl ?_
  exact k _ _ _ A2 ⟨⟨_, J2⟩, (j_T_J J2).2⟩ (by omega) (by omega)
theorem y_k18 {Γ : q_Γ} (hG : q_GG Γ) {i : Nat} (hi : i + 6 ≤ Γ.2.2.2.1) (hL : Γ.2.2.2.1 ≤ 3072) {h : q_F} (hA : q_Al 0 155 h) (J : t_J h) (E : h 1 1 = h 139 14) {cl sl : Nat} (hc : cl ≤ 3900) (hs : sl ≤ 39000) (k : y_K Γ i cl sl) : q_R Γ q_K 155 369 y_P (863, y_lo i, [], q_hp q_K 155 h, [], cl, sl) := by
  obtain ⟨S, J⟩ := J
  refine r_aload_n c369_863 rfl rfl ?_
  refine y_arg c369_864 c369_865 c369_867 c369_868 c369_869 rfl rfl rfl hi hL (by decide) ?_
  refine y_nz c369_870 c369_873 c369_874 c369_877 rfl (hG.1 (i + 1)) ?_
  obtain ⟨v1, g1, e1, J1⟩ := t_c_setD (v := (y_nzv (Γ.1 (i + 1)))) (y_nz01 (Γ.1 (i + 1))) J
  refine y_cv (a := 0) (b := 0) c369_878 (by decide) rfl rfl rfl rfl (by omega) (by omega) rfl rfl (wn211 hG (y_nz01 (Γ.1 (i + 1))) hA e1) ?_
  intro i1 A1
  refine r_pop c369_881 rfl rfl ?_
  refine r_aload_n c369_882 rfl rfl ?_
  refine y_arg c369_883 c369_884 c369_886 c369_887 c369_888 rfl rfl rfl hi hL (by decide) ?_
  refine y_nz c369_889 c369_892 c369_893 c369_896 rfl (hG.1 (i + 1)) ?_
  obtain ⟨v2, g2, e2, J2⟩ := t_r_setD (v := (y_nzv (Γ.1 (i + 1)))) (y_nz01 (Γ.1 (i + 1))) J1
  refine y_cv (a := 0) (b := 0) c369_897 (by decide) rfl rfl rfl rfl (by omega) (by omega) rfl rfl (wn329 hG (y_nz01 (Γ.1 (i + 1))) A1 e2) ?_
  intro i2 A2
  refine r_pop c369_900 rfl rfl ?_
  refine r_goto c369_901 ?_
  refine q_R.wk (ks := [5, 0, 1, 2, 3, 4]) (lo' := y_lo i) rfl ?_
  exact k _ _ _ A2 ⟨⟨_, J2⟩, (j_T_J J2).2⟩ (by omega) (by omega)
theorem y_k19 {Γ : q_Γ} (hG : q_GG Γ) {i : Nat} (hi : i + 6 ≤ Γ.2.2.2.1) (hL : Γ.2.2.2.1 ≤ 3072) {h : q_F} (hA : q_Al 0 155 h) (J : t_J h) (E : h 1 1 = h 139 14) {cl sl : Nat} (hc : cl ≤ 3900) (hs : sl ≤ 39000) (k : y_K Γ i cl sl) : q_R Γ q_K 155 369 y_P (904, y_lo i, [], q_hp q_K 155 h, [], cl, sl) := by
  obtain ⟨S, J⟩ := J
  refine r_aload_n c369_904 rfl rfl ?_
  refine y_arg c369_905 c369_906 c369_908 c369_909 c369_910 rfl rfl rfl hi hL (by decide) ?_
  refine y_arg c369_911 c369_912 c369_914 c369_915 c369_916 rfl rfl rfl hi hL (by decide) ?_
  refine r_aload_n c369_917 rfl rfl ?_
  obtain ⟨v1, g1, e1, J1⟩ := t_L26 (v1 := (Γ.1 (i + 1))) (v2 := (Γ.1 (i + 2))) hA J
  refine y_cs (a := 2) (b := 12) c369_918 rfl rfl (by omega) (by omega) rfl rfl (wn26 hG (hG.1 (i + 1)) (hG.1 (i + 2)) hA e1) ?_
  intro i1 A1
  refine r_istore c369_921 (lo' := [(6, (0, v1)), (5, (0, (i : Int))), (0, (9, 0)), (1, (2, Int.ofNat 0)), (2, (2, Int.ofNat 139)), (3, (2, Int.ofNat 153)), (4, (2, Int.ofNat 154))]) rfl rfl rfl ?_
  refine r_aload_n c369_923 rfl rfl ?_
  refine y_arg c369_924 c369_925 c369_927 c369_928 c369_929 rfl rfl rfl hi hL (by decide) ?_
  refine y_arg c369_930 c369_931 c369_933 c369_934 c369_935 rfl rfl rfl hi hL (by decide) ?_
  obtain ⟨v2, g2, e2, J2⟩ := t_r_setStuck (a := (Γ.1 (i + 1))) (v := (Γ.1 (i + 2))) A1 J1
  refine y_cv (a := 0) (b := 0) c369_936 (by decide) rfl rfl rfl rfl (by omega) (by omega) rfl rfl (wn331 hG (hG.1 (i + 1)) (hG.1 (i + 2)) A1 e2) ?_
  intro i2 A2
  refine r_istore c369_939 (lo' := [(7, (0, v2)), (6, (0, v1)), (5, (0, (i : Int))), (0, (9, 0)), (1, (2, Int.ofNat 0)), (2, (2, Int.ofNat 139)), (3, (2, Int.ofNat 153)), (4, (2, Int.ofNat 154))]) rfl rfl rfl ?_
  refine r_goto c369_941 ?_
  refine q_R.wk (ks := [5, 0, 1, 2, 3, 4]) (lo' := y_lo i) rfl ?_
  exact k _ _ _ A2 ⟨⟨_, J2⟩, (j_T_J J2).2⟩ (by omega) (by omega)
theorem y_k20 {Γ : q_Γ} (hG : q_GG Γ) {i : Nat} (hi : i + 6 ≤ Γ.2.2.2.1) (hL : Γ.2.2.2.1 ≤ 3072) {h : q_F} (hA : q_Al 0 155 h) (J : t_J h) (E : h 1 1 = h 139 14) {cl sl : Nat} (hc : cl ≤ 3900) (hs : sl ≤ 39000) (k : y_K Γ i cl sl) : q_R Γ q_K 155 369 y_P (944, y_lo i, [], q_hp q_K 155 h, [], cl, sl) := by
  obtain ⟨S, J⟩ := J
  refine r_aload_n c369_944 rfl rfl ?_
  refine y_arg c369_945 c369_946 c369_948 c369_949 c369_950 rfl rfl rfl hi hL (by decide) ?_
  refine r_aload_n c369_951 rfl rfl ?_
  obtain ⟨v1, g1, e1, J1⟩ := t_L25 (v1 := (Γ.1 (i + 1))) hA J
  refine y_cs (a := 1) (b := 6) c369_952 rfl rfl (by omega) (by omega) rfl rfl (wn25 hG (hG.1 (i + 1)) hA e1) ?_
  intro i1 A1
  refine r_istore c369_955 (lo' := [(6, (0, v1)), (5, (0, (i : Int))), (0, (9, 0)), (1, (2, Int.ofNat 0)), (2, (2, Int.ofNat 139)), (3, (2, Int.ofNat 153)), (4, (2, Int.ofNat 154))]) rfl rfl rfl ?_
  refine r_aload_n c369_957 rfl rfl ?_
  refine y_arg c369_958 c369_959 c369_961 c369_962 c369_963 rfl rfl rfl hi hL (by decide) ?_
  obtain ⟨v2, g2, e2, J2⟩ := t_r_setStart (v := (Γ.1 (i + 1))) A1 J1
  refine y_cv (a := 0) (b := 0) c369_964 (by decide) rfl rfl rfl rfl (by omega) (by omega) rfl rfl (wn330 hG (hG.1 (i + 1)) A1 e2) ?_
  intro i2 A2
  refine r_istore c369_967 (lo' := [(7, (0, v2)), (6, (0, v1)), (5, (0, (i : Int))), (0, (9, 0)), (1, (2, Int.ofNat 0)), (2, (2, Int.ofNat 139)), (3, (2, Int.ofNat 153)), (4, (2, Int.ofNat 154))]) rfl rfl rfl ?_
  refine r_goto c369_969 ?_
  refine q_R.wk (ks := [5, 0, 1, 2, 3, 4]) (lo' := y_lo i) rfl ?_
  exact k _ _ _ A2 ⟨⟨_, J2⟩, (j_T_J J2).2⟩ (by omega) (by omega)
theorem y_k21 {Γ : q_Γ} (hG : q_GG Γ) {i : Nat} (hi : i + 6 ≤ Γ.2.2.2.1) (hL : Γ.2.2.2.1 ≤ 3072) {h : q_F} (hA : q_Al 0 155 h) (J : t_J h) (E : h 1 1 = h 139 14) {cl sl : Nat} (hc : cl ≤ 3900) (hs : sl ≤ 39000) (k : y_K Γ i cl sl) : q_R Γ q_K 155 369 y_P (972, y_lo i, [], q_hp q_K 155 h, [], cl, sl) := by
  obtain ⟨S, J⟩ := J
  refine r_aload_n c369_972 rfl rfl ?_
  refine y_arg c369_973 c369_974 c369_976 c369_977 c369_978 rfl rfl rfl hi hL (by decide) ?_
  refine y_arg c369_979 c369_980 c369_982 c369_983 c369_984 rfl rfl rfl hi hL (by decide) ?_
  refine r_aload_n c369_985 rfl rfl ?_
  obtain ⟨v1, g1, e1, J1⟩ := t_L33 (v1 := (Γ.1 (i + 1))) (v2 := (Γ.1 (i + 2))) hA J
  refine y_cs (a := 2) (b := 12) c369_986 rfl rfl (by omega) (by omega) rfl rfl (wn33 hG (hG.1 (i + 1)) (hG.1 (i + 2)) hA e1) ?_
  intro i1 A1
  refine r_istore c369_989 (lo' := [(6, (0, v1)), (5, (0, (i : Int))), (0, (9, 0)), (1, (2, Int.ofNat 0)), (2, (2, Int.ofNat 139)), (3, (2, Int.ofNat 153)), (4, (2, Int.ofNat 154))]) rfl rfl rfl ?_
  refine r_aload_n c369_991 rfl rfl ?_
  refine y_arg c369_992 c369_993 c369_995 c369_996 c369_997 rfl rfl rfl hi hL (by decide) ?_
  refine y_arg c369_998 c369_999 c369_1001 c369_1002 c369_1003 rfl rfl rfl hi hL (by decide) ?_
  obtain ⟨v2, g2, e2, J2⟩ := t_r_target (m := (Γ.1 (i + 1))) (a := (Γ.1 (i + 2))) A1 J1
  refine y_cv (a := 0) (b := 0) c369_1004 (by decide) rfl rfl rfl rfl (by omega) (by omega) rfl rfl (wn350 hG (hG.1 (i + 1)) (hG.1 (i + 2)) A1 e2) ?_
  intro i2 A2
  refine r_istore c369_1007 (lo' := [(7, (0, v2)), (6, (0, v1)), (5, (0, (i : Int))), (0, (9, 0)), (1, (2, Int.ofNat 0)), (2, (2, Int.ofNat 139)), (3, (2, Int.ofNat 153)), (4, (2, Int.ofNat 154))]) rfl rfl rfl ?_
  refine r_goto c369_1009 ?_
  refine q_R.wk (ks := [5, 0, 1, 2, 3, 4]) (lo' := y_lo i) rfl ?_
  exact k _ _ _ A2 ⟨⟨_, J2⟩, (j_T_J J2).2⟩ (by omega) (by omega)
theorem y_k22 {Γ : q_Γ} (hG : q_GG Γ) {i : Nat} (hi : i + 6 ≤ Γ.2.2.2.1) (hL : Γ.2.2.2.1 ≤ 3072) {h : q_F} (hA : q_Al 0 155 h) (J : t_J h) (E : h 1 1 = h 139 14) {cl sl : Nat} (hc : cl ≤ 3900) (hs : sl ≤ 39000) (k : y_K Γ i cl sl) : q_R Γ q_K 155 369 y_P (1012, y_lo i, [], q_hp q_K 155 h, [], cl, sl) := by
  obtain ⟨S, J⟩ := J
  refine r_aload_n c369_1012 rfl rfl ?_
  refine y_arg c369_1013 c369_1014 c369_1016 c369_1017 c369_1018 rfl rfl rfl hi hL (by decide) ?_
  refine y_arg c369_1019 c369_1020 c369_1022 c369_1023 c369_1024 rfl rfl rfl hi hL (by decide) ?_
  refine r_aload_n c369_1025 rfl rfl ?_
  obtain ⟨v1, g1, e1, J1⟩ := t_L17 (v1 := (Γ.1 (i + 1))) (v2 := (Γ.1 (i + 2))) hA J
  refine y_cs (a := 2) (b := 12) c369_1026 rfl rfl (by omega) (by omega) rfl rfl (wn17 hG (hG.1 (i + 1)) (hG.1 (i + 2)) hA e1) ?_
  intro i1 A1
  refine r_istore c369_1029 (lo' := [(6, (0, v1)), (5, (0, (i : Int))), (0, (9, 0)), (1, (2, Int.ofNat 0)), (2, (2, Int.ofNat 139)), (3, (2, Int.ofNat 153)), (4, (2, Int.ofNat 154))]) rfl rfl rfl ?_
  refine r_aload_n c369_1031 rfl rfl ?_
  refine y_arg c369_1032 c369_1033 c369_1035 c369_1036 c369_1037 rfl rfl rfl hi hL (by decide) ?_
  refine y_arg c369_1038 c369_1039 c369_1041 c369_1042 c369_1043 rfl rfl rfl hi hL (by decide) ?_
  obtain ⟨v2, g2, e2, J2⟩ := t_r_moveC (m := (Γ.1 (i + 1))) (v := (Γ.1 (i + 2))) A1 J1
  refine y_cv (a := 0) (b := 0) c369_1044 (by decide) rfl rfl rfl rfl (by omega) (by omega) rfl rfl (wn294 hG (hG.1 (i + 1)) (hG.1 (i + 2)) A1 e2) ?_
  intro i2 A2
  refine r_istore c369_1047 (lo' := [(7, (0, v2)), (6, (0, v1)), (5, (0, (i : Int))), (0, (9, 0)), (1, (2, Int.ofNat 0)), (2, (2, Int.ofNat 139)), (3, (2, Int.ofNat 153)), (4, (2, Int.ofNat 154))]) rfl rfl rfl ?_
  refine r_goto c369_1049 ?_
  refine q_R.wk (ks := [5, 0, 1, 2, 3, 4]) (lo' := y_lo i) rfl ?_
  exact k _ _ _ A2 ⟨⟨_, J2⟩, (j_T_J J2).2⟩ (by omega) (by omega)
theorem y_k23 {Γ : q_Γ} (hG : q_GG Γ) {i : Nat} (hi : i + 6 ≤ Γ.2.2.2.1) (hL : Γ.2.2.2.1 ≤ 3072) {h : q_F} (hA : q_Al 0 155 h) (J : t_J h) (E : h 1 1 = h 139 14) {cl sl : Nat} (hc : cl ≤ 3900) (hs : sl ≤ 39000) (k : y_K Γ i cl sl) : q_R Γ q_K 155 369 y_P (1052, y_lo i, [], q_hp q_K 155 h, [], cl, sl) := by
  obtain ⟨S, J⟩ := J
  refine r_aload_n c369_1052 rfl rfl ?_
  refine y_arg c369_1053 c369_1054 c369_1056 c369_1057 c369_1058 rfl rfl rfl hi hL (by decide) ?_
  refine y_arg c369_1059 c369_1060 c369_1062 c369_1063 c369_1064 rfl rfl rfl hi hL (by decide) ?_
  refine r_aload_n c369_1065 rfl rfl ?_
  obtain ⟨v1, g1, e1, J1⟩ := t_L29 (v1 := (Γ.1 (i + 1))) (v2 := (Γ.1 (i + 2))) hA J
  refine y_cs (a := 2) (b := 12) c369_1066 rfl rfl (by omega) (by omega) rfl rfl (wn29 hG (hG.1 (i + 1)) (hG.1 (i + 2)) hA e1) ?_
  intro i1 A1
  refine r_istore c369_1069 (lo' := [(6, (0, v1)), (5, (0, (i : Int))), (0, (9, 0)), (1, (2, Int.ofNat 0)), (2, (2, Int.ofNat 139)), (3, (2, Int.ofNat 153)), (4, (2, Int.ofNat 154))]) rfl rfl rfl ?_
  refine r_aload_n c369_1071 rfl rfl ?_
  refine y_arg c369_1072 c369_1073 c369_1075 c369_1076 c369_1077 rfl rfl rfl hi hL (by decide) ?_
  refine y_arg c369_1078 c369_1079 c369_1081 c369_1082 c369_1083 rfl rfl rfl hi hL (by decide) ?_
  obtain ⟨v2, g2, e2, J2⟩ := t_r_speed (m := (Γ.1 (i + 1))) (k := (Γ.1 (i + 2))) A1 J1
  refine y_cv (a := 0) (b := 0) c369_1084 (by decide) rfl rfl rfl rfl (by omega) (by omega) rfl rfl (wn337 hG (hG.1 (i + 1)) (hG.1 (i + 2)) A1 e2) ?_
  intro i2 A2
  refine r_istore c369_1087 (lo' := [(7, (0, v2)), (6, (0, v1)), (5, (0, (i : Int))), (0, (9, 0)), (1, (2, Int.ofNat 0)), (2, (2, Int.ofNat 139)), (3, (2, Int.ofNat 153)), (4, (2, Int.ofNat 154))]) rfl rfl rfl ?_
  refine r_goto c369_1089 ?_
  refine q_R.wk (ks := [5, 0, 1, 2, 3, 4]) (lo' := y_lo i) rfl ?_
  exact k _ _ _ A2 ⟨⟨_, J2⟩, (j_T_J J2).2⟩ (by omega) (by omega)
end -- [99cc.law]
section -- [99cd.law]
/-! Part 99cd: cases of the law. Printed by wip/tools/genlaw.py. -/
theorem y_k24 {Γ : q_Γ} (hG : q_GG Γ) {i : Nat} (hi : i + 6 ≤ Γ.2.2.2.1) (hL : Γ.2.2.2.1 ≤ 3072) {h : q_F} (hA : q_Al 0 155 h) (J : t_J h) (E : h 1 1 = h 139 14) {cl sl : Nat} (hc : cl ≤ 3900) (hs : sl ≤ 39000) (k : y_K Γ i cl sl) : q_R Γ q_K 155 369 y_P (1092, y_lo i, [], q_hp q_K 155 h, [], cl, sl) := by
  obtain ⟨S, J⟩ := J
  refine r_aload_n c369_1092 rfl rfl ?_
  refine y_arg c369_1093 c369_1094 c369_1096 c369_1097 c369_1098 rfl rfl rfl hi hL (by decide) ?_
  refine y_arg c369_1099 c369_1100 c369_1102 c369_1103 c369_1104 rfl rfl rfl hi hL (by decide) ?_
  refine y_arg c369_1105 c369_1106 c369_1108 c369_1109 c369_1110 rfl rfl rfl hi hL (by decide) ?_
  refine r_aload_n c369_1111 rfl rfl ?_
  obtain ⟨v1, g1, e1, J1⟩ := t_L30 (v1 := (Γ.1 (i + 1))) (v2 := (Γ.1 (i + 2))) (v3 := (Γ.1 (i + 3))) hA J
  refine y_cs (a := 3) (b := 18) c369_1112 rfl rfl (by omega) (by omega) rfl rfl (wn30 hG (hG.1 (i + 1)) (hG.1 (i + 2)) (hG.1 (i + 3)) hA e1) ?_
  intro i1 A1
  refine r_istore c369_1115 (lo' := [(6, (0, v1)), (5, (0, (i : Int))), (0, (9, 0)), (1, (2, Int.ofNat 0)), (2, (2, Int.ofNat 139)), (3, (2, Int.ofNat 153)), (4, (2, Int.ofNat 154))]) rfl rfl rfl ?_
  refine r_aload_n c369_1117 rfl rfl ?_
  refine y_arg c369_1118 c369_1119 c369_1121 c369_1122 c369_1123 rfl rfl rfl hi hL (by decide) ?_
  refine y_arg c369_1124 c369_1125 c369_1127 c369_1128 c369_1129 rfl rfl rfl hi hL (by decide) ?_
  refine y_arg c369_1130 c369_1131 c369_1133 c369_1134 c369_1135 rfl rfl rfl hi hL (by decide) ?_
  obtain ⟨v2, g2, e2, J2⟩ := t_r_behind (m := (Γ.1 (i + 1))) (a := (Γ.1 (i + 2))) (k := (Γ.1 (i + 3))) A1 J1
  refine y_cv (a := 0) (b := 0) c369_1136 (by decide) rfl rfl rfl rfl (by omega) (by omega) rfl rfl (wn341 hG (hG.1 (i + 1)) (hG.1 (i + 2)) (hG.1 (i + 3)) A1 e2) ?_
  intro i2 A2
  refine r_istore c369_1139 (lo' := [(7, (0, v2)), (6, (0, v1)), (5, (0, (i : Int))), (0, (9, 0)), (1, (2, Int.ofNat 0)), (2, (2, Int.ofNat 139)), (3, (2, Int.ofNat 153)), (4, (2, Int.ofNat 154))]) rfl rfl rfl ?_
  refine r_goto c369_1141 ?_
  refine q_R.wk (ks := [5, 0, 1, 2, 3, 4]) (lo' := y_lo i) rfl ?_
  exact k _ _ _ A2 ⟨⟨_, J2⟩, (j_T_J J2).2⟩ (by omega) (by omega)
theorem y_k25 {Γ : q_Γ} (hG : q_GG Γ) {i : Nat} (hi : i + 6 ≤ Γ.2.2.2.1) (hL : Γ.2.2.2.1 ≤ 3072) {h : q_F} (hA : q_Al 0 155 h) (J : t_J h) (E : h 1 1 = h 139 14) {cl sl : Nat} (hc : cl ≤ 3900) (hs : sl ≤ 39000) (k : y_K Γ i cl sl) : q_R Γ q_K 155 369 y_P (1144, y_lo i, [], q_hp q_K 155 h, [], cl, sl) := by
  obtain ⟨S, J⟩ := J
  refine r_aload_n c369_1144 rfl rfl ?_
  refine y_arg c369_1145 c369_1146 c369_1148 c369_1149 c369_1150 rfl rfl rfl hi hL (by decide) ?_
  refine r_aload c369_1151 rfl rfl ?_
  obtain ⟨v1, g1, e1, J1⟩ := t_L6 (v1 := (Γ.1 (i + 1))) hA J
  refine y_cs (a := 1) (b := 6) c369_1153 rfl rfl (by omega) (by omega) rfl rfl (wn6 hG (hG.1 (i + 1)) hA e1) ?_
  intro i1 A1
  refine r_istore c369_1156 (lo' := [(6, (0, v1)), (5, (0, (i : Int))), (0, (9, 0)), (1, (2, Int.ofNat 0)), (2, (2, Int.ofNat 139)), (3, (2, Int.ofNat 153)), (4, (2, Int.ofNat 154))]) rfl rfl rfl ?_
  refine r_aload_n c369_1158 rfl rfl ?_
  refine y_arg c369_1159 c369_1160 c369_1162 c369_1163 c369_1164 rfl rfl rfl hi hL (by decide) ?_
  obtain ⟨v2, g2, e2, J2⟩ := t_r_dev (m := (Γ.1 (i + 1))) A1 J1
  refine y_cv (a := 0) (b := 0) c369_1165 (by decide) rfl rfl rfl rfl (by omega) (by omega) rfl rfl (wn251 hG (hG.1 (i + 1)) A1 e2) ?_
  intro i2 A2
  refine r_fstore c369_1168 (lo' := [(7, (4, v2)), (6, (0, v1)), (5, (0, (i : Int))), (0, (9, 0)), (1, (2, Int.ofNat 0)), (2, (2, Int.ofNat 139)), (3, (2, Int.ofNat 153)), (4, (2, Int.ofNat 154))]) rfl rfl rfl ?_
  refine r_goto c369_1170 ?_
  refine q_R.wk (ks := [5, 0, 1, 2, 3, 4]) (lo' := y_lo i) rfl ?_
  exact k _ _ _ A2 ⟨⟨_, J2⟩, (j_T_J J2).2⟩ (by omega) (by omega)
theorem y_k26 {Γ : q_Γ} (hG : q_GG Γ) {i : Nat} (hi : i + 6 ≤ Γ.2.2.2.1) (hL : Γ.2.2.2.1 ≤ 3072) {h : q_F} (hA : q_Al 0 155 h) (J : t_J h) (E : h 1 1 = h 139 14) {cl sl : Nat} (hc : cl ≤ 3900) (hs : sl ≤ 39000) (k : y_K Γ i cl sl) : q_R Γ q_K 155 369 y_P (1173, y_lo i, [], q_hp q_K 155 h, [], cl, sl) := by
  obtain ⟨S, J⟩ := J
  refine r_aload_n c369_1173 rfl rfl ?_
  refine r_aload_n c369_1174 rfl rfl ?_
  obtain ⟨v1, g1, e1, J1⟩ := t_L10  hA J
  refine y_cs (a := 2) (b := 12) c369_1175 rfl rfl (by omega) (by omega) rfl rfl (wn10 hG  hA e1) ?_
  intro i1 A1
  refine r_istore c369_1178 (lo' := [(6, (0, v1)), (5, (0, (i : Int))), (0, (9, 0)), (1, (2, Int.ofNat 0)), (2, (2, Int.ofNat 139)), (3, (2, Int.ofNat 153)), (4, (2, Int.ofNat 154))]) rfl rfl rfl ?_
  refine r_aload_n c369_1180 rfl rfl ?_
  obtain ⟨v2, g2, e2, J2⟩ := t_r_homeAllC  A1 J1
  refine y_cv (a := 0) (b := 0) c369_1181 (by decide) rfl rfl rfl rfl (by omega) (by omega) rfl rfl (wn264 hG  A1 e2) ?_
  intro i2 A2
  refine r_istore c369_1184 (lo' := [(7, (0, v2)), (6, (0, v1)), (5, (0, (i : Int))), (0, (9, 0)), (1, (2, Int.ofNat 0)), (2, (2, Int.ofNat 139)), (3, (2, Int.ofNat 153)), (4, (2, Int.ofNat 154))]) rfl rfl rfl ?_
  refine r_goto c369_1186 ?_
  refine q_R.wk (ks := [5, 0, 1, 2, 3, 4]) (lo' := y_lo i) rfl ?_
  exact k _ _ _ A2 ⟨⟨_, J2⟩, (j_T_J J2).2⟩ (by omega) (by omega)
theorem y_k27 {Γ : q_Γ} (hG : q_GG Γ) {i : Nat} (hi : i + 6 ≤ Γ.2.2.2.1) (hL : Γ.2.2.2.1 ≤ 3072) {h : q_F} (hA : q_Al 0 155 h) (J : t_J h) (E : h 1 1 = h 139 14) {cl sl : Nat} (hc : cl ≤ 3900) (hs : sl ≤ 39000) (k : y_K Γ i cl sl) : q_R Γ q_K 155 369 y_P (1189, y_lo i, [], q_hp q_K 155 h, [], cl, sl) := by
  obtain ⟨S, J⟩ := J
  refine r_aload_n c369_1189 rfl rfl ?_
  obtain ⟨v1, g1, e1, J1⟩ := t_c_runAll  hA J
  refine y_cv (a := 0) (b := 0) c369_1190 (by decide) rfl rfl rfl rfl (by omega) (by omega) rfl rfl (wn208 hG  hA e1) ?_
  intro i1 A1
  refine r_pop c369_1193 rfl rfl ?_
  refine r_aload_n c369_1194 rfl rfl ?_
  obtain ⟨v2, g2, e2, J2⟩ := t_r_runAll  A1 J1
  refine y_cv (a := 0) (b := 0) c369_1195 (by decide) rfl rfl rfl rfl (by omega) (by omega) rfl rfl (wn325 hG  A1 e2) ?_
  intro i2 A2
  refine r_pop c369_1198 rfl rfl ?_
  refine r_goto c369_1199 ?_
  refine q_R.wk (ks := [5, 0, 1, 2, 3, 4]) (lo' := y_lo i) rfl ?_
  exact k _ _ _ A2 ⟨⟨_, J2⟩, (j_T_J J2).2⟩ (by omega) (by omega)
theorem y_k28 {Γ : q_Γ} (hG : q_GG Γ) {i : Nat} (hi : i + 6 ≤ Γ.2.2.2.1) (hL : Γ.2.2.2.1 ≤ 3072) {h : q_F} (hA : q_Al 0 155 h) (J : t_J h) (E : h 1 1 = h 139 14) {cl sl : Nat} (hc : cl ≤ 3900) (hs : sl ≤ 39000) (k : y_K Γ i cl sl) : q_R Γ q_K 155 369 y_P (1202, y_lo i, [], q_hp q_K 155 h, [], cl, sl) := by
  obtain ⟨S, J⟩ := J
  refine r_aload_n c369_1202 rfl rfl ?_
  refine y_arg c369_1203 c369_1204 c369_1206 c369_1207 c369_1208 rfl rfl rfl hi hL (by decide) ?_
  refine y_arg c369_1209 c369_1210 c369_1212 c369_1213 c369_1214 rfl rfl rfl hi hL (by decide) ?_
  refine y_arg c369_1215 c369_1216 c369_1218 c369_1219 c369_1220 rfl rfl rfl hi hL (by decide) ?_
  refine y_arg c369_1221 c369_1222 c369_1224 c369_1225 c369_1226 rfl rfl rfl hi hL (by decide) ?_
  refine r_aload_n c369_1227 rfl rfl ?_
  obtain ⟨v1, g1, e1, J1⟩ := t_L11 (v1 := (Γ.1 (i + 1))) (v2 := (Γ.1 (i + 2))) (v3 := (Γ.1 (i + 3))) (v4 := (Γ.1 (i + 4))) hA J
  refine y_cs (a := 6) (b := 36) c369_1228 rfl rfl (by omega) (by omega) rfl rfl (wn11 hG (hG.1 (i + 1)) (hG.1 (i + 2)) (hG.1 (i + 3)) (hG.1 (i + 4)) hA e1) ?_
  intro i1 A1
  refine r_istore c369_1231 (lo' := [(6, (0, v1)), (5, (0, (i : Int))), (0, (9, 0)), (1, (2, Int.ofNat 0)), (2, (2, Int.ofNat 139)), (3, (2, Int.ofNat 153)), (4, (2, Int.ofNat 154))]) rfl rfl rfl ?_
  refine r_aload_n c369_1233 rfl rfl ?_
  refine y_arg c369_1234 c369_1235 c369_1237 c369_1238 c369_1239 rfl rfl rfl hi hL (by decide) ?_
  refine y_arg c369_1240 c369_1241 c369_1243 c369_1244 c369_1245 rfl rfl rfl hi hL (by decide) ?_
  refine y_arg c369_1246 c369_1247 c369_1249 c369_1250 c369_1251 rfl rfl rfl hi hL (by decide) ?_
  refine y_arg c369_1252 c369_1253 c369_1255 c369_1256 c369_1257 rfl rfl rfl hi hL (by decide) ?_
  obtain ⟨v2, g2, e2, J2⟩ := t_r_insertC (i := (Γ.1 (i + 1))) (x := (Γ.1 (i + 2))) (y := (Γ.1 (i + 3))) (z := (Γ.1 (i + 4))) A1 J1
  refine y_cv (a := 0) (b := 0) c369_1258 (by decide) rfl rfl rfl rfl (by omega) (by omega) rfl rfl (wn269 hG (hG.1 (i + 1)) (hG.1 (i + 2)) (hG.1 (i + 3)) (hG.1 (i + 4)) A1 e2) ?_
  intro i2 A2
  refine r_istore c369_1261 (lo' := [(7, (0, v2)), (6, (0, v1)), (5, (0, (i : Int))), (0, (9, 0)), (1, (2, Int.ofNat 0)), (2, (2, Int.ofNat 139)), (3, (2, Int.ofNat 153)), (4, (2, Int.ofNat 154))]) rfl rfl rfl ?_
  refine r_goto c369_1263 ?_
  refine q_R.wk (ks := [5, 0, 1, 2, 3, 4]) (lo' := y_lo i) rfl ?_
  exact k _ _ _ A2 ⟨⟨_, J2⟩, (j_T_J J2).2⟩ (by omega) (by omega)
theorem y_k29 {Γ : q_Γ} (hG : q_GG Γ) {i : Nat} (hi : i + 6 ≤ Γ.2.2.2.1) (hL : Γ.2.2.2.1 ≤ 3072) {h : q_F} (hA : q_Al 0 155 h) (J : t_J h) (E : h 1 1 = h 139 14) {cl sl : Nat} (hc : cl ≤ 3900) (hs : sl ≤ 39000) (k : y_K Γ i cl sl) : q_R Γ q_K 155 369 y_P (1266, y_lo i, [], q_hp q_K 155 h, [], cl, sl) := by
  obtain ⟨S, J⟩ := J
  refine r_aload_n c369_1266 rfl rfl ?_
  refine y_arg c369_1267 c369_1268 c369_1270 c369_1271 c369_1272 rfl rfl rfl hi hL (by decide) ?_
  refine r_aload_n c369_1273 rfl rfl ?_
  obtain ⟨v1, g1, e1, J1⟩ := t_L7 (v1 := (Γ.1 (i + 1))) hA J
  refine y_cs (a := 2) (b := 12) c369_1274 rfl rfl (by omega) (by omega) rfl rfl (wn7 hG (hG.1 (i + 1)) hA e1) ?_
  intro i1 A1
  refine r_istore c369_1277 (lo' := [(6, (0, v1)), (5, (0, (i : Int))), (0, (9, 0)), (1, (2, Int.ofNat 0)), (2, (2, Int.ofNat 139)), (3, (2, Int.ofNat 153)), (4, (2, Int.ofNat 154))]) rfl rfl rfl ?_
  refine r_aload_n c369_1279 rfl rfl ?_
  refine y_arg c369_1280 c369_1281 c369_1283 c369_1284 c369_1285 rfl rfl rfl hi hL (by decide) ?_
  obtain ⟨v2, g2, e2, J2⟩ := t_r_dropC (m := (Γ.1 (i + 1))) A1 J1
  refine y_cv (a := 0) (b := 0) c369_1286 (by decide) rfl rfl rfl rfl (by omega) (by omega) rfl rfl (wn252 hG (hG.1 (i + 1)) A1 e2) ?_
  intro i2 A2
  refine r_istore c369_1289 (lo' := [(7, (0, v2)), (6, (0, v1)), (5, (0, (i : Int))), (0, (9, 0)), (1, (2, Int.ofNat 0)), (2, (2, Int.ofNat 139)), (3, (2, Int.ofNat 153)), (4, (2, Int.ofNat 154))]) rfl rfl rfl ?_
  refine r_goto c369_1291 ?_
  refine q_R.wk (ks := [5, 0, 1, 2, 3, 4]) (lo' := y_lo i) rfl ?_
  exact k _ _ _ A2 ⟨⟨_, J2⟩, (j_T_J J2).2⟩ (by omega) (by omega)
theorem y_k30 {Γ : q_Γ} (hG : q_GG Γ) {i : Nat} (hi : i + 6 ≤ Γ.2.2.2.1) (hL : Γ.2.2.2.1 ≤ 3072) {h : q_F} (hA : q_Al 0 155 h) (J : t_J h) (E : h 1 1 = h 139 14) {cl sl : Nat} (hc : cl ≤ 3900) (hs : sl ≤ 39000) (k : y_K Γ i cl sl) : q_R Γ q_K 155 369 y_P (1294, y_lo i, [], q_hp q_K 155 h, [], cl, sl) := by
  obtain ⟨S, J⟩ := J
  refine r_aload_n c369_1294 rfl rfl ?_
  refine y_arg c369_1295 c369_1296 c369_1298 c369_1299 c369_1300 rfl rfl rfl hi hL (by decide) ?_
  refine y_arg c369_1301 c369_1302 c369_1304 c369_1305 c369_1306 rfl rfl rfl hi hL (by decide) ?_
  refine r_aload_n c369_1307 rfl rfl ?_
  obtain ⟨v1, g1, e1, J1⟩ := t_L32 (v1 := (Γ.1 (i + 1))) (v2 := (Γ.1 (i + 2))) hA J
  refine y_cs (a := 3) (b := 18) c369_1308 rfl rfl (by omega) (by omega) rfl rfl (wn32 hG (hG.1 (i + 1)) (hG.1 (i + 2)) hA e1) ?_
  intro i1 A1
  refine r_istore c369_1311 (lo' := [(6, (0, v1)), (5, (0, (i : Int))), (0, (9, 0)), (1, (2, Int.ofNat 0)), (2, (2, Int.ofNat 139)), (3, (2, Int.ofNat 153)), (4, (2, Int.ofNat 154))]) rfl rfl rfl ?_
  refine r_aload_n c369_1313 rfl rfl ?_
  refine y_arg c369_1314 c369_1315 c369_1317 c369_1318 c369_1319 rfl rfl rfl hi hL (by decide) ?_
  refine y_arg c369_1320 c369_1321 c369_1323 c369_1324 c369_1325 rfl rfl rfl hi hL (by decide) ?_
  obtain ⟨v2, g2, e2, J2⟩ := t_r_swapC (m := (Γ.1 (i + 1))) (o := (Γ.1 (i + 2))) A1 J1
  refine y_cv (a := 0) (b := 0) c369_1326 (by decide) rfl rfl rfl rfl (by omega) (by omega) rfl rfl (wn346 hG (hG.1 (i + 1)) (hG.1 (i + 2)) A1 e2) ?_
  intro i2 A2
  refine r_istore c369_1329 (lo' := [(7, (0, v2)), (6, (0, v1)), (5, (0, (i : Int))), (0, (9, 0)), (1, (2, Int.ofNat 0)), (2, (2, Int.ofNat 139)), (3, (2, Int.ofNat 153)), (4, (2, Int.ofNat 154))]) rfl rfl rfl ?_
  refine r_goto c369_1331 ?_
  refine q_R.wk (ks := [5, 0, 1, 2, 3, 4]) (lo' := y_lo i) rfl ?_
  exact k _ _ _ A2 ⟨⟨_, J2⟩, (j_T_J J2).2⟩ (by omega) (by omega)
theorem y_k31 {Γ : q_Γ} (hG : q_GG Γ) {i : Nat} (hi : i + 6 ≤ Γ.2.2.2.1) (hL : Γ.2.2.2.1 ≤ 3072) {h : q_F} (hA : q_Al 0 155 h) (J : t_J h) (E : h 1 1 = h 139 14) {cl sl : Nat} (hc : cl ≤ 3900) (hs : sl ≤ 39000) (k : y_K Γ i cl sl) : q_R Γ q_K 155 369 y_P (1334, y_lo i, [], q_hp q_K 155 h, [], cl, sl) := by
  obtain ⟨S, J⟩ := J
  refine r_aload_n c369_1334 rfl rfl ?_
  refine y_arg c369_1335 c369_1336 c369_1338 c369_1339 c369_1340 rfl rfl rfl hi hL (by decide) ?_
  refine y_arg c369_1341 c369_1342 c369_1344 c369_1345 c369_1346 rfl rfl rfl hi hL (by decide) ?_
  refine y_arg c369_1347 c369_1348 c369_1350 c369_1351 c369_1352 rfl rfl rfl hi hL (by decide) ?_
  refine r_aload_n c369_1353 rfl rfl ?_
  obtain ⟨v1, g1, e1, J1⟩ := t_L19 (v1 := (Γ.1 (i + 1))) (v2 := (Γ.1 (i + 2))) (v3 := (Γ.1 (i + 3))) hA J
  refine y_cs (a := 3) (b := 18) c369_1354 rfl rfl (by omega) (by omega) rfl rfl (wn19 hG (hG.1 (i + 1)) (hG.1 (i + 2)) (hG.1 (i + 3)) hA e1) ?_
  intro i1 A1
  refine r_istore c369_1357 (lo' := [(6, (0, v1)), (5, (0, (i : Int))), (0, (9, 0)), (1, (2, Int.ofNat 0)), (2, (2, Int.ofNat 139)), (3, (2, Int.ofNat 153)), (4, (2, Int.ofNat 154))]) rfl rfl rfl ?_
  refine r_aload_n c369_1359 rfl rfl ?_
  refine y_arg c369_1360 c369_1361 c369_1363 c369_1364 c369_1365 rfl rfl rfl hi hL (by decide) ?_
  refine y_arg c369_1366 c369_1367 c369_1369 c369_1370 c369_1371 rfl rfl rfl hi hL (by decide) ?_
  refine y_arg c369_1372 c369_1373 c369_1375 c369_1376 c369_1377 rfl rfl rfl hi hL (by decide) ?_
  obtain ⟨v2, g2, e2, J2⟩ := t_r_pointAt (m := (Γ.1 (i + 1))) (a := (Γ.1 (i + 2))) (k := (Γ.1 (i + 3))) A1 J1
  refine y_cv (a := 0) (b := 0) c369_1378 (by decide) rfl rfl rfl rfl (by omega) (by omega) rfl rfl (wn306 hG (hG.1 (i + 1)) (hG.1 (i + 2)) (hG.1 (i + 3)) A1 e2) ?_
  intro i2 A2
  refine r_istore c369_1381 (lo' := [(7, (0, v2)), (6, (0, v1)), (5, (0, (i : Int))), (0, (9, 0)), (1, (2, Int.ofNat 0)), (2, (2, Int.ofNat 139)), (3, (2, Int.ofNat 153)), (4, (2, Int.ofNat 154))]) rfl rfl rfl ?_
  refine r_goto c369_1383 ?_
  refine q_R.wk (ks := [5, 0, 1, 2, 3, 4]) (lo' := y_lo i) rfl ?_
  exact k _ _ _ A2 ⟨⟨_, J2⟩, (j_T_J J2).2⟩ (by omega) (by omega)
end -- [99cd.law]
section -- [99ce.law]
/-! Part 99ce: cases of the law. Printed by wip/tools/genlaw.py. -/
theorem y_k32 {Γ : q_Γ} (hG : q_GG Γ) {i : Nat} (hi : i + 6 ≤ Γ.2.2.2.1) (hL : Γ.2.2.2.1 ≤ 3072) {h : q_F} (hA : q_Al 0 155 h) (J : t_J h) (E : h 1 1 = h 139 14) {cl sl : Nat} (hc : cl ≤ 3900) (hs : sl ≤ 39000) (k : y_K Γ i cl sl) : q_R Γ q_K 155 369 y_P (1386, y_lo i, [], q_hp q_K 155 h, [], cl, sl) := by
  obtain ⟨S, J⟩ := J
  refine r_aload_n c369_1386 rfl rfl ?_
  refine y_arg c369_1387 c369_1388 c369_1390 c369_1391 c369_1392 rfl rfl rfl hi hL (by decide) ?_
  refine y_arg c369_1393 c369_1394 c369_1396 c369_1397 c369_1398 rfl rfl rfl hi hL (by decide) ?_
  refine y_nz c369_1399 c369_1402 c369_1403 c369_1406 rfl (hG.1 (i + 2)) ?_
  refine r_aload_n c369_1407 rfl rfl ?_
  obtain ⟨v1, g1, e1, J1⟩ := t_L21 (v1 := (Γ.1 (i + 1))) (v2 := (y_nzv (Γ.1 (i + 2)))) hA J
  refine y_cs (a := 1) (b := 6) c369_1408 rfl rfl (by omega) (by omega) rfl rfl (wn21 hG (hG.1 (i + 1)) (y_nz01 (Γ.1 (i + 2))) hA e1) ?_
  intro i1 A1
  refine r_istore c369_1411 (lo' := [(6, (0, v1)), (5, (0, (i : Int))), (0, (9, 0)), (1, (2, Int.ofNat 0)), (2, (2, Int.ofNat 139)), (3, (2, Int.ofNat 153)), (4, (2, Int.ofNat 154))]) rfl rfl rfl ?_
  refine r_aload_n c369_1413 rfl rfl ?_
  refine y_arg c369_1414 c369_1415 c369_1417 c369_1418 c369_1419 rfl rfl rfl hi hL (by decide) ?_
  refine y_arg c369_1420 c369_1421 c369_1423 c369_1424 c369_1425 rfl rfl rfl hi hL (by decide) ?_
  refine y_nz c369_1426 c369_1429 c369_1430 c369_1433 rfl (hG.1 (i + 2)) ?_
  obtain ⟨v2, g2, e2, J2⟩ := t_r_ramp (m := (Γ.1 (i + 1))) (v := (y_nzv (Γ.1 (i + 2)))) A1 J1
  refine y_cv (a := 0) (b := 0) c369_1434 (by decide) rfl rfl rfl rfl (by omega) (by omega) rfl rfl (wn313 hG (hG.1 (i + 1)) (y_nz01 (Γ.1 (i + 2))) A1 e2) ?_
  intro i2 A2
  refine r_istore c369_1437 (lo' := [(7, (0, v2)), (6, (0, v1)), (5, (0, (i : Int))), (0, (9, 0)), (1, (2, Int.ofNat 0)), (2, (2, Int.ofNat 139)), (3, (2, Int.ofNat 153)), (4, (2, Int.ofNat 154))]) rfl rfl rfl ?_
  refine r_goto c369_1439 ?_
  refine q_R.wk (ks := [5, 0, 1, 2, 3, 4]) (lo' := y_lo i) rfl ?_
  exact k _ _ _ A2 ⟨⟨_, J2⟩, (j_T_J J2).2⟩ (by omega) (by omega)
theorem y_k33 {Γ : q_Γ} (hG : q_GG Γ) {i : Nat} (hi : i + 6 ≤ Γ.2.2.2.1) (hL : Γ.2.2.2.1 ≤ 3072) {h : q_F} (hA : q_Al 0 155 h) (J : t_J h) (E : h 1 1 = h 139 14) {cl sl : Nat} (hc : cl ≤ 3900) (hs : sl ≤ 39000) (k : y_K Γ i cl sl) : q_R Γ q_K 155 369 y_P (1442, y_lo i, [], q_hp q_K 155 h, [], cl, sl) := by
  obtain ⟨S, J⟩ := J
  refine r_aload_n c369_1442 rfl rfl ?_
  refine y_arg c369_1443 c369_1444 c369_1446 c369_1447 c369_1448 rfl rfl rfl hi hL (by decide) ?_
  refine r_aload_n c369_1449 rfl rfl ?_
  obtain ⟨v1, g1, e1, J1⟩ := t_L28 (v1 := (Γ.1 (i + 1))) hA J
  refine y_cs (a := 1) (b := 6) c369_1450 rfl rfl (by omega) (by omega) rfl rfl (wn28 hG (hG.1 (i + 1)) hA e1) ?_
  intro i1 A1
  refine r_istore c369_1453 (lo' := [(6, (0, v1)), (5, (0, (i : Int))), (0, (9, 0)), (1, (2, Int.ofNat 0)), (2, (2, Int.ofNat 139)), (3, (2, Int.ofNat 153)), (4, (2, Int.ofNat 154))]) rfl rfl rfl ?_
  refine r_aload_n c369_1455 rfl rfl ?_
  refine y_arg c369_1456 c369_1457 c369_1459 c369_1460 c369_1461 rfl rfl rfl hi hL (by decide) ?_
  obtain ⟨v2, g2, e2, J2⟩ := t_r_slowest (m := (Γ.1 (i + 1))) A1 J1
  refine y_cv (a := 0) (b := 0) c369_1462 (by decide) rfl rfl rfl rfl (by omega) (by omega) rfl rfl (wn336 hG (hG.1 (i + 1)) A1 e2) ?_
  intro i2 A2
  refine r_istore c369_1465 (lo' := [(7, (0, v2)), (6, (0, v1)), (5, (0, (i : Int))), (0, (9, 0)), (1, (2, Int.ofNat 0)), (2, (2, Int.ofNat 139)), (3, (2, Int.ofNat 153)), (4, (2, Int.ofNat 154))]) rfl rfl rfl ?_
  refine r_goto c369_1467 ?_
  refine q_R.wk (ks := [5, 0, 1, 2, 3, 4]) (lo' := y_lo i) rfl ?_
  exact k _ _ _ A2 ⟨⟨_, J2⟩, (j_T_J J2).2⟩ (by omega) (by omega)
theorem y_k34 {Γ : q_Γ} (hG : q_GG Γ) {i : Nat} (hi : i + 6 ≤ Γ.2.2.2.1) (hL : Γ.2.2.2.1 ≤ 3072) {h : q_F} (hA : q_Al 0 155 h) (J : t_J h) (E : h 1 1 = h 139 14) {cl sl : Nat} (hc : cl ≤ 3900) (hs : sl ≤ 39000) (k : y_K Γ i cl sl) : q_R Γ q_K 155 369 y_P (1470, y_lo i, [], q_hp q_K 155 h, [], cl, sl) := by
  obtain ⟨S, J⟩ := J
  refine r_aload_n c369_1470 rfl rfl ?_
  obtain ⟨v1, g1, e1, J1⟩ := t_c_pairs  hA J
  refine y_cv (a := 0) (b := 0) c369_1471 (by decide) rfl rfl rfl rfl (by omega) (by omega) rfl rfl (wn218 hG  hA e1) ?_
  intro i1 A1
  refine r_pop c369_1474 rfl rfl ?_
  refine r_aload_n c369_1475 rfl rfl ?_
  obtain ⟨v2, g2, e2, J2⟩ := t_r_pairs  A1 J1
  refine y_cv (a := 0) (b := 0) c369_1476 (by decide) rfl rfl rfl rfl (by omega) (by omega) rfl rfl (wn344 hG  A1 e2) ?_
  intro i2 A2
  refine r_pop c369_1479 rfl rfl ?_
  refine r_goto c369_1480 ?_
  refine q_R.wk (ks := [5, 0, 1, 2, 3, 4]) (lo' := y_lo i) rfl ?_
  exact k _ _ _ A2 ⟨⟨_, J2⟩, (j_T_J J2).2⟩ (by omega) (by omega)
theorem y_k35 {Γ : q_Γ} (hG : q_GG Γ) {i : Nat} (hi : i + 6 ≤ Γ.2.2.2.1) (hL : Γ.2.2.2.1 ≤ 3072) {h : q_F} (hA : q_Al 0 155 h) (J : t_J h) (E : h 1 1 = h 139 14) {cl sl : Nat} (hc : cl ≤ 3900) (hs : sl ≤ 39000) (k : y_K Γ i cl sl) : q_R Γ q_K 155 369 y_P (1483, y_lo i, [], q_hp q_K 155 h, [], cl, sl) := by
  obtain ⟨S, J⟩ := J
  refine r_aload_n c369_1483 rfl rfl ?_
  refine y_arg c369_1484 c369_1485 c369_1487 c369_1488 c369_1489 rfl rfl rfl hi hL (by decide) ?_
  refine y_arg c369_1490 c369_1491 c369_1493 c369_1494 c369_1495 rfl rfl rfl hi hL (by decide) ?_
  refine y_nz c369_1496 c369_1499 c369_1500 c369_1503 rfl (hG.1 (i + 2)) ?_
  refine r_aload_n c369_1504 rfl rfl ?_
  obtain ⟨v1, g1, e1, J1⟩ := t_L3 (v1 := (Γ.1 (i + 1))) (v2 := (y_nzv (Γ.1 (i + 2)))) hA J
  refine y_cs (a := 2) (b := 12) c369_1505 rfl rfl (by omega) (by omega) rfl rfl (wn3 hG (hG.1 (i + 1)) (y_nz01 (Γ.1 (i + 2))) hA e1) ?_
  intro i1 A1
  refine r_istore c369_1508 (lo' := [(6, (0, v1)), (5, (0, (i : Int))), (0, (9, 0)), (1, (2, Int.ofNat 0)), (2, (2, Int.ofNat 139)), (3, (2, Int.ofNat 153)), (4, (2, Int.ofNat 154))]) rfl rfl rfl ?_
  refine r_aload_n c369_1510 rfl rfl ?_
  refine y_arg c369_1511 c369_1512 c369_1514 c369_1515 c369_1516 rfl rfl rfl hi hL (by decide) ?_
  refine y_arg c369_1517 c369_1518 c369_1520 c369_1521 c369_1522 rfl rfl rfl hi hL (by decide) ?_
  refine y_nz c369_1523 c369_1526 c369_1527 c369_1530 rfl (hG.1 (i + 2)) ?_
  obtain ⟨v2, g2, e2, J2⟩ := t_r_bound (a := (Γ.1 (i + 1))) (u := (y_nzv (Γ.1 (i + 2)))) A1 J1
  refine y_cv (a := 0) (b := 0) c369_1531 (by decide) rfl rfl rfl rfl (by omega) (by omega) rfl rfl (wn244 hG (hG.1 (i + 1)) (y_nz01 (Γ.1 (i + 2))) A1 e2) ?_
  intro i2 A2
  refine r_istore c369_1534 (lo' := [(7, (0, v2)), (6, (0, v1)), (5, (0, (i : Int))), (0, (9, 0)), (1, (2, Int.ofNat 0)), (2, (2, Int.ofNat 139)), (3, (2, Int.ofNat 153)), (4, (2, Int.ofNat 154))]) rfl rfl rfl ?_
  refine r_goto c369_1536 ?_
  refine q_R.wk (ks := [5, 0, 1, 2, 3, 4]) (lo' := y_lo i) rfl ?_
  exact k _ _ _ A2 ⟨⟨_, J2⟩, (j_T_J J2).2⟩ (by omega) (by omega)
theorem y_k36 {Γ : q_Γ} (hG : q_GG Γ) {i : Nat} (hi : i + 6 ≤ Γ.2.2.2.1) (hL : Γ.2.2.2.1 ≤ 3072) {h : q_F} (hA : q_Al 0 155 h) (J : t_J h) (E : h 1 1 = h 139 14) {cl sl : Nat} (hc : cl ≤ 3900) (hs : sl ≤ 39000) (k : y_K Γ i cl sl) : q_R Γ q_K 155 369 y_P (1539, y_lo i, [], q_hp q_K 155 h, [], cl, sl) := by
  obtain ⟨S, J⟩ := J
  refine r_aload_n c369_1539 rfl rfl ?_
  refine y_arg c369_1540 c369_1541 c369_1543 c369_1544 c369_1545 rfl rfl rfl hi hL (by decide) ?_
  refine y_arg c369_1546 c369_1547 c369_1549 c369_1550 c369_1551 rfl rfl rfl hi hL (by decide) ?_
  refine y_arg c369_1552 c369_1553 c369_1555 c369_1556 c369_1557 rfl rfl rfl hi hL (by decide) ?_
  obtain ⟨S1, hm1, hI1⟩ := ((j_T_J J).1).1
  obtain ⟨v1, e1⟩ := c_nearest (x := (Γ.1 (i + 1))) (y := (Γ.1 (i + 2))) (z := (Γ.1 (i + 3))) hI1 hm1
  refine y_cp (a := 0) (b := 0) c369_1558 (by decide) rfl rfl rfl rfl (by omega) (by omega) rfl rfl (wn192 hG (hG.1 (i + 1)) (hG.1 (i + 2)) (hG.1 (i + 3)) hA e1) ?_
  intro i1
  refine r_pop c369_1561 rfl rfl ?_
  refine r_aload_n c369_1562 rfl rfl ?_
  refine y_arg c369_1563 c369_1564 c369_1566 c369_1567 c369_1568 rfl rfl rfl hi hL (by decide) ?_
  refine y_arg c369_1569 c369_1570 c369_1572 c369_1573 c369_1574 rfl rfl rfl hi hL (by decide) ?_
  refine y_arg c369_1575 c369_1576 c369_1578 c369_1579 c369_1580 rfl rfl rfl hi hL (by decide) ?_
  obtain ⟨v2, g2, e2, J2⟩ := t_r_nearest (x := (Γ.1 (i + 1))) (y := (Γ.1 (i + 2))) (z := (Γ.1 (i + 3))) hA J
  refine y_cv (a := 0) (b := 0) c369_1581 (by decide) rfl rfl rfl rfl (by omega) (by omega) rfl rfl (wn295 hG (hG.1 (i + 1)) (hG.1 (i + 2)) (hG.1 (i + 3)) hA e2) ?_
  intro i2 A2
  refine r_pop c369_1584 rfl rfl ?_
  refine r_goto c369_1585 ?_
  refine q_R.wk (ks := [5, 0, 1, 2, 3, 4]) (lo' := y_lo i) rfl ?_
  exact k _ _ _ A2 ⟨⟨_, J2⟩, (j_T_J J2).2⟩ (by omega) (by omega)
theorem y_k37 {Γ : q_Γ} (hG : q_GG Γ) {i : Nat} (hi : i + 6 ≤ Γ.2.2.2.1) (hL : Γ.2.2.2.1 ≤ 3072) {h : q_F} (hA : q_Al 0 155 h) (J : t_J h) (E : h 1 1 = h 139 14) {cl sl : Nat} (hc : cl ≤ 3900) (hs : sl ≤ 39000) (k : y_K Γ i cl sl) : q_R Γ q_K 155 369 y_P (1588, y_lo i, [], q_hp q_K 155 h, [], cl, sl) := by
  obtain ⟨S, J⟩ := J
  refine r_aload_n c369_1588 rfl rfl ?_
  refine y_arg c369_1589 c369_1590 c369_1592 c369_1593 c369_1594 rfl rfl rfl hi hL (by decide) ?_
  refine r_aload_n c369_1595 rfl rfl ?_
  obtain ⟨v1, g1, e1, J1⟩ := t_L18 (v1 := (Γ.1 (i + 1))) hA J
  refine y_cs (a := 1) (b := 6) c369_1596 rfl rfl (by omega) (by omega) rfl rfl (wn18 hG (hG.1 (i + 1)) hA e1) ?_
  intro i1 A1
  refine r_istore c369_1599 (lo' := [(6, (0, v1)), (5, (0, (i : Int))), (0, (9, 0)), (1, (2, Int.ofNat 0)), (2, (2, Int.ofNat 139)), (3, (2, Int.ofNat 153)), (4, (2, Int.ofNat 154))]) rfl rfl rfl ?_
  refine r_aload_n c369_1601 rfl rfl ?_
  refine y_arg c369_1602 c369_1603 c369_1605 c369_1606 c369_1607 rfl rfl rfl hi hL (by decide) ?_
  obtain ⟨v2, g2, e2, J2⟩ := t_r_nord (i := (Γ.1 (i + 1))) A1 J1
  refine y_cv (a := 0) (b := 0) c369_1608 (by decide) rfl rfl rfl rfl (by omega) (by omega) rfl rfl (wn297 hG (hG.1 (i + 1)) A1 e2) ?_
  intro i2 A2
  refine r_istore c369_1611 (lo' := [(7, (0, v2)), (6, (0, v1)), (5, (0, (i : Int))), (0, (9, 0)), (1, (2, Int.ofNat 0)), (2, (2, Int.ofNat 139)), (3, (2, Int.ofNat 153)), (4, (2, Int.ofNat 154))]) rfl rfl rfl ?_
  refine r_goto c369_1613 ?_
  refine q_R.wk (ks := [5, 0, 1, 2, 3, 4]) (lo' := y_lo i) rfl ?_
  exact k _ _ _ A2 ⟨⟨_, J2⟩, (j_T_J J2).2⟩ (by omega) (by omega)
theorem y_k38 {Γ : q_Γ} (hG : q_GG Γ) {i : Nat} (hi : i + 6 ≤ Γ.2.2.2.1) (hL : Γ.2.2.2.1 ≤ 3072) {h : q_F} (hA : q_Al 0 155 h) (J : t_J h) (E : h 1 1 = h 139 14) {cl sl : Nat} (hc : cl ≤ 3900) (hs : sl ≤ 39000) (k : y_K Γ i cl sl) : q_R Γ q_K 155 369 y_P (1616, y_lo i, [], q_hp q_K 155 h, [], cl, sl) := by
  obtain ⟨S, J⟩ := J
  refine r_aload_n c369_1616 rfl rfl ?_
  refine y_arg c369_1617 c369_1618 c369_1620 c369_1621 c369_1622 rfl rfl rfl hi hL (by decide) ?_
  refine r_aload_n c369_1623 rfl rfl ?_
  obtain ⟨v1, g1, e1, J1⟩ := t_L13 (v1 := (Γ.1 (i + 1))) hA J
  refine y_cs (a := 1) (b := 6) c369_1624 rfl rfl (by omega) (by omega) rfl rfl (wn13 hG (hG.1 (i + 1)) hA e1) ?_
  intro i1 A1
  refine r_istore c369_1627 (lo' := [(6, (0, v1)), (5, (0, (i : Int))), (0, (9, 0)), (1, (2, Int.ofNat 0)), (2, (2, Int.ofNat 139)), (3, (2, Int.ofNat 153)), (4, (2, Int.ofNat 154))]) rfl rfl rfl ?_
  refine r_aload_n c369_1629 rfl rfl ?_
  refine y_arg c369_1630 c369_1631 c369_1633 c369_1634 c369_1635 rfl rfl rfl hi hL (by decide) ?_
  obtain ⟨v2, g2, e2, J2⟩ := t_r_lasts (m := (Γ.1 (i + 1))) A1 J1
  refine y_cv (a := 0) (b := 0) c369_1636 (by decide) rfl rfl rfl rfl (by omega) (by omega) rfl rfl (wn276 hG (hG.1 (i + 1)) A1 e2) ?_
  intro i2 A2
  refine r_lstore c369_1639 (lo' := [(7, (1, v2)), (6, (0, v1)), (5, (0, (i : Int))), (0, (9, 0)), (1, (2, Int.ofNat 0)), (2, (2, Int.ofNat 139)), (3, (2, Int.ofNat 153)), (4, (2, Int.ofNat 154))]) rfl rfl rfl ?_
  refine r_goto c369_1641 ?_
  refine q_R.wk (ks := [5, 0, 1, 2, 3, 4]) (lo' := y_lo i) rfl ?_
  exact k _ _ _ A2 ⟨⟨_, J2⟩, (j_T_J J2).2⟩ (by omega) (by omega)
theorem y_k39 {Γ : q_Γ} (hG : q_GG Γ) {i : Nat} (hi : i + 6 ≤ Γ.2.2.2.1) (hL : Γ.2.2.2.1 ≤ 3072) {h : q_F} (hA : q_Al 0 155 h) (J : t_J h) (E : h 1 1 = h 139 14) {cl sl : Nat} (hc : cl ≤ 3900) (hs : sl ≤ 39000) (k : y_K Γ i cl sl) : q_R Γ q_K 155 369 y_P (1644, y_lo i, [], q_hp q_K 155 h, [], cl, sl) := by
  obtain ⟨S, J⟩ := J
  refine r_aload_n c369_1644 rfl rfl ?_
  refine y_arg c369_1645 c369_1646 c369_1648 c369_1649 c369_1650 rfl rfl rfl hi hL (by decide) ?_
  refine y_arg c369_1651 c369_1652 c369_1654 c369_1655 c369_1656 rfl rfl rfl hi hL (by decide) ?_
  refine r_aload_n c369_1657 rfl rfl ?_
  obtain ⟨v1, g1, e1, J1⟩ := t_L38 (v1 := (Γ.1 (i + 1))) (v2 := (Γ.1 (i + 2))) hA J
  refine y_cs (a := 3) (b := 18) c369_1658 rfl rfl (by omega) (by omega) rfl rfl (wn38 hG (hG.1 (i + 1)) (hG.1 (i + 2)) hA e1) ?_
  intro i1 A1
  refine r_istore c369_1661 (lo' := [(6, (0, v1)), (5, (0, (i : Int))), (0, (9, 0)), (1, (2, Int.ofNat 0)), (2, (2, Int.ofNat 139)), (3, (2, Int.ofNat 153)), (4, (2, Int.ofNat 154))]) rfl rfl rfl ?_
  refine r_aload_n c369_1663 rfl rfl ?_
  refine y_arg c369_1664 c369_1665 c369_1667 c369_1668 c369_1669 rfl rfl rfl hi hL (by decide) ?_
  refine y_arg c369_1670 c369_1671 c369_1673 c369_1674 c369_1675 rfl rfl rfl hi hL (by decide) ?_
  obtain ⟨v2, g2, e2, J2⟩ := t_r_where (a := (Γ.1 (i + 1))) (t := (Γ.1 (i + 2))) A1 J1
  refine y_cv (a := 0) (b := 0) c369_1676 (by decide) rfl rfl rfl rfl (by omega) (by omega) rfl rfl (wn362 hG (hG.1 (i + 1)) (hG.1 (i + 2)) A1 e2) ?_
  intro i2 A2
  refine r_istore c369_1679 (lo' := [(7, (0, v2)), (6, (0, v1)), (5, (0, (i : Int))), (0, (9, 0)), (1, (2, Int.ofNat 0)), (2, (2, Int.ofNat 139)), (3, (2, Int.ofNat 153)), (4, (2, Int.ofNat 154))]) rfl rfl rfl ?_
  refine r_goto c369_1681 ?_
  refine q_R.wk (ks := [5, 0, 1, 2, 3, 4]) (lo' := y_lo i) rfl ?_
  exact k _ _ _ A2 ⟨⟨_, J2⟩, (j_T_J J2).2⟩ (by omega) (by omega)
end -- [99ce.law]
section -- [99cf.law]
/-! Part 99cf: cases of the law. Printed by wip/tools/genlaw.py. -/
theorem y_k40 {Γ : q_Γ} (hG : q_GG Γ) {i : Nat} (hi : i + 6 ≤ Γ.2.2.2.1) (hL : Γ.2.2.2.1 ≤ 3072) {h : q_F} (hA : q_Al 0 155 h) (J : t_J h) (E : h 1 1 = h 139 14) {cl sl : Nat} (hc : cl ≤ 3900) (hs : sl ≤ 39000) (k : y_K Γ i cl sl) : q_R Γ q_K 155 369 y_P (1684, y_lo i, [], q_hp q_K 155 h, [], cl, sl) := by
  obtain ⟨S, J⟩ := J
  refine r_aload_n c369_1684 rfl rfl ?_
  refine y_arg c369_1685 c369_1686 c369_1688 c369_1689 c369_1690 rfl rfl rfl hi hL (by decide) ?_
  refine r_aload_n c369_1691 rfl rfl ?_
  obtain ⟨v1, g1, e1, J1⟩ := t_L35 (v1 := (Γ.1 (i + 1))) hA J
  refine y_cs (a := 1) (b := 6) c369_1692 rfl rfl (by omega) (by omega) rfl rfl (wn35 hG (hG.1 (i + 1)) hA e1) ?_
  intro i1 A1
  refine r_istore c369_1695 (lo' := [(6, (0, v1)), (5, (0, (i : Int))), (0, (9, 0)), (1, (2, Int.ofNat 0)), (2, (2, Int.ofNat 139)), (3, (2, Int.ofNat 153)), (4, (2, Int.ofNat 154))]) rfl rfl rfl ?_
  refine r_aload_n c369_1697 rfl rfl ?_
  refine y_arg c369_1698 c369_1699 c369_1701 c369_1702 c369_1703 rfl rfl rfl hi hL (by decide) ?_
  obtain ⟨v2, g2, e2, J2⟩ := t_r_trueB (a := (Γ.1 (i + 1))) A1 J1
  refine y_cv (a := 0) (b := 0) c369_1704 (by decide) rfl rfl rfl rfl (by omega) (by omega) rfl rfl (wn357 hG (hG.1 (i + 1)) A1 e2) ?_
  intro i2 A2
  refine r_istore c369_1707 (lo' := [(7, (0, v2)), (6, (0, v1)), (5, (0, (i : Int))), (0, (9, 0)), (1, (2, Int.ofNat 0)), (2, (2, Int.ofNat 139)), (3, (2, Int.ofNat 153)), (4, (2, Int.ofNat 154))]) rfl rfl rfl ?_
  refine r_goto c369_1709 ?_
  refine q_R.wk (ks := [5, 0, 1, 2, 3, 4]) (lo' := y_lo i) rfl ?_
  exact k _ _ _ A2 ⟨⟨_, J2⟩, (j_T_J J2).2⟩ (by omega) (by omega)
theorem y_k41 {Γ : q_Γ} (hG : q_GG Γ) {i : Nat} (hi : i + 6 ≤ Γ.2.2.2.1) (hL : Γ.2.2.2.1 ≤ 3072) {h : q_F} (hA : q_Al 0 155 h) (J : t_J h) (E : h 1 1 = h 139 14) {cl sl : Nat} (hc : cl ≤ 3900) (hs : sl ≤ 39000) (k : y_K Γ i cl sl) : q_R Γ q_K 155 369 y_P (1712, y_lo i, [], q_hp q_K 155 h, [], cl, sl) := by
  obtain ⟨S, J⟩ := J
  refine r_aload_n c369_1712 rfl rfl ?_
  refine y_arg c369_1713 c369_1714 c369_1716 c369_1717 c369_1718 rfl rfl rfl hi hL (by decide) ?_
  refine r_aload c369_1719 rfl rfl ?_
  obtain ⟨v1, g1, e1, J1⟩ := t_L14 (v1 := (Γ.1 (i + 1))) hA J
  refine y_cs (a := 1) (b := 6) c369_1721 rfl rfl (by omega) (by omega) rfl rfl (wn14 hG (hG.1 (i + 1)) hA e1) ?_
  intro i1 A1
  refine r_istore c369_1724 (lo' := [(6, (0, v1)), (5, (0, (i : Int))), (0, (9, 0)), (1, (2, Int.ofNat 0)), (2, (2, Int.ofNat 139)), (3, (2, Int.ofNat 153)), (4, (2, Int.ofNat 154))]) rfl rfl rfl ?_
  refine r_aload_n c369_1726 rfl rfl ?_
  refine y_arg c369_1727 c369_1728 c369_1730 c369_1731 c369_1732 rfl rfl rfl hi hL (by decide) ?_
  obtain ⟨v2, g2, e2, J2⟩ := t_r_line (m := (Γ.1 (i + 1))) A1 J1
  refine y_cv (a := 0) (b := 0) c369_1733 (by decide) rfl rfl rfl rfl (by omega) (by omega) rfl rfl (wn281 hG (hG.1 (i + 1)) A1 e2) ?_
  intro i2 A2
  refine r_dstore c369_1736 (lo' := [(7, (5, v2)), (6, (0, v1)), (5, (0, (i : Int))), (0, (9, 0)), (1, (2, Int.ofNat 0)), (2, (2, Int.ofNat 139)), (3, (2, Int.ofNat 153)), (4, (2, Int.ofNat 154))]) rfl rfl rfl ?_
  refine r_goto c369_1738 ?_
  refine q_R.wk (ks := [5, 0, 1, 2, 3, 4]) (lo' := y_lo i) rfl ?_
  exact k _ _ _ A2 ⟨⟨_, J2⟩, (j_T_J J2).2⟩ (by omega) (by omega)
theorem y_k42 {Γ : q_Γ} (hG : q_GG Γ) {i : Nat} (hi : i + 6 ≤ Γ.2.2.2.1) (hL : Γ.2.2.2.1 ≤ 3072) {h : q_F} (hA : q_Al 0 155 h) (J : t_J h) (E : h 1 1 = h 139 14) {cl sl : Nat} (hc : cl ≤ 3900) (hs : sl ≤ 39000) (k : y_K Γ i cl sl) : q_R Γ q_K 155 369 y_P (1741, y_lo i, [], q_hp q_K 155 h, [], cl, sl) := by
  obtain ⟨S, J⟩ := J
  refine r_aload_n c369_1741 rfl rfl ?_
  obtain ⟨v1, g1, e1, J1⟩ := t_c_qlen  hA J
  refine y_cv (a := 0) (b := 0) c369_1742 (by decide) rfl rfl rfl rfl (by omega) (by omega) rfl rfl (wn199 hG  hA e1) ?_
  intro i1 A1
  refine r_dstore c369_1745 (lo' := [(6, (5, v1)), (5, (0, (i : Int))), (0, (9, 0)), (1, (2, Int.ofNat 0)), (2, (2, Int.ofNat 139)), (3, (2, Int.ofNat 153)), (4, (2, Int.ofNat 154))]) rfl rfl rfl ?_
  refine r_aload_n c369_1747 rfl rfl ?_
  obtain ⟨v2, g2, e2, J2⟩ := t_r_qlen  A1 J1
  refine y_cv (a := 0) (b := 0) c369_1748 (by decide) rfl rfl rfl rfl (by omega) (by omega) rfl rfl (wn310 hG  A1 e2) ?_
  intro i2 A2
  refine r_dstore c369_1751 (lo' := [(8, (5, v2)), (6, (5, v1)), (5, (0, (i : Int))), (0, (9, 0)), (1, (2, Int.ofNat 0)), (2, (2, Int.ofNat 139)), (3, (2, Int.ofNat 153)), (4, (2, Int.ofNat 154))]) rfl rfl rfl ?_
  refine r_goto c369_1753 ?_
  refine q_R.wk (ks := [5, 0, 1, 2, 3, 4]) (lo' := y_lo i) rfl ?_
  exact k _ _ _ A2 ⟨⟨_, J2⟩, (j_T_J J2).2⟩ (by omega) (by omega)
theorem y_k43 {Γ : q_Γ} (hG : q_GG Γ) {i : Nat} (hi : i + 6 ≤ Γ.2.2.2.1) (hL : Γ.2.2.2.1 ≤ 3072) {h : q_F} (hA : q_Al 0 155 h) (J : t_J h) (E : h 1 1 = h 139 14) {cl sl : Nat} (hc : cl ≤ 3900) (hs : sl ≤ 39000) (k : y_K Γ i cl sl) : q_R Γ q_K 155 369 y_P (1756, y_lo i, [], q_hp q_K 155 h, [], cl, sl) := by
  obtain ⟨S, J⟩ := J
  refine r_aload_n c369_1756 rfl rfl ?_
  refine y_arg c369_1757 c369_1758 c369_1760 c369_1761 c369_1762 rfl rfl rfl hi hL (by decide) ?_
  refine r_aload c369_1763 rfl rfl ?_
  obtain ⟨v1, g1, e1, J1⟩ := t_L16 (v1 := (Γ.1 (i + 1))) hA J
  refine y_cs (a := 1) (b := 6) c369_1765 rfl rfl (by omega) (by omega) rfl rfl (wn16 hG (hG.1 (i + 1)) hA e1) ?_
  intro i1 A1
  refine r_istore c369_1768 (lo' := [(6, (0, v1)), (5, (0, (i : Int))), (0, (9, 0)), (1, (2, Int.ofNat 0)), (2, (2, Int.ofNat 139)), (3, (2, Int.ofNat 153)), (4, (2, Int.ofNat 154))]) rfl rfl rfl ?_
  refine r_aload_n c369_1770 rfl rfl ?_
  refine y_arg c369_1771 c369_1772 c369_1774 c369_1775 c369_1776 rfl rfl rfl hi hL (by decide) ?_
  obtain ⟨v2, g2, e2, J2⟩ := t_r_msp (m := (Γ.1 (i + 1))) A1 J1
  refine y_cv (a := 0) (b := 0) c369_1777 (by decide) rfl rfl rfl rfl (by omega) (by omega) rfl rfl (wn293 hG (hG.1 (i + 1)) A1 e2) ?_
  intro i2 A2
  refine r_dstore c369_1780 (lo' := [(7, (5, v2)), (6, (0, v1)), (5, (0, (i : Int))), (0, (9, 0)), (1, (2, Int.ofNat 0)), (2, (2, Int.ofNat 139)), (3, (2, Int.ofNat 153)), (4, (2, Int.ofNat 154))]) rfl rfl rfl ?_
  refine r_goto c369_1782 ?_
  refine q_R.wk (ks := [5, 0, 1, 2, 3, 4]) (lo' := y_lo i) rfl ?_
  exact k _ _ _ A2 ⟨⟨_, J2⟩, (j_T_J J2).2⟩ (by omega) (by omega)
theorem y_k44 {Γ : q_Γ} (hG : q_GG Γ) {i : Nat} (hi : i + 6 ≤ Γ.2.2.2.1) (hL : Γ.2.2.2.1 ≤ 3072) {h : q_F} (hA : q_Al 0 155 h) (J : t_J h) (E : h 1 1 = h 139 14) {cl sl : Nat} (hc : cl ≤ 3900) (hs : sl ≤ 39000) (k : y_K Γ i cl sl) : q_R Γ q_K 155 369 y_P (1785, y_lo i, [], q_hp q_K 155 h, [], cl, sl) := by
  obtain ⟨S, J⟩ := J
  refine r_aload_n c369_1785 rfl rfl ?_
  refine y_arg c369_1786 c369_1787 c369_1789 c369_1790 c369_1791 rfl rfl rfl hi hL (by decide) ?_
  refine r_aload_n c369_1792 rfl rfl ?_
  obtain ⟨v1, g1, e1, J1⟩ := t_L34 (v1 := (Γ.1 (i + 1))) hA J
  refine y_cs (a := 1) (b := 6) c369_1793 rfl rfl (by omega) (by omega) rfl rfl (wn34 hG (hG.1 (i + 1)) hA e1) ?_
  intro i1 A1
  refine r_istore c369_1796 (lo' := [(6, (0, v1)), (5, (0, (i : Int))), (0, (9, 0)), (1, (2, Int.ofNat 0)), (2, (2, Int.ofNat 139)), (3, (2, Int.ofNat 153)), (4, (2, Int.ofNat 154))]) rfl rfl rfl ?_
  refine r_aload_n c369_1798 rfl rfl ?_
  refine y_arg c369_1799 c369_1800 c369_1802 c369_1803 c369_1804 rfl rfl rfl hi hL (by decide) ?_
  obtain ⟨v2, g2, e2, J2⟩ := t_r_travel (a := (Γ.1 (i + 1))) A1 J1
  refine y_cv (a := 0) (b := 0) c369_1805 (by decide) rfl rfl rfl rfl (by omega) (by omega) rfl rfl (wn356 hG (hG.1 (i + 1)) A1 e2) ?_
  intro i2 A2
  refine r_istore c369_1808 (lo' := [(7, (0, v2)), (6, (0, v1)), (5, (0, (i : Int))), (0, (9, 0)), (1, (2, Int.ofNat 0)), (2, (2, Int.ofNat 139)), (3, (2, Int.ofNat 153)), (4, (2, Int.ofNat 154))]) rfl rfl rfl ?_
  refine r_goto c369_1810 ?_
  refine q_R.wk (ks := [5, 0, 1, 2, 3, 4]) (lo' := y_lo i) rfl ?_
  exact k _ _ _ A2 ⟨⟨_, J2⟩, (j_T_J J2).2⟩ (by omega) (by omega)
theorem y_k45 {Γ : q_Γ} (hG : q_GG Γ) {i : Nat} (hi : i + 6 ≤ Γ.2.2.2.1) (hL : Γ.2.2.2.1 ≤ 3072) {h : q_F} (hA : q_Al 0 155 h) (J : t_J h) (E : h 1 1 = h 139 14) {cl sl : Nat} (hc : cl ≤ 3900) (hs : sl ≤ 39000) (k : y_K Γ i cl sl) : q_R Γ q_K 155 369 y_P (1813, y_lo i, [], q_hp q_K 155 h, [], cl, sl) := by
  obtain ⟨S, J⟩ := J
  refine r_aload_n c369_1813 rfl rfl ?_
  refine y_arg c369_1814 c369_1815 c369_1817 c369_1818 c369_1819 rfl rfl rfl hi hL (by decide) ?_
  refine r_aload_n c369_1820 rfl rfl ?_
  obtain ⟨v1, g1, e1, J1⟩ := t_L36 (v1 := (Γ.1 (i + 1))) hA J
  refine y_cs (a := 1) (b := 6) c369_1821 rfl rfl (by omega) (by omega) rfl rfl (wn36 hG (hG.1 (i + 1)) hA e1) ?_
  intro i1 A1
  refine r_istore c369_1824 (lo' := [(6, (0, v1)), (5, (0, (i : Int))), (0, (9, 0)), (1, (2, Int.ofNat 0)), (2, (2, Int.ofNat 139)), (3, (2, Int.ofNat 153)), (4, (2, Int.ofNat 154))]) rfl rfl rfl ?_
  refine r_aload_n c369_1826 rfl rfl ?_
  refine y_arg c369_1827 c369_1828 c369_1830 c369_1831 c369_1832 rfl rfl rfl hi hL (by decide) ?_
  obtain ⟨v2, g2, e2, J2⟩ := t_r_turns (a := (Γ.1 (i + 1))) A1 J1
  refine y_cv (a := 0) (b := 0) c369_1833 (by decide) rfl rfl rfl rfl (by omega) (by omega) rfl rfl (wn359 hG (hG.1 (i + 1)) A1 e2) ?_
  intro i2 A2
  refine r_istore c369_1836 (lo' := [(7, (0, v2)), (6, (0, v1)), (5, (0, (i : Int))), (0, (9, 0)), (1, (2, Int.ofNat 0)), (2, (2, Int.ofNat 139)), (3, (2, Int.ofNat 153)), (4, (2, Int.ofNat 154))]) rfl rfl rfl ?_
  refine r_goto c369_1838 ?_
  refine q_R.wk (ks := [5, 0, 1, 2, 3, 4]) (lo' := y_lo i) rfl ?_
  exact k _ _ _ A2 ⟨⟨_, J2⟩, (j_T_J J2).2⟩ (by omega) (by omega)
theorem y_k46 {Γ : q_Γ} (hG : q_GG Γ) {i : Nat} (hi : i + 6 ≤ Γ.2.2.2.1) (hL : Γ.2.2.2.1 ≤ 3072) {h : q_F} (hA : q_Al 0 155 h) (J : t_J h) (E : h 1 1 = h 139 14) {cl sl : Nat} (hc : cl ≤ 3900) (hs : sl ≤ 39000) (k : y_K Γ i cl sl) : q_R Γ q_K 155 369 y_P (1841, y_lo i, [], q_hp q_K 155 h, [], cl, sl) := by
  obtain ⟨S, J⟩ := J
  refine r_aload_n c369_1841 rfl rfl ?_
  obtain ⟨v1, g1, e1, J1⟩ := t_c_queueTime  hA J
  refine y_cv (a := 0) (b := 0) c369_1842 (by decide) rfl rfl rfl rfl (by omega) (by omega) rfl rfl (wn200 hG  hA e1) ?_
  intro i1 A1
  refine r_pop2 c369_1845 rfl rfl ?_
  refine r_aload_n c369_1846 rfl rfl ?_
  obtain ⟨v2, g2, e2, J2⟩ := t_r_queueTime  A1 J1
  refine y_cv (a := 0) (b := 0) c369_1847 (by decide) rfl rfl rfl rfl (by omega) (by omega) rfl rfl (wn311 hG  A1 e2) ?_
  intro i2 A2
  refine r_pop2 c369_1850 rfl rfl ?_
  refine r_goto c369_1851 ?_
  refine q_R.wk (ks := [5, 0, 1, 2, 3, 4]) (lo' := y_lo i) rfl ?_
  exact k _ _ _ A2 ⟨⟨_, J2⟩, (j_T_J J2).2⟩ (by omega) (by omega)
theorem y_k47 {Γ : q_Γ} (hG : q_GG Γ) {i : Nat} (hi : i + 6 ≤ Γ.2.2.2.1) (hL : Γ.2.2.2.1 ≤ 3072) {h : q_F} (hA : q_Al 0 155 h) (J : t_J h) (E : h 1 1 = h 139 14) {cl sl : Nat} (hc : cl ≤ 3900) (hs : sl ≤ 39000) (k : y_K Γ i cl sl) : q_R Γ q_K 155 369 y_P (1854, y_lo i, [], q_hp q_K 155 h, [], cl, sl) := by
  obtain ⟨S, J⟩ := J
  refine r_aload_n c369_1854 rfl rfl ?_
  refine y_arg c369_1855 c369_1856 c369_1858 c369_1859 c369_1860 rfl rfl rfl hi hL (by decide) ?_
  refine y_arg c369_1861 c369_1862 c369_1864 c369_1865 c369_1866 rfl rfl rfl hi hL (by decide) ?_
  refine y_arg c369_1867 c369_1868 c369_1870 c369_1871 c369_1872 rfl rfl rfl hi hL (by decide) ?_
  refine r_aload_n c369_1873 rfl rfl ?_
  obtain ⟨v1, g1, e1, J1⟩ := t_L31 (v1 := (Γ.1 (i + 1))) (v2 := (Γ.1 (i + 2))) (v3 := (Γ.1 (i + 3))) hA J
  refine y_cs (a := 2) (b := 12) c369_1874 rfl rfl (by omega) (by omega) rfl rfl (wn31 hG (hG.1 (i + 1)) (hG.1 (i + 2)) (hG.1 (i + 3)) hA e1) ?_
  intro i1 A1
  refine r_istore c369_1877 (lo' := [(6, (0, v1)), (5, (0, (i : Int))), (0, (9, 0)), (1, (2, Int.ofNat 0)), (2, (2, Int.ofNat 139)), (3, (2, Int.ofNat 153)), (4, (2, Int.ofNat 154))]) rfl rfl rfl ?_
  refine r_aload_n c369_1879 rfl rfl ?_
  refine y_arg c369_1880 c369_1881 c369_1883 c369_1884 c369_1885 rfl rfl rfl hi hL (by decide) ?_
  refine y_arg c369_1886 c369_1887 c369_1889 c369_1890 c369_1891 rfl rfl rfl hi hL (by decide) ?_
  refine y_arg c369_1892 c369_1893 c369_1895 c369_1896 c369_1897 rfl rfl rfl hi hL (by decide) ?_
  obtain ⟨v2, g2, e2, J2⟩ := t_r_stTime (x := (Γ.1 (i + 1))) (y := (Γ.1 (i + 2))) (z := (Γ.1 (i + 3))) A1 J1
  refine y_cv (a := 0) (b := 0) c369_1898 (by decide) rfl rfl rfl rfl (by omega) (by omega) rfl rfl (wn345 hG (hG.1 (i + 1)) (hG.1 (i + 2)) (hG.1 (i + 3)) A1 e2) ?_
  intro i2 A2
  refine r_lstore c369_1901 (lo' := [(7, (1, v2)), (6, (0, v1)), (5, (0, (i : Int))), (0, (9, 0)), (1, (2, Int.ofNat 0)), (2, (2, Int.ofNat 139)), (3, (2, Int.ofNat 153)), (4, (2, Int.ofNat 154))]) rfl rfl rfl ?_
  refine r_goto c369_1903 ?_
  refine q_R.wk (ks := [5, 0, 1, 2, 3, 4]) (lo' := y_lo i) rfl ?_
  exact k _ _ _ A2 ⟨⟨_, J2⟩, (j_T_J J2).2⟩ (by omega) (by omega)
end -- [99cf.law]
section -- [99cg.law]
/-! Part 99cg: cases of the law. Printed by wip/tools/genlaw.py. -/
theorem y_k48 {Γ : q_Γ} (hG : q_GG Γ) {i : Nat} (hi : i + 6 ≤ Γ.2.2.2.1) (hL : Γ.2.2.2.1 ≤ 3072) {h : q_F} (hA : q_Al 0 155 h) (J : t_J h) (E : h 1 1 = h 139 14) {cl sl : Nat} (hc : cl ≤ 3900) (hs : sl ≤ 39000) (k : y_K Γ i cl sl) : q_R Γ q_K 155 369 y_P (1906, y_lo i, [], q_hp q_K 155 h, [], cl, sl) := by
  obtain ⟨S, J⟩ := J
  refine r_aload_n c369_1906 rfl rfl ?_
  obtain ⟨v1, g1, e1, J1⟩ := t_c_wLose  hA J
  refine y_cv (a := 0) (b := 0) c369_1907 (by decide) rfl rfl rfl rfl (by omega) (by omega) rfl rfl (wn233 hG  hA e1) ?_
  intro i1 A1
  refine r_pop c369_1910 rfl rfl ?_
  refine r_aload_n c369_1911 rfl rfl ?_
  obtain ⟨v2, g2, e2, J2⟩ := t_r_wLose  A1 J1
  refine y_cv (a := 0) (b := 0) c369_1912 (by decide) rfl rfl rfl rfl (by omega) (by omega) rfl rfl (wn365 hG  A1 e2) ?_
  intro i2 A2
  refine r_pop c369_1915 rfl rfl ?_
  refine r_goto c369_1916 ?_
  refine q_R.wk (ks := [5, 0, 1, 2, 3, 4]) (lo' := y_lo i) rfl ?_
  exact k _ _ _ A2 ⟨⟨_, J2⟩, (j_T_J J2).2⟩ (by omega) (by omega)
theorem y_k49 {Γ : q_Γ} (hG : q_GG Γ) {i : Nat} (hi : i + 6 ≤ Γ.2.2.2.1) (hL : Γ.2.2.2.1 ≤ 3072) {h : q_F} (hA : q_Al 0 155 h) (J : t_J h) (E : h 1 1 = h 139 14) {cl sl : Nat} (hc : cl ≤ 3900) (hs : sl ≤ 39000) (k : y_K Γ i cl sl) : q_R Γ q_K 155 369 y_P (1919, y_lo i, [], q_hp q_K 155 h, [], cl, sl) := by
  obtain ⟨S, J⟩ := J
  refine r_aload_n c369_1919 rfl rfl ?_
  refine y_arg c369_1920 c369_1921 c369_1923 c369_1924 c369_1925 rfl rfl rfl hi hL (by decide) ?_
  refine r_aload_n c369_1926 rfl rfl ?_
  obtain ⟨v1, g1, e1, J1⟩ := t_L39 (v1 := (Γ.1 (i + 1))) hA J
  refine y_cs (a := 2) (b := 12) c369_1927 rfl rfl (by omega) (by omega) rfl rfl (wn39 hG (hG.1 (i + 1)) hA e1) ?_
  intro i1 A1
  refine r_istore c369_1930 (lo' := [(6, (0, v1)), (5, (0, (i : Int))), (0, (9, 0)), (1, (2, Int.ofNat 0)), (2, (2, Int.ofNat 139)), (3, (2, Int.ofNat 153)), (4, (2, Int.ofNat 154))]) rfl rfl rfl ?_
  refine r_aload_n c369_1932 rfl rfl ?_
  refine y_arg c369_1933 c369_1934 c369_1936 c369_1937 c369_1938 rfl rfl rfl hi hL (by decide) ?_
  obtain ⟨v2, g2, e2, J2⟩ := t_r_wErr (a := (Γ.1 (i + 1))) A1 J1
  refine y_cv (a := 0) (b := 0) c369_1939 (by decide) rfl rfl rfl rfl (by omega) (by omega) rfl rfl (wn363 hG (hG.1 (i + 1)) A1 e2) ?_
  intro i2 A2
  refine r_istore c369_1942 (lo' := [(7, (0, v2)), (6, (0, v1)), (5, (0, (i : Int))), (0, (9, 0)), (1, (2, Int.ofNat 0)), (2, (2, Int.ofNat 139)), (3, (2, Int.ofNat 153)), (4, (2, Int.ofNat 154))]) rfl rfl rfl ?_
  refine r_goto c369_1944 ?_
  refine q_R.wk (ks := [5, 0, 1, 2, 3, 4]) (lo' := y_lo i) rfl ?_
  exact k _ _ _ A2 ⟨⟨_, J2⟩, (j_T_J J2).2⟩ (by omega) (by omega)
theorem y_k50 {Γ : q_Γ} (hG : q_GG Γ) {i : Nat} (hi : i + 6 ≤ Γ.2.2.2.1) (hL : Γ.2.2.2.1 ≤ 3072) {h : q_F} (hA : q_Al 0 155 h) (J : t_J h) (E : h 1 1 = h 139 14) {cl sl : Nat} (hc : cl ≤ 3900) (hs : sl ≤ 39000) (k : y_K Γ i cl sl) : q_R Γ q_K 155 369 y_P (1947, y_lo i, [], q_hp q_K 155 h, [], cl, sl) := by
  obtain ⟨S, J⟩ := J
  refine r_aload_n c369_1947 rfl rfl ?_
  refine y_arg c369_1948 c369_1949 c369_1951 c369_1952 c369_1953 rfl rfl rfl hi hL (by decide) ?_
  refine r_aload_n c369_1954 rfl rfl ?_
  obtain ⟨v1, g1, e1, J1⟩ := t_L40 (v1 := (Γ.1 (i + 1))) hA J
  refine y_cs (a := 1) (b := 6) c369_1955 rfl rfl (by omega) (by omega) rfl rfl (wn40 hG (hG.1 (i + 1)) hA e1) ?_
  intro i1 A1
  refine r_istore c369_1958 (lo' := [(6, (0, v1)), (5, (0, (i : Int))), (0, (9, 0)), (1, (2, Int.ofNat 0)), (2, (2, Int.ofNat 139)), (3, (2, Int.ofNat 153)), (4, (2, Int.ofNat 154))]) rfl rfl rfl ?_
  refine r_aload_n c369_1960 rfl rfl ?_
  refine y_arg c369_1961 c369_1962 c369_1964 c369_1965 c369_1966 rfl rfl rfl hi hL (by decide) ?_
  obtain ⟨v2, g2, e2, J2⟩ := t_r_wHome (a := (Γ.1 (i + 1))) A1 J1
  refine y_cv (a := 0) (b := 0) c369_1967 (by decide) rfl rfl rfl rfl (by omega) (by omega) rfl rfl (wn364 hG (hG.1 (i + 1)) A1 e2) ?_
  intro i2 A2
  refine r_istore c369_1970 (lo' := [(7, (0, v2)), (6, (0, v1)), (5, (0, (i : Int))), (0, (9, 0)), (1, (2, Int.ofNat 0)), (2, (2, Int.ofNat 139)), (3, (2, Int.ofNat 153)), (4, (2, Int.ofNat 154))]) rfl rfl rfl ?_
  refine r_goto c369_1972 ?_
  refine q_R.wk (ks := [5, 0, 1, 2, 3, 4]) (lo' := y_lo i) rfl ?_
  exact k _ _ _ A2 ⟨⟨_, J2⟩, (j_T_J J2).2⟩ (by omega) (by omega)
theorem y_k51 {Γ : q_Γ} (hG : q_GG Γ) {i : Nat} (hi : i + 6 ≤ Γ.2.2.2.1) (hL : Γ.2.2.2.1 ≤ 3072) {h : q_F} (hA : q_Al 0 155 h) (J : t_J h) (E : h 1 1 = h 139 14) {cl sl : Nat} (hc : cl ≤ 3900) (hs : sl ≤ 39000) (k : y_K Γ i cl sl) : q_R Γ q_K 155 369 y_P (1975, y_lo i, [], q_hp q_K 155 h, [], cl, sl) := by
  obtain ⟨S, J⟩ := J
  refine r_aload_n c369_1975 rfl rfl ?_
  obtain ⟨v1, g1, e1, J1⟩ := t_c_bestF  hA J
  refine y_cv (a := 0) (b := 0) c369_1976 (by decide) rfl rfl rfl rfl (by omega) (by omega) rfl rfl (wn158 hG  hA e1) ?_
  intro i1 A1
  refine r_pop c369_1979 rfl rfl ?_
  refine r_aload_n c369_1980 rfl rfl ?_
  obtain ⟨v2, g2, e2, J2⟩ := t_r_bestF  A1 J1
  refine y_cv (a := 0) (b := 0) c369_1981 (by decide) rfl rfl rfl rfl (by omega) (by omega) rfl rfl (wn242 hG  A1 e2) ?_
  intro i2 A2
  refine r_pop c369_1984 rfl rfl ?_
  refine r_goto c369_1985 ?_
  refine q_R.wk (ks := [5, 0, 1, 2, 3, 4]) (lo' := y_lo i) rfl ?_
  exact k _ _ _ A2 ⟨⟨_, J2⟩, (j_T_J J2).2⟩ (by omega) (by omega)
theorem y_k52 {Γ : q_Γ} (hG : q_GG Γ) {i : Nat} (hi : i + 6 ≤ Γ.2.2.2.1) (hL : Γ.2.2.2.1 ≤ 3072) {h : q_F} (hA : q_Al 0 155 h) (J : t_J h) (E : h 1 1 = h 139 14) {cl sl : Nat} (hc : cl ≤ 3900) (hs : sl ≤ 39000) (k : y_K Γ i cl sl) : q_R Γ q_K 155 369 y_P (1988, y_lo i, [], q_hp q_K 155 h, [], cl, sl) := by
  obtain ⟨S, J⟩ := J
  refine r_aload_n c369_1988 rfl rfl ?_
  refine r_aload_n c369_1989 rfl rfl ?_
  obtain ⟨v1, g1, e1, J1⟩ := t_L2  hA J
  refine y_cs (a := 1) (b := 6) c369_1990 rfl rfl (by omega) (by omega) rfl rfl (wn2 hG  hA e1) ?_
  intro i1 A1
  refine r_istore c369_1993 (lo' := [(6, (0, v1)), (5, (0, (i : Int))), (0, (9, 0)), (1, (2, Int.ofNat 0)), (2, (2, Int.ofNat 139)), (3, (2, Int.ofNat 153)), (4, (2, Int.ofNat 154))]) rfl rfl rfl ?_
  refine r_aload_n c369_1995 rfl rfl ?_
  obtain ⟨v2, g2, e2, J2⟩ := t_r_bestS  A1 J1
  refine y_cv (a := 0) (b := 0) c369_1996 (by decide) rfl rfl rfl rfl (by omega) (by omega) rfl rfl (wn243 hG  A1 e2) ?_
  intro i2 A2
  refine r_istore c369_1999 (lo' := [(7, (0, v2)), (6, (0, v1)), (5, (0, (i : Int))), (0, (9, 0)), (1, (2, Int.ofNat 0)), (2, (2, Int.ofNat 139)), (3, (2, Int.ofNat 153)), (4, (2, Int.ofNat 154))]) rfl rfl rfl ?_
  refine r_goto c369_2001 ?_
  refine q_R.wk (ks := [5, 0, 1, 2, 3, 4]) (lo' := y_lo i) rfl ?_
  exact k _ _ _ A2 ⟨⟨_, J2⟩, (j_T_J J2).2⟩ (by omega) (by omega)
theorem y_k53 {Γ : q_Γ} (hG : q_GG Γ) {i : Nat} (hi : i + 6 ≤ Γ.2.2.2.1) (hL : Γ.2.2.2.1 ≤ 3072) {h : q_F} (hA : q_Al 0 155 h) (J : t_J h) (E : h 1 1 = h 139 14) {cl sl : Nat} (hc : cl ≤ 3900) (hs : sl ≤ 39000) (k : y_K Γ i cl sl) : q_R Γ q_K 155 369 y_P (2004, y_lo i, [], q_hp q_K 155 h, [], cl, sl) := by
  obtain ⟨S, J⟩ := J
  refine r_aload_n c369_2004 rfl rfl ?_
  refine y_arg c369_2005 c369_2006 c369_2008 c369_2009 c369_2010 rfl rfl rfl hi hL (by decide) ?_
  refine y_arg c369_2011 c369_2012 c369_2014 c369_2015 c369_2016 rfl rfl rfl hi hL (by decide) ?_
  refine y_nz c369_2017 c369_2020 c369_2021 c369_2024 rfl (hG.1 (i + 2)) ?_
  refine r_aload_n c369_2025 rfl rfl ?_
  obtain ⟨v1, g1, e1, J1⟩ := t_L27 (v1 := (Γ.1 (i + 1))) (v2 := (y_nzv (Γ.1 (i + 2)))) hA J
  refine y_cs (a := 1) (b := 6) c369_2026 rfl rfl (by omega) (by omega) rfl rfl (wn27 hG (hG.1 (i + 1)) (y_nz01 (Γ.1 (i + 2))) hA e1) ?_
  intro i1 A1
  refine r_istore c369_2029 (lo' := [(6, (0, v1)), (5, (0, (i : Int))), (0, (9, 0)), (1, (2, Int.ofNat 0)), (2, (2, Int.ofNat 139)), (3, (2, Int.ofNat 153)), (4, (2, Int.ofNat 154))]) rfl rfl rfl ?_
  refine r_aload_n c369_2031 rfl rfl ?_
  refine y_arg c369_2032 c369_2033 c369_2035 c369_2036 c369_2037 rfl rfl rfl hi hL (by decide) ?_
  refine y_arg c369_2038 c369_2039 c369_2041 c369_2042 c369_2043 rfl rfl rfl hi hL (by decide) ?_
  refine y_nz c369_2044 c369_2047 c369_2048 c369_2051 rfl (hG.1 (i + 2)) ?_
  obtain ⟨v2, g2, e2, J2⟩ := t_r_slack (a := (Γ.1 (i + 1))) (v := (y_nzv (Γ.1 (i + 2)))) A1 J1
  refine y_cv (a := 0) (b := 0) c369_2052 (by decide) rfl rfl rfl rfl (by omega) (by omega) rfl rfl (wn334 hG (hG.1 (i + 1)) (y_nz01 (Γ.1 (i + 2))) A1 e2) ?_
  intro i2 A2
  refine r_istore c369_2055 (lo' := [(7, (0, v2)), (6, (0, v1)), (5, (0, (i : Int))), (0, (9, 0)), (1, (2, Int.ofNat 0)), (2, (2, Int.ofNat 139)), (3, (2, Int.ofNat 153)), (4, (2, Int.ofNat 154))]) rfl rfl rfl ?_
  refine r_goto c369_2057 ?_
  refine q_R.wk (ks := [5, 0, 1, 2, 3, 4]) (lo' := y_lo i) rfl ?_
  exact k _ _ _ A2 ⟨⟨_, J2⟩, (j_T_J J2).2⟩ (by omega) (by omega)
theorem y_k54 {Γ : q_Γ} (hG : q_GG Γ) {i : Nat} (hi : i + 6 ≤ Γ.2.2.2.1) (hL : Γ.2.2.2.1 ≤ 3072) {h : q_F} (hA : q_Al 0 155 h) (J : t_J h) (E : h 1 1 = h 139 14) {cl sl : Nat} (hc : cl ≤ 3900) (hs : sl ≤ 39000) (k : y_K Γ i cl sl) : q_R Γ q_K 155 369 y_P (2060, y_lo i, [], q_hp q_K 155 h, [], cl, sl) := by
  obtain ⟨S, J⟩ := J
  refine r_aload_n c369_2060 rfl rfl ?_
  refine y_arg c369_2061 c369_2062 c369_2064 c369_2065 c369_2066 rfl rfl rfl hi hL (by decide) ?_
  refine y_arg c369_2067 c369_2068 c369_2070 c369_2071 c369_2072 rfl rfl rfl hi hL (by decide) ?_
  refine r_aload_n c369_2073 rfl rfl ?_
  obtain ⟨v1, g1, e1, J1⟩ := t_L0 (v1 := (Γ.1 (i + 1))) (v2 := (Γ.1 (i + 2))) hA J
  refine y_cs (a := 2) (b := 12) c369_2074 rfl rfl (by omega) (by omega) rfl rfl (wn0 hG (hG.1 (i + 1)) (hG.1 (i + 2)) hA e1) ?_
  intro i1 A1
  refine r_istore c369_2077 (lo' := [(6, (0, v1)), (5, (0, (i : Int))), (0, (9, 0)), (1, (2, Int.ofNat 0)), (2, (2, Int.ofNat 139)), (3, (2, Int.ofNat 153)), (4, (2, Int.ofNat 154))]) rfl rfl rfl ?_
  refine r_aload_n c369_2079 rfl rfl ?_
  refine y_arg c369_2080 c369_2081 c369_2083 c369_2084 c369_2085 rfl rfl rfl hi hL (by decide) ?_
  refine y_arg c369_2086 c369_2087 c369_2089 c369_2090 c369_2091 rfl rfl rfl hi hL (by decide) ?_
  obtain ⟨v2, g2, e2, J2⟩ := t_r_account (a := (Γ.1 (i + 1))) (v := (Γ.1 (i + 2))) A1 J1
  refine y_cv (a := 0) (b := 0) c369_2092 (by decide) rfl rfl rfl rfl (by omega) (by omega) rfl rfl (wn234 hG (hG.1 (i + 1)) (hG.1 (i + 2)) A1 e2) ?_
  intro i2 A2
  refine r_istore c369_2095 (lo' := [(7, (0, v2)), (6, (0, v1)), (5, (0, (i : Int))), (0, (9, 0)), (1, (2, Int.ofNat 0)), (2, (2, Int.ofNat 139)), (3, (2, Int.ofNat 153)), (4, (2, Int.ofNat 154))]) rfl rfl rfl ?_
  refine r_goto c369_2097 ?_
  refine q_R.wk (ks := [5, 0, 1, 2, 3, 4]) (lo' := y_lo i) rfl ?_
  exact k _ _ _ A2 ⟨⟨_, J2⟩, (j_T_J J2).2⟩ (by omega) (by omega)
theorem y_k55 {Γ : q_Γ} (hG : q_GG Γ) {i : Nat} (hi : i + 6 ≤ Γ.2.2.2.1) (hL : Γ.2.2.2.1 ≤ 3072) {h : q_F} (hA : q_Al 0 155 h) (J : t_J h) (E : h 1 1 = h 139 14) {cl sl : Nat} (hc : cl ≤ 3900) (hs : sl ≤ 39000) (k : y_K Γ i cl sl) : q_R Γ q_K 155 369 y_P (2100, y_lo i, [], q_hp q_K 155 h, [], cl, sl) := by
  obtain ⟨S, J⟩ := J
  refine r_aload_n c369_2100 rfl rfl ?_
  obtain ⟨v1, e1⟩ := c_mdur (h := h) (q_al1 hA rfl (by decide) (by decide)) (q_al1 hA rfl (by decide) (by decide))
  refine y_cp (a := 0) (b := 0) c369_2101 (by decide) rfl rfl rfl rfl (by omega) (by omega) rfl rfl (wn189 hG  hA e1) ?_
  intro i1
  refine r_dstore c369_2104 (lo' := [(6, (5, v1)), (5, (0, (i : Int))), (0, (9, 0)), (1, (2, Int.ofNat 0)), (2, (2, Int.ofNat 139)), (3, (2, Int.ofNat 153)), (4, (2, Int.ofNat 154))]) rfl rfl rfl ?_
  refine r_aload_n c369_2106 rfl rfl ?_
  obtain ⟨v2, g2, e2, J2⟩ := t_r_mdur  hA J
  refine y_cv (a := 0) (b := 0) c369_2107 (by decide) rfl rfl rfl rfl (by omega) (by omega) rfl rfl (wn292 hG  hA e2) ?_
  intro i2 A2
  refine r_dstore c369_2110 (lo' := [(8, (5, v2)), (6, (5, v1)), (5, (0, (i : Int))), (0, (9, 0)), (1, (2, Int.ofNat 0)), (2, (2, Int.ofNat 139)), (3, (2, Int.ofNat 153)), (4, (2, Int.ofNat 154))]) rfl rfl rfl ?_
  refine r_goto c369_2112 ?_
  refine q_R.wk (ks := [5, 0, 1, 2, 3, 4]) (lo' := y_lo i) rfl ?_
  exact k _ _ _ A2 ⟨⟨_, J2⟩, (j_T_J J2).2⟩ (by omega) (by omega)
end -- [99cg.law]
section -- [99ch.law]
/-! Part 99ch: cases of the law. Printed by wip/tools/genlaw.py. -/
theorem y_k56 {Γ : q_Γ} (hG : q_GG Γ) {i : Nat} (hi : i + 6 ≤ Γ.2.2.2.1) (hL : Γ.2.2.2.1 ≤ 3072) {h : q_F} (hA : q_Al 0 155 h) (J : t_J h) (E : h 1 1 = h 139 14) {cl sl : Nat} (hc : cl ≤ 3900) (hs : sl ≤ 39000) (k : y_K Γ i cl sl) : q_R Γ q_K 155 369 y_P (2115, y_lo i, [], q_hp q_K 155 h, [], cl, sl) := by
  obtain ⟨S, J⟩ := J
  refine r_aload_n c369_2115 rfl rfl ?_
  refine y_arg c369_2116 c369_2117 c369_2119 c369_2120 c369_2121 rfl rfl rfl hi hL (by decide) ?_
  refine r_aload c369_2122 rfl rfl ?_
  obtain ⟨v1, g1, e1, J1⟩ := t_L15 (v1 := (Γ.1 (i + 1))) hA J
  refine y_cs (a := 1) (b := 6) c369_2124 rfl rfl (by omega) (by omega) rfl rfl (wn15 hG (hG.1 (i + 1)) hA e1) ?_
  intro i1 A1
  refine r_istore c369_2127 (lo' := [(6, (0, v1)), (5, (0, (i : Int))), (0, (9, 0)), (1, (2, Int.ofNat 0)), (2, (2, Int.ofNat 139)), (3, (2, Int.ofNat 153)), (4, (2, Int.ofNat 154))]) rfl rfl rfl ?_
  refine r_aload_n c369_2129 rfl rfl ?_
  refine y_arg c369_2130 c369_2131 c369_2133 c369_2134 c369_2135 rfl rfl rfl hi hL (by decide) ?_
  obtain ⟨v2, g2, e2, J2⟩ := t_r_lost2 (a := (Γ.1 (i + 1))) A1 J1
  refine y_cv (a := 0) (b := 0) c369_2136 (by decide) rfl rfl rfl rfl (by omega) (by omega) rfl rfl (wn285 hG (hG.1 (i + 1)) A1 e2) ?_
  intro i2 A2
  refine r_fstore c369_2139 (lo' := [(7, (4, v2)), (6, (0, v1)), (5, (0, (i : Int))), (0, (9, 0)), (1, (2, Int.ofNat 0)), (2, (2, Int.ofNat 139)), (3, (2, Int.ofNat 153)), (4, (2, Int.ofNat 154))]) rfl rfl rfl ?_
  refine r_goto c369_2141 ?_
  refine q_R.wk (ks := [5, 0, 1, 2, 3, 4]) (lo' := y_lo i) rfl ?_
  exact k _ _ _ A2 ⟨⟨_, J2⟩, (j_T_J J2).2⟩ (by omega) (by omega)
theorem y_k57 {Γ : q_Γ} (hG : q_GG Γ) {i : Nat} (hi : i + 6 ≤ Γ.2.2.2.1) (hL : Γ.2.2.2.1 ≤ 3072) {h : q_F} (hA : q_Al 0 155 h) (J : t_J h) (E : h 1 1 = h 139 14) {cl sl : Nat} (hc : cl ≤ 3900) (hs : sl ≤ 39000) (k : y_K Γ i cl sl) : q_R Γ q_K 155 369 y_P (2144, y_lo i, [], q_hp q_K 155 h, [], cl, sl) := by
  obtain ⟨S, J⟩ := J
  refine r_aload_n c369_2144 rfl rfl ?_
  obtain ⟨v1, g1, e1, J1⟩ := t_c_print  hA J
  refine y_cv (a := 0) (b := 0) c369_2145 (by decide) rfl rfl rfl rfl (by omega) (by omega) rfl rfl (wn197 hG  hA e1) ?_
  intro i1 A1
  refine r_pop c369_2148 rfl rfl ?_
  refine r_aload_n c369_2149 rfl rfl ?_
  obtain ⟨v2, g2, e2, J2⟩ := t_print   J1
  refine y_cv (a := 0) (b := 0) c369_2150 (by decide) rfl rfl rfl rfl (by omega) (by omega) rfl rfl (wn307 hG  A1 e2) ?_
  intro i2 A2
  refine r_pop c369_2153 rfl rfl ?_
  refine r_goto c369_2154 ?_
  refine q_R.wk (ks := [5, 0, 1, 2, 3, 4]) (lo' := y_lo i) rfl ?_
  exact k _ _ _ A2 ⟨⟨_, J2⟩, (j_T_J J2).2⟩ (by omega) (by omega)
theorem y_k58 {Γ : q_Γ} (hG : q_GG Γ) {i : Nat} (hi : i + 6 ≤ Γ.2.2.2.1) (hL : Γ.2.2.2.1 ≤ 3072) {h : q_F} (hA : q_Al 0 155 h) (J : t_J h) (E : h 1 1 = h 139 14) {cl sl : Nat} (hc : cl ≤ 3900) (hs : sl ≤ 39000) (k : y_K Γ i cl sl) : q_R Γ q_K 155 369 y_P (2157, y_lo i, [], q_hp q_K 155 h, [], cl, sl) := by
  obtain ⟨S, J⟩ := J
  refine r_aload_n c369_2157 rfl rfl ?_
  refine y_arg c369_2158 c369_2159 c369_2161 c369_2162 c369_2163 rfl rfl rfl hi hL (by decide) ?_
  obtain ⟨v1, e1⟩ := c_outByte (Γ.1 (i + 1)) h
  refine y_cp (a := 0) (b := 0) c369_2164 (by decide) rfl rfl rfl rfl (by omega) (by omega) rfl rfl (wn194 hG (hG.1 (i + 1)) hA e1) ?_
  intro i1
  refine r_pop c369_2167 rfl rfl ?_
  refine r_aload_n c369_2168 rfl rfl ?_
  refine y_arg c369_2169 c369_2170 c369_2172 c369_2173 c369_2174 rfl rfl rfl hi hL (by decide) ?_
  obtain ⟨v2, g2, e2, J2⟩ := t_r_outByte (v := (Γ.1 (i + 1))) hA J
  refine y_cv (a := 0) (b := 0) c369_2175 (by decide) rfl rfl rfl rfl (by omega) (by omega) rfl rfl (wn304 hG (hG.1 (i + 1)) hA e2) ?_
  intro i2 A2
  refine r_pop c369_2178 rfl rfl ?_
  refine r_goto c369_2179 ?_
  refine q_R.wk (ks := [5, 0, 1, 2, 3, 4]) (lo' := y_lo i) rfl ?_
  exact k _ _ _ A2 ⟨⟨_, J2⟩, (j_T_J J2).2⟩ (by omega) (by omega)
theorem y_k59 {Γ : q_Γ} (hG : q_GG Γ) {i : Nat} (hi : i + 6 ≤ Γ.2.2.2.1) (hL : Γ.2.2.2.1 ≤ 3072) {h : q_F} (hA : q_Al 0 155 h) (J : t_J h) (E : h 1 1 = h 139 14) {cl sl : Nat} (hc : cl ≤ 3900) (hs : sl ≤ 39000) (k : y_K Γ i cl sl) : q_R Γ q_K 155 369 y_P (2182, y_lo i, [], q_hp q_K 155 h, [], cl, sl) := by
  obtain ⟨S, J⟩ := J
  refine r_aload_n c369_2182 rfl rfl ?_
  obtain ⟨v1, g1, e1, J1⟩ := t_c_undo  hA J
  refine y_cv (a := 0) (b := 0) c369_2183 (by decide) rfl rfl rfl rfl (by omega) (by omega) rfl rfl (wn228 hG  hA e1) ?_
  intro i1 A1
  refine r_pop c369_2186 rfl rfl ?_
  refine r_aload_n c369_2187 rfl rfl ?_
  obtain ⟨v2, g2, e2, J2⟩ := t_r_undo  A1 J1
  refine y_cv (a := 0) (b := 0) c369_2188 (by decide) rfl rfl rfl rfl (by omega) (by omega) rfl rfl (wn360 hG  A1 e2) ?_
  intro i2 A2
  refine r_pop c369_2191 rfl rfl ?_
  refine r_goto c369_2192 ?_
  refine q_R.wk (ks := [5, 0, 1, 2, 3, 4]) (lo' := y_lo i) rfl ?_
  exact k _ _ _ A2 ⟨⟨_, J2⟩, (j_T_J J2).2⟩ (by omega) (by omega)
theorem y_k60 {Γ : q_Γ} (hG : q_GG Γ) {i : Nat} (hi : i + 6 ≤ Γ.2.2.2.1) (hL : Γ.2.2.2.1 ≤ 3072) {h : q_F} (hA : q_Al 0 155 h) (J : t_J h) (E : h 1 1 = h 139 14) {cl sl : Nat} (hc : cl ≤ 3900) (hs : sl ≤ 39000) (k : y_K Γ i cl sl) : q_R Γ q_K 155 369 y_P (2195, y_lo i, [], q_hp q_K 155 h, [], cl, sl) := by
  obtain ⟨S, J⟩ := J
  refine r_aload_n c369_2195 rfl rfl ?_
  obtain ⟨v1, g1, e1, J1⟩ := t_c_save  hA J
  refine y_cv (a := 0) (b := 0) c369_2196 (by decide) rfl rfl rfl rfl (by omega) (by omega) rfl rfl (wn209 hG  hA e1) ?_
  intro i1 A1
  refine r_pop c369_2199 rfl rfl ?_
  refine r_aload_n c369_2200 rfl rfl ?_
  obtain ⟨v2, g2, e2, J2⟩ := t_r_save  A1 J1
  refine y_cv (a := 0) (b := 0) c369_2201 (by decide) rfl rfl rfl rfl (by omega) (by omega) rfl rfl (wn326 hG  A1 e2) ?_
  intro i2 A2
  refine r_pop c369_2204 rfl rfl ?_
  refine r_goto c369_2205 ?_
  refine q_R.wk (ks := [5, 0, 1, 2, 3, 4]) (lo' := y_lo i) rfl ?_
  exact k _ _ _ A2 ⟨⟨_, J2⟩, (j_T_J J2).2⟩ (by omega) (by omega)
theorem y_k61 {Γ : q_Γ} (hG : q_GG Γ) {i : Nat} (hi : i + 6 ≤ Γ.2.2.2.1) (hL : Γ.2.2.2.1 ≤ 3072) {h : q_F} (hA : q_Al 0 155 h) (J : t_J h) (E : h 1 1 = h 139 14) {cl sl : Nat} (hc : cl ≤ 3900) (hs : sl ≤ 39000) (k : y_K Γ i cl sl) : q_R Γ q_K 155 369 y_P (2208, y_lo i, [], q_hp q_K 155 h, [], cl, sl) := by
  obtain ⟨S, J⟩ := J
  refine r_aload_n c369_2208 rfl rfl ?_
  refine r_aload_n c369_2209 rfl rfl ?_
  obtain ⟨v1, g1, e1, J1⟩ := t_L23  hA J
  refine y_cs (a := 1) (b := 6) c369_2210 rfl rfl (by omega) (by omega) rfl rfl (wn23 hG  hA e1) ?_
  intro i1 A1
  refine r_istore c369_2213 (lo' := [(6, (0, v1)), (5, (0, (i : Int))), (0, (9, 0)), (1, (2, Int.ofNat 0)), (2, (2, Int.ofNat 139)), (3, (2, Int.ofNat 153)), (4, (2, Int.ofNat 154))]) rfl rfl rfl ?_
  refine r_aload_n c369_2215 rfl rfl ?_
  obtain ⟨v2, g2, e2, J2⟩ := t_r_rest  A1 J1
  refine y_cv (a := 0) (b := 0) c369_2216 (by decide) rfl rfl rfl rfl (by omega) (by omega) rfl rfl (wn322 hG  A1 e2) ?_
  intro i2 A2
  refine r_istore c369_2219 (lo' := [(7, (0, v2)), (6, (0, v1)), (5, (0, (i : Int))), (0, (9, 0)), (1, (2, Int.ofNat 0)), (2, (2, Int.ofNat 139)), (3, (2, Int.ofNat 153)), (4, (2, Int.ofNat 154))]) rfl rfl rfl ?_
  refine r_goto c369_2221 ?_
  refine q_R.wk (ks := [5, 0, 1, 2, 3, 4]) (lo' := y_lo i) rfl ?_
  exact k _ _ _ A2 ⟨⟨_, J2⟩, (j_T_J J2).2⟩ (by omega) (by omega)
end -- [99ch.law]
section -- [99e.switch]
/-! Part 99e: the law's switch. Printed by wip/tools/genlaw.py. -/
def y_offs : Array Int := #[263, 336, 361, 374, 387, 400, 428, 468, 496, 524, 587, 600, 628, 668, 720, 736, 764, 777, 818, 859, 899, 927, 967, 1007, 1047, 1099, 1128, 1144, 1157, 1221, 1249, 1289, 1341, 1397, 1425, 1438, 1494, 1543, 1571, 1599, 1639, 1667, 1696, 1711, 1740, 1768, 1796, 1809, 1861, 1874, 1902, 1930, 1943, 1959, 2015, 2055, 2070, 2099, 2112, 2137, 2150, 2163]
theorem y_sw {Γ : q_Γ} (hG : q_GG Γ) {i : Nat} (hi : i + 6 ≤ Γ.2.2.2.1) (hL : Γ.2.2.2.1 ≤ 3072) {h : q_F} (hA : q_Al 0 155 h) (J : t_J h) (E : h 1 1 = h 139 14) {cl sl : Nat} (hc : cl ≤ 3900) (hs : sl ≤ 39000) (kk : y_K Γ i cl sl) {d lo9 hi9 : Int} {offs : Array Int} (hd : d = 2179) (hl : lo9 = 0) (hh : hi9 = 61) (ho : offs = y_offs) (z : Int) (z0 : 0 ≤ z) (z1 : z ≤ 61) : ∃ t, q_tgt 45 d lo9 hi9 offs z = some t ∧ q_R Γ q_K 155 369 y_P (t, y_lo i, [], q_hp q_K 155 h, [], cl, sl) := by
  subst hd; subst hl; subst hh; subst ho
  by_cases c0_61 : z ≤ 30
  · by_cases c0_30 : z ≤ 15
    · by_cases c0_15 : z ≤ 7
      · by_cases c0_7 : z ≤ 3
        · by_cases c0_3 : z ≤ 1
          · by_cases c0_1 : z ≤ 0
            · have e9 : z = 0 := by omega
              subst e9
              exact ⟨308, rfl, y_k0 hG hi hL hA J E (by omega) (by omega) kk⟩
            · have e9 : z = 1 := by omega
              subst e9
              exact ⟨381, rfl, y_k1 hG hi hL hA J E (by omega) (by omega) kk⟩
          · by_cases c2_3 : z ≤ 2
            · have e9 : z = 2 := by omega
              subst e9
              exact ⟨406, rfl, y_k2 hG hi hL hA J E (by omega) (by omega) kk⟩
            · have e9 : z = 3 := by omega
              subst e9
              exact ⟨419, rfl, y_k3 hG hi hL hA J E (by omega) (by omega) kk⟩
        · by_cases c4_7 : z ≤ 5
          · by_cases c4_5 : z ≤ 4
            · have e9 : z = 4 := by omega
              subst e9
              exact ⟨432, rfl, y_k4 hG hi hL hA J E (by omega) (by omega) kk⟩
            · have e9 : z = 5 := by omega
              subst e9
              exact ⟨445, rfl, y_k5 hG hi hL hA J E (by omega) (by omega) kk⟩
          · by_cases c6_7 : z ≤ 6
            · have e9 : z = 6 := by omega
              subst e9
              exact ⟨473, rfl, y_k6 hG hi hL hA J E (by omega) (by omega) kk⟩
            · have e9 : z = 7 := by omega
              subst e9
              exact ⟨513, rfl, y_k7 hG hi hL hA J E (by omega) (by omega) kk⟩
      · by_cases c8_15 : z ≤ 11
        · by_cases c8_11 : z ≤ 9
          · by_cases c8_9 : z ≤ 8
            · have e9 : z = 8 := by omega
              subst e9
              exact ⟨541, rfl, y_k8 hG hi hL hA J E (by omega) (by omega) kk⟩
            · have e9 : z = 9 := by omega
              subst e9
              exact ⟨569, rfl, y_k9 hG hi hL hA J E (by omega) (by omega) kk⟩
          · by_cases c10_11 : z ≤ 10
            · have e9 : z = 10 := by omega
              subst e9
              exact ⟨632, rfl, y_k10 hG hi hL hA J E (by omega) (by omega) kk⟩
            · have e9 : z = 11 := by omega
              subst e9
              exact ⟨645, rfl, y_k11 hG hi hL hA J E (by omega) (by omega) kk⟩
        · by_cases c12_15 : z ≤ 13
          · by_cases c12_13 : z ≤ 12
            · have e9 : z = 12 := by omega
              subst e9
              exact ⟨673, rfl, y_k12 hG hi hL hA J E (by omega) (by omega) kk⟩
            · have e9 : z = 13 := by omega
              subst e9
              exact ⟨713, rfl, y_k13 hG hi hL hA J E (by omega) (by omega) kk⟩
          · by_cases c14_15 : z ≤ 14
            · have e9 : z = 14 := by omega
              subst e9
              exact ⟨765, rfl, y_k14 hG hi hL hA J E (by omega) (by omega) kk⟩
            · have e9 : z = 15 := by omega
              subst e9
              exact ⟨781, rfl, y_k15 hG hi hL hA J E (by omega) (by omega) kk⟩
    · by_cases c16_30 : z ≤ 23
      · by_cases c16_23 : z ≤ 19
        · by_cases c16_19 : z ≤ 17
          · by_cases c16_17 : z ≤ 16
            · have e9 : z = 16 := by omega
              subst e9
              exact ⟨809, rfl, y_k16 hG hi hL hA J E (by omega) (by omega) kk⟩
            · have e9 : z = 17 := by omega
              subst e9
              exact ⟨822, rfl, y_k17 hG hi hL hA J E (by omega) (by omega) kk⟩
          · by_cases c18_19 : z ≤ 18
            · have e9 : z = 18 := by omega
              subst e9
              exact ⟨863, rfl, y_k18 hG hi hL hA J E (by omega) (by omega) kk⟩
            · have e9 : z = 19 := by omega
              subst e9
              exact ⟨904, rfl, y_k19 hG hi hL hA J E (by omega) (by omega) kk⟩
        · by_cases c20_23 : z ≤ 21
          · by_cases c20_21 : z ≤ 20
            · have e9 : z = 20 := by omega
              subst e9
              exact ⟨944, rfl, y_k20 hG hi hL hA J E (by omega) (by omega) kk⟩
            · have e9 : z = 21 := by omega
              subst e9
              exact ⟨972, rfl, y_k21 hG hi hL hA J E (by omega) (by omega) kk⟩
          · by_cases c22_23 : z ≤ 22
            · have e9 : z = 22 := by omega
              subst e9
              exact ⟨1012, rfl, y_k22 hG hi hL hA J E (by omega) (by omega) kk⟩
            · have e9 : z = 23 := by omega
              subst e9
              exact ⟨1052, rfl, y_k23 hG hi hL hA J E (by omega) (by omega) kk⟩
      · by_cases c24_30 : z ≤ 27
        · by_cases c24_27 : z ≤ 25
          · by_cases c24_25 : z ≤ 24
            · have e9 : z = 24 := by omega
              subst e9
              exact ⟨1092, rfl, y_k24 hG hi hL hA J E (by omega) (by omega) kk⟩
            · have e9 : z = 25 := by omega
              subst e9
              exact ⟨1144, rfl, y_k25 hG hi hL hA J E (by omega) (by omega) kk⟩
          · by_cases c26_27 : z ≤ 26
            · have e9 : z = 26 := by omega
              subst e9
              exact ⟨1173, rfl, y_k26 hG hi hL hA J E (by omega) (by omega) kk⟩
            · have e9 : z = 27 := by omega
              subst e9
              exact ⟨1189, rfl, y_k27 hG hi hL hA J E (by omega) (by omega) kk⟩
        · by_cases c28_30 : z ≤ 29
          · by_cases c28_29 : z ≤ 28
            · have e9 : z = 28 := by omega
              subst e9
              exact ⟨1202, rfl, y_k28 hG hi hL hA J E (by omega) (by omega) kk⟩
            · have e9 : z = 29 := by omega
              subst e9
              exact ⟨1266, rfl, y_k29 hG hi hL hA J E (by omega) (by omega) kk⟩
          · have e9 : z = 30 := by omega
            subst e9
            exact ⟨1294, rfl, y_k30 hG hi hL hA J E (by omega) (by omega) kk⟩
  · by_cases c31_61 : z ≤ 46
    · by_cases c31_46 : z ≤ 38
      · by_cases c31_38 : z ≤ 34
        · by_cases c31_34 : z ≤ 32
          · by_cases c31_32 : z ≤ 31
            · have e9 : z = 31 := by omega
              subst e9
              exact ⟨1334, rfl, y_k31 hG hi hL hA J E (by omega) (by omega) kk⟩
            · have e9 : z = 32 := by omega
              subst e9
              exact ⟨1386, rfl, y_k32 hG hi hL hA J E (by omega) (by omega) kk⟩
          · by_cases c33_34 : z ≤ 33
            · have e9 : z = 33 := by omega
              subst e9
              exact ⟨1442, rfl, y_k33 hG hi hL hA J E (by omega) (by omega) kk⟩
            · have e9 : z = 34 := by omega
              subst e9
              exact ⟨1470, rfl, y_k34 hG hi hL hA J E (by omega) (by omega) kk⟩
        · by_cases c35_38 : z ≤ 36
          · by_cases c35_36 : z ≤ 35
            · have e9 : z = 35 := by omega
              subst e9
              exact ⟨1483, rfl, y_k35 hG hi hL hA J E (by omega) (by omega) kk⟩
            · have e9 : z = 36 := by omega
              subst e9
              exact ⟨1539, rfl, y_k36 hG hi hL hA J E (by omega) (by omega) kk⟩
          · by_cases c37_38 : z ≤ 37
            · have e9 : z = 37 := by omega
              subst e9
              exact ⟨1588, rfl, y_k37 hG hi hL hA J E (by omega) (by omega) kk⟩
            · have e9 : z = 38 := by omega
              subst e9
              exact ⟨1616, rfl, y_k38 hG hi hL hA J E (by omega) (by omega) kk⟩
      · by_cases c39_46 : z ≤ 42
        · by_cases c39_42 : z ≤ 40
          · by_cases c39_40 : z ≤ 39
            · have e9 : z = 39 := by omega
              subst e9
              exact ⟨1644, rfl, y_k39 hG hi hL hA J E (by omega) (by omega) kk⟩
            · have e9 : z = 40 := by omega
              subst e9
              exact ⟨1684, rfl, y_k40 hG hi hL hA J E (by omega) (by omega) kk⟩
          · by_cases c41_42 : z ≤ 41
            · have e9 : z = 41 := by omega
              subst e9
              exact ⟨1712, rfl, y_k41 hG hi hL hA J E (by omega) (by omega) kk⟩
            · have e9 : z = 42 := by omega
              subst e9
              exact ⟨1741, rfl, y_k42 hG hi hL hA J E (by omega) (by omega) kk⟩
        · by_cases c43_46 : z ≤ 44
          · by_cases c43_44 : z ≤ 43
            · have e9 : z = 43 := by omega
              subst e9
              exact ⟨1756, rfl, y_k43 hG hi hL hA J E (by omega) (by omega) kk⟩
            · have e9 : z = 44 := by omega
              subst e9
              exact ⟨1785, rfl, y_k44 hG hi hL hA J E (by omega) (by omega) kk⟩
          · by_cases c45_46 : z ≤ 45
            · have e9 : z = 45 := by omega
              subst e9
              exact ⟨1813, rfl, y_k45 hG hi hL hA J E (by omega) (by omega) kk⟩
            · have e9 : z = 46 := by omega
              subst e9
              exact ⟨1841, rfl, y_k46 hG hi hL hA J E (by omega) (by omega) kk⟩
    · by_cases c47_61 : z ≤ 54
      · by_cases c47_54 : z ≤ 50
        · by_cases c47_50 : z ≤ 48
          · by_cases c47_48 : z ≤ 47
            · have e9 : z = 47 := by omega
              subst e9
              exact ⟨1854, rfl, y_k47 hG hi hL hA J E (by omega) (by omega) kk⟩
            · have e9 : z = 48 := by omega
              subst e9
              exact ⟨1906, rfl, y_k48 hG hi hL hA J E (by omega) (by omega) kk⟩
          · by_cases c49_50 : z ≤ 49
            · have e9 : z = 49 := by omega
              subst e9
              exact ⟨1919, rfl, y_k49 hG hi hL hA J E (by omega) (by omega) kk⟩
            · have e9 : z = 50 := by omega
              subst e9
              exact ⟨1947, rfl, y_k50 hG hi hL hA J E (by omega) (by omega) kk⟩
        · by_cases c51_54 : z ≤ 52
          · by_cases c51_52 : z ≤ 51
            · have e9 : z = 51 := by omega
              subst e9
              exact ⟨1975, rfl, y_k51 hG hi hL hA J E (by omega) (by omega) kk⟩
            · have e9 : z = 52 := by omega
              subst e9
              exact ⟨1988, rfl, y_k52 hG hi hL hA J E (by omega) (by omega) kk⟩
          · by_cases c53_54 : z ≤ 53
            · have e9 : z = 53 := by omega
              subst e9
              exact ⟨2004, rfl, y_k53 hG hi hL hA J E (by omega) (by omega) kk⟩
            · have e9 : z = 54 := by omega
              subst e9
              exact ⟨2060, rfl, y_k54 hG hi hL hA J E (by omega) (by omega) kk⟩
      · by_cases c55_61 : z ≤ 58
        · by_cases c55_58 : z ≤ 56
          · by_cases c55_56 : z ≤ 55
            · have e9 : z = 55 := by omega
              subst e9
              exact ⟨2100, rfl, y_k55 hG hi hL hA J E (by omega) (by omega) kk⟩
            · have e9 : z = 56 := by omega
              subst e9
              exact ⟨2115, rfl, y_k56 hG hi hL hA J E (by omega) (by omega) kk⟩
          · by_cases c57_58 : z ≤ 57
            · have e9 : z = 57 := by omega
              subst e9
              exact ⟨2144, rfl, y_k57 hG hi hL hA J E (by omega) (by omega) kk⟩
            · have e9 : z = 58 := by omega
              subst e9
              exact ⟨2157, rfl, y_k58 hG hi hL hA J E (by omega) (by omega) kk⟩
        · by_cases c59_61 : z ≤ 60
          · by_cases c59_60 : z ≤ 59
            · have e9 : z = 59 := by omega
              subst e9
              exact ⟨2182, rfl, y_k59 hG hi hL hA J E (by omega) (by omega) kk⟩
            · have e9 : z = 60 := by omega
              subst e9
              exact ⟨2195, rfl, y_k60 hG hi hL hA J E (by omega) (by omega) kk⟩
          · have e9 : z = 61 := by omega
            subst e9
            exact ⟨2208, rfl, y_k61 hG hi hL hA J E (by omega) (by omega) kk⟩
end -- [99e.switch]
