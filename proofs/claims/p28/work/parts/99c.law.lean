section -- [99ca.law]
/-! Part 99ca: cases of the law. Printed by wip/tools/genlaw.py. -/
theorem y_k0 {Γ : q_Γ} (hG : q_GG Γ) {i : Nat} (hi : i + 6 ≤ Γ.2.2.2.1) (hL : Γ.2.2.2.1 ≤ 3072) {h : q_F} (hA : q_Al 0 155 h) (J : t_J h) (E : h 1 1 = h 139 14) {cl sl : Nat} (hc : cl ≤ 3900) (hs : sl ≤ 39000) (k : y_K Γ i cl sl) : q_R Γ q_K 155 369 y_P (308, y_lo i, [], q_hp q_K 155 h, [], cl, sl) := by
  obtain ⟨S, J⟩ := J
  refine r_aload_n c369_308 rfl rfl ?_
  refine y_arg c369_309 c369_310 c369_312 c369_313 c369_314 rfl rfl rfl hi hL (by decide) ?_
  refine y_arg c369_315 c369_316 c369_318 c369_319 c369_320 rfl rfl rfl hi hL (by decide) ?_
  refine y_arg c369_321 c369_322 c369_324 c369_325 c369_326 rfl rfl rfl hi hL (by decide) ?_
  refine y_arg c369_327 c369_328 c369_330 c369_331 c369_332 rfl rfl rfl hi hL (by decide) ?_
  refine y_arg c369_333 c369_334 c369_336 c369_337 c369_338 rfl rfl rfl hi hL (by decide) ?_
  obtain ⟨v1, g1, g2, S2, e1, e2, J2⟩ := t_app (a := (Γ.1 (i + 1))) (b := (Γ.1 (i + 2))) (c := (Γ.1 (i + 3))) (d := (Γ.1 (i + 4))) (e := (Γ.1 (i + 5))) J
  refine y_cv (a := 0) (b := 0) c369_339 (by decide) rfl rfl rfl rfl (by omega) (by omega) rfl rfl (wn156 hG (hG.1 (i + 1)) (hG.1 (i + 2)) (hG.1 (i + 3)) (hG.1 (i + 4)) (hG.1 (i + 5)) hA e1) ?_
  intro i1 A1
  refine r_pop c369_342 rfl rfl ?_
  refine r_aload_n c369_343 rfl rfl ?_
  refine y_arg c369_344 c369_345 c369_347 c369_348 c369_349 rfl rfl rfl hi hL (by decide) ?_
  refine y_arg c369_350 c369_351 c369_353 c369_354 c369_355 rfl rfl rfl hi hL (by decide) ?_
  refine y_arg c369_356 c369_357 c369_359 c369_360 c369_361 rfl rfl rfl hi hL (by decide) ?_
  refine y_arg c369_362 c369_363 c369_365 c369_366 c369_367 rfl rfl rfl hi hL (by decide) ?_
  refine y_arg c369_368 c369_369 c369_371 c369_372 c369_373 rfl rfl rfl hi hL (by decide) ?_
  refine y_cv (a := 0) (b := 0) c369_374 (by decide) rfl rfl rfl rfl (by omega) (by omega) rfl rfl (wn237 hG (hG.1 (i + 1)) (hG.1 (i + 2)) (hG.1 (i + 3)) (hG.1 (i + 4)) (hG.1 (i + 5)) A1 e2) ?_
  intro i2 A2
  refine r_pop c369_377 rfl rfl ?_
  refine r_goto c369_378 ?_
  refine q_R.wk (ks := [5, 0, 1, 2, 3, 4]) (lo' := y_lo i) rfl ?_
  exact k _ _ _ A2 ⟨⟨_, J2⟩, (j_T_J J2).2⟩ (by omega) (by omega)
theorem y_k1 {Γ : q_Γ} (hG : q_GG Γ) {i : Nat} (hi : i + 6 ≤ Γ.2.2.2.1) (hL : Γ.2.2.2.1 ≤ 3072) {h : q_F} (hA : q_Al 0 155 h) (J : t_J h) (E : h 1 1 = h 139 14) {cl sl : Nat} (hc : cl ≤ 3900) (hs : sl ≤ 39000) (k : y_K Γ i cl sl) : q_R Γ q_K 155 369 y_P (381, y_lo i, [], q_hp q_K 155 h, [], cl, sl) := by
  obtain ⟨S, J⟩ := J
  refine r_aload_n c369_381 rfl rfl ?_
  refine y_arg c369_382 c369_383 c369_385 c369_386 c369_387 rfl rfl rfl hi hL (by decide) ?_
  obtain ⟨v1, g1, g2, S2, e1, e2, J2⟩ := t_tru (v := (Γ.1 (i + 1))) J
  refine y_cv (a := 0) (b := 0) c369_388 (by decide) rfl rfl rfl rfl (by omega) (by omega) rfl rfl (wn226 hG (hG.1 (i + 1)) hA e1) ?_
  intro i1 A1
  refine r_pop c369_391 rfl rfl ?_
  refine r_aload_n c369_392 rfl rfl ?_
  refine y_arg c369_393 c369_394 c369_396 c369_397 c369_398 rfl rfl rfl hi hL (by decide) ?_
  refine y_cv (a := 0) (b := 0) c369_399 (by decide) rfl rfl rfl rfl (by omega) (by omega) rfl rfl (wn358 hG (hG.1 (i + 1)) A1 e2) ?_
  intro i2 A2
  refine r_pop c369_402 rfl rfl ?_
  refine r_goto c369_403 ?_
  refine q_R.wk (ks := [5, 0, 1, 2, 3, 4]) (lo' := y_lo i) rfl ?_
  exact k _ _ _ A2 ⟨⟨_, J2⟩, (j_T_J J2).2⟩ (by omega) (by omega)
theorem y_k2 {Γ : q_Γ} (hG : q_GG Γ) {i : Nat} (hi : i + 6 ≤ Γ.2.2.2.1) (hL : Γ.2.2.2.1 ≤ 3072) {h : q_F} (hA : q_Al 0 155 h) (J : t_J h) (E : h 1 1 = h 139 14) {cl sl : Nat} (hc : cl ≤ 3900) (hs : sl ≤ 39000) (k : y_K Γ i cl sl) : q_R Γ q_K 155 369 y_P (406, y_lo i, [], q_hp q_K 155 h, [], cl, sl) := by
  obtain ⟨S, J⟩ := J
  refine r_aload_n c369_406 rfl rfl ?_
  obtain ⟨v1, g1, g2, S2, e1, e2, J2⟩ := t_load  J
  refine y_cv (a := 0) (b := 0) c369_407 (by decide) rfl rfl rfl rfl (by omega) (by omega) rfl rfl (wn187 hG  hA e1) ?_
  intro i1 A1
  refine r_pop c369_410 rfl rfl ?_
  refine r_aload_n c369_411 rfl rfl ?_
  refine y_cv (a := 0) (b := 0) c369_412 (by decide) rfl rfl rfl rfl (by omega) (by omega) rfl rfl (wn283 hG  A1 e2) ?_
  intro i2 A2
  refine r_pop c369_415 rfl rfl ?_
  refine r_goto c369_416 ?_
  refine q_R.wk (ks := [5, 0, 1, 2, 3, 4]) (lo' := y_lo i) rfl ?_
  exact k _ _ _ A2 ⟨⟨_, J2⟩, (j_T_J J2).2⟩ (by omega) (by omega)
theorem y_k3 {Γ : q_Γ} (hG : q_GG Γ) {i : Nat} (hi : i + 6 ≤ Γ.2.2.2.1) (hL : Γ.2.2.2.1 ≤ 3072) {h : q_F} (hA : q_Al 0 155 h) (J : t_J h) (E : h 1 1 = h 139 14) {cl sl : Nat} (hc : cl ≤ 3900) (hs : sl ≤ 39000) (k : y_K Γ i cl sl) : q_R Γ q_K 155 369 y_P (419, y_lo i, [], q_hp q_K 155 h, [], cl, sl) := by
  obtain ⟨S, J⟩ := J
  refine r_aload_n c369_419 rfl rfl ?_
  obtain ⟨v1, e1⟩ := c_errCode h
  refine y_cp (a := 0) (b := 0) c369_420 (by decide) rfl rfl rfl rfl (by omega) (by omega) rfl rfl (wn177 hG  hA e1) ?_
  intro i1
  refine r_pop c369_423 rfl rfl ?_
  refine r_aload_n c369_424 rfl rfl ?_
  obtain ⟨v2, g2, e2, J2⟩ := t_r_errCode  hA J
  refine y_cv (a := 0) (b := 0) c369_425 (by decide) rfl rfl rfl rfl (by omega) (by omega) rfl rfl (wn255 hG  hA e2) ?_
  intro i2 A2
  refine r_pop c369_428 rfl rfl ?_
  refine r_goto c369_429 ?_
  refine q_R.wk (ks := [5, 0, 1, 2, 3, 4]) (lo' := y_lo i) rfl ?_
  exact k _ _ _ A2 ⟨⟨_, J2⟩, (j_T_J J2).2⟩ (by omega) (by omega)
theorem y_k4 {Γ : q_Γ} (hG : q_GG Γ) {i : Nat} (hi : i + 6 ≤ Γ.2.2.2.1) (hL : Γ.2.2.2.1 ≤ 3072) {h : q_F} (hA : q_Al 0 155 h) (J : t_J h) (E : h 1 1 = h 139 14) {cl sl : Nat} (hc : cl ≤ 3900) (hs : sl ≤ 39000) (k : y_K Γ i cl sl) : q_R Γ q_K 155 369 y_P (432, y_lo i, [], q_hp q_K 155 h, [], cl, sl) := by
  obtain ⟨S, J⟩ := J
  refine r_aload_n c369_432 rfl rfl ?_
  obtain ⟨v1, e1⟩ := c_errOff h
  refine y_cp (a := 0) (b := 0) c369_433 (by decide) rfl rfl rfl rfl (by omega) (by omega) rfl rfl (wn178 hG  hA e1) ?_
  intro i1
  refine r_pop c369_436 rfl rfl ?_
  refine r_aload_n c369_437 rfl rfl ?_
  obtain ⟨v2, g2, e2, J2⟩ := t_r_errOff  hA J
  refine y_cv (a := 0) (b := 0) c369_438 (by decide) rfl rfl rfl rfl (by omega) (by omega) rfl rfl (wn257 hG  hA e2) ?_
  intro i2 A2
  refine r_pop c369_441 rfl rfl ?_
  refine r_goto c369_442 ?_
  refine q_R.wk (ks := [5, 0, 1, 2, 3, 4]) (lo' := y_lo i) rfl ?_
  exact k _ _ _ A2 ⟨⟨_, J2⟩, (j_T_J J2).2⟩ (by omega) (by omega)
theorem y_k5 {Γ : q_Γ} (hG : q_GG Γ) {i : Nat} (hi : i + 6 ≤ Γ.2.2.2.1) (hL : Γ.2.2.2.1 ≤ 3072) {h : q_F} (hA : q_Al 0 155 h) (J : t_J h) (E : h 1 1 = h 139 14) {cl sl : Nat} (hc : cl ≤ 3900) (hs : sl ≤ 39000) (k : y_K Γ i cl sl) : q_R Γ q_K 155 369 y_P (445, y_lo i, [], q_hp q_K 155 h, [], cl, sl) := by
  obtain ⟨S, J⟩ := J
  refine r_aload_n c369_445 rfl rfl ?_
  refine y_arg c369_446 c369_447 c369_449 c369_450 c369_451 rfl rfl rfl hi hL (by decide) ?_
  refine r_aload_n c369_452 rfl rfl ?_
  obtain ⟨v1, g1, e1, J1⟩ := t_L5 (v1 := (Γ.1 (i + 1))) hA J
  refine y_cs (a := 1) (b := 6) c369_453 rfl rfl (by omega) (by omega) rfl rfl (wn5 hG (hG.1 (i + 1)) hA e1) ?_
  intro i1 A1
  refine r_istore c369_456 (lo' := [(6, (0, v1)), (5, (0, (i : Int))), (0, (9, 0)), (1, (2, Int.ofNat 0)), (2, (2, Int.ofNat 139)), (3, (2, Int.ofNat 153)), (4, (2, Int.ofNat 154))]) rfl rfl rfl ?_
  refine r_aload_n c369_458 rfl rfl ?_
  refine y_arg c369_459 c369_460 c369_462 c369_463 c369_464 rfl rfl rfl hi hL (by decide) ?_
  obtain ⟨v2, g2, e2, J2⟩ := t_r_count (v := (Γ.1 (i + 1))) A1 J1
  refine y_cv (a := 0) (b := 0) c369_465 (by decide) rfl rfl rfl rfl (by omega) (by omega) rfl rfl (wn250 hG (hG.1 (i + 1)) A1 e2) ?_
  intro i2 A2
  refine r_istore c369_468 (lo' := [(7, (0, v2)), (6, (0, v1)), (5, (0, (i : Int))), (0, (9, 0)), (1, (2, Int.ofNat 0)), (2, (2, Int.ofNat 139)), (3, (2, Int.ofNat 153)), (4, (2, Int.ofNat 154))]) rfl rfl rfl ?_
  refine r_goto c369_470 ?_
  refine q_R.wk (ks := [5, 0, 1, 2, 3, 4]) (lo' := y_lo i) rfl ?_
  exact k _ _ _ A2 ⟨⟨_, J2⟩, (j_T_J J2).2⟩ (by omega) (by omega)
theorem y_k6 {Γ : q_Γ} (hG : q_GG Γ) {i : Nat} (hi : i + 6 ≤ Γ.2.2.2.1) (hL : Γ.2.2.2.1 ≤ 3072) {h : q_F} (hA : q_Al 0 155 h) (J : t_J h) (E : h 1 1 = h 139 14) {cl sl : Nat} (hc : cl ≤ 3900) (hs : sl ≤ 39000) (k : y_K Γ i cl sl) : q_R Γ q_K 155 369 y_P (473, y_lo i, [], q_hp q_K 155 h, [], cl, sl) := by
  obtain ⟨S, J⟩ := J
  refine r_aload_n c369_473 rfl rfl ?_
  refine y_arg c369_474 c369_475 c369_477 c369_478 c369_479 rfl rfl rfl hi hL (by decide) ?_
  refine y_arg c369_480 c369_481 c369_483 c369_484 c369_485 rfl rfl rfl hi hL (by decide) ?_
  refine r_aload_n c369_486 rfl rfl ?_
  obtain ⟨v1, g1, e1, J1⟩ := t_L1 (v1 := (Γ.1 (i + 1))) (v2 := (Γ.1 (i + 2))) hA J
  refine y_cs (a := 2) (b := 12) c369_487 rfl rfl (by omega) (by omega) rfl rfl (wn1 hG (hG.1 (i + 1)) (hG.1 (i + 2)) hA e1) ?_
  intro i1 A1
  refine r_istore c369_490 (lo' := [(6, (0, v1)), (5, (0, (i : Int))), (0, (9, 0)), (1, (2, Int.ofNat 0)), (2, (2, Int.ofNat 139)), (3, (2, Int.ofNat 153)), (4, (2, Int.ofNat 154))]) rfl rfl rfl ?_
  refine r_aload_n c369_492 rfl rfl ?_
  refine y_arg c369_493 c369_494 c369_496 c369_497 c369_498 rfl rfl rfl hi hL (by decide) ?_
  refine y_arg c369_499 c369_500 c369_502 c369_503 c369_504 rfl rfl rfl hi hL (by decide) ?_
  obtain ⟨v2, g2, e2, J2⟩ := t_r_axisC (a := (Γ.1 (i + 1))) (v := (Γ.1 (i + 2))) A1 J1
  refine y_cv (a := 0) (b := 0) c369_505 (by decide) rfl rfl rfl rfl (by omega) (by omega) rfl rfl (wn239 hG (hG.1 (i + 1)) (hG.1 (i + 2)) A1 e2) ?_
  intro i2 A2
  refine r_istore c369_508 (lo' := [(7, (0, v2)), (6, (0, v1)), (5, (0, (i : Int))), (0, (9, 0)), (1, (2, Int.ofNat 0)), (2, (2, Int.ofNat 139)), (3, (2, Int.ofNat 153)), (4, (2, Int.ofNat 154))]) rfl rfl rfl ?_
  refine r_goto c369_510 ?_
  refine q_R.wk (ks := [5, 0, 1, 2, 3, 4]) (lo' := y_lo i) rfl ?_
  exact k _ _ _ A2 ⟨⟨_, J2⟩, (j_T_J J2).2⟩ (by omega) (by omega)
theorem y_k7 {Γ : q_Γ} (hG : q_GG Γ) {i : Nat} (hi : i + 6 ≤ Γ.2.2.2.1) (hL : Γ.2.2.2.1 ≤ 3072) {h : q_F} (hA : q_Al 0 155 h) (J : t_J h) (E : h 1 1 = h 139 14) {cl sl : Nat} (hc : cl ≤ 3900) (hs : sl ≤ 39000) (k : y_K Γ i cl sl) : q_R Γ q_K 155 369 y_P (513, y_lo i, [], q_hp q_K 155 h, [], cl, sl) := by
  obtain ⟨S, J⟩ := J
  refine r_aload_n c369_513 rfl rfl ?_
  refine y_arg c369_514 c369_515 c369_517 c369_518 c369_519 rfl rfl rfl hi hL (by decide) ?_
  refine r_aload_n c369_520 rfl rfl ?_
  obtain ⟨v1, g1, e1, J1⟩ := t_L4 (v1 := (Γ.1 (i + 1))) hA J
  refine y_cs (a := 2) (b := 12) c369_521 rfl rfl (by omega) (by omega) rfl rfl (wn4 hG (hG.1 (i + 1)) hA e1) ?_
  intro i1 A1
  refine r_istore c369_524 (lo' := [(6, (0, v1)), (5, (0, (i : Int))), (0, (9, 0)), (1, (2, Int.ofNat 0)), (2, (2, Int.ofNat 139)), (3, (2, Int.ofNat 153)), (4, (2, Int.ofNat 154))]) rfl rfl rfl ?_
  refine r_aload_n c369_526 rfl rfl ?_
  refine y_arg c369_527 c369_528 c369_530 c369_531 c369_532 rfl rfl rfl hi hL (by decide) ?_
  obtain ⟨v2, g2, e2, J2⟩ := t_r_coordinate (a := (Γ.1 (i + 1))) A1 J1
  refine y_cv (a := 0) (b := 0) c369_533 (by decide) rfl rfl rfl rfl (by omega) (by omega) rfl rfl (wn248 hG (hG.1 (i + 1)) A1 e2) ?_
  intro i2 A2
  refine r_istore c369_536 (lo' := [(7, (0, v2)), (6, (0, v1)), (5, (0, (i : Int))), (0, (9, 0)), (1, (2, Int.ofNat 0)), (2, (2, Int.ofNat 139)), (3, (2, Int.ofNat 153)), (4, (2, Int.ofNat 154))]) rfl rfl rfl ?_
  refine r_goto c369_538 ?_
  refine q_R.wk (ks := [5, 0, 1, 2, 3, 4]) (lo' := y_lo i) rfl ?_
  exact k _ _ _ A2 ⟨⟨_, J2⟩, (j_T_J J2).2⟩ (by omega) (by omega)
end -- [99ca.law]
section -- [99cb.law]
/-! Part 99cb: cases of the law. Printed by wip/tools/genlaw.py. -/
theorem y_k8 {Γ : q_Γ} (hG : q_GG Γ) {i : Nat} (hi : i + 6 ≤ Γ.2.2.2.1) (hL : Γ.2.2.2.1 ≤ 3072) {h : q_F} (hA : q_Al 0 155 h) (J : t_J h) (E : h 1 1 = h 139 14) {cl sl : Nat} (hc : cl ≤ 3900) (hs : sl ≤ 39000) (k : y_K Γ i cl sl) : q_R Γ q_K 155 369 y_P (541, y_lo i, [], q_hp q_K 155 h, [], cl, sl) := by
  obtain ⟨S, J⟩ := J
  refine r_aload_n c369_541 rfl rfl ?_
  refine y_arg c369_542 c369_543 c369_545 c369_546 c369_547 rfl rfl rfl hi hL (by decide) ?_
  refine r_aload_n c369_548 rfl rfl ?_
  obtain ⟨v1, g1, e1, J1⟩ := t_L8 (v1 := (Γ.1 (i + 1))) hA J
  refine y_cs (a := 2) (b := 12) c369_549 rfl rfl (by omega) (by omega) rfl rfl (wn8 hG (hG.1 (i + 1)) hA e1) ?_
  intro i1 A1
  refine r_istore c369_552 (lo' := [(6, (0, v1)), (5, (0, (i : Int))), (0, (9, 0)), (1, (2, Int.ofNat 0)), (2, (2, Int.ofNat 139)), (3, (2, Int.ofNat 153)), (4, (2, Int.ofNat 154))]) rfl rfl rfl ?_
  refine r_aload_n c369_554 rfl rfl ?_
  refine y_arg c369_555 c369_556 c369_558 c369_559 c369_560 rfl rfl rfl hi hL (by decide) ?_
  obtain ⟨v2, g2, e2, J2⟩ := t_r_errorC (a := (Γ.1 (i + 1))) A1 J1
  refine y_cv (a := 0) (b := 0) c369_561 (by decide) rfl rfl rfl rfl (by omega) (by omega) rfl rfl (wn254 hG (hG.1 (i + 1)) A1 e2) ?_
  intro i2 A2
  refine r_istore c369_564 (lo' := [(7, (0, v2)), (6, (0, v1)), (5, (0, (i : Int))), (0, (9, 0)), (1, (2, Int.ofNat 0)), (2, (2, Int.ofNat 139)), (3, (2, Int.ofNat 153)), (4, (2, Int.ofNat 154))]) rfl rfl rfl ?_
  refine r_goto c369_566 ?_
  refine q_R.wk (ks := [5, 0, 1, 2, 3, 4]) (lo' := y_lo i) rfl ?_
  exact k _ _ _ A2 ⟨⟨_, J2⟩, (j_T_J J2).2⟩ (by omega) (by omega)
theorem y_k9 {Γ : q_Γ} (hG : q_GG Γ) {i : Nat} (hi : i + 6 ≤ Γ.2.2.2.1) (hL : Γ.2.2.2.1 ≤ 3072) {h : q_F} (hA : q_Al 0 155 h) (J : t_J h) (E : h 1 1 = h 139 14) {cl sl : Nat} (hc : cl ≤ 3900) (hs : sl ≤ 39000) (k : y_K Γ i cl sl) : q_R Γ q_K 155 369 y_P (569, y_lo i, [], q_hp q_K 155 h, [], cl, sl) := by
  obtain ⟨S, J⟩ := J
  refine r_aload_n c369_569 rfl rfl ?_
  refine y_arg c369_570 c369_571 c369_573 c369_574 c369_575 rfl rfl rfl hi hL (by decide) ?_
  refine r_aload_n c369_576 rfl rfl ?_
  obtain ⟨v1, g1, e1, J1⟩ := t_L22 (v1 := (Γ.1 (i + 1))) hA J
  refine y_cs (a := 1) (b := 6) c369_577 rfl rfl (by omega) (by omega) rfl rfl (wn22 hG (hG.1 (i + 1)) hA e1) ?_
  intro i1 A1
  refine r_istore c369_580 (lo' := [(6, (0, v1)), (5, (0, (i : Int))), (0, (9, 0)), (1, (2, Int.ofNat 0)), (2, (2, Int.ofNat 139)), (3, (2, Int.ofNat 153)), (4, (2, Int.ofNat 154))]) rfl rfl rfl ?_
  refine r_aload_n c369_582 rfl rfl ?_
  refine y_arg c369_583 c369_584 c369_586 c369_587 c369_588 rfl rfl rfl hi hL (by decide) ?_
  obtain ⟨v2, g2, e2, J2⟩ := t_r_readsC (a := (Γ.1 (i + 1))) A1 J1
  refine y_cv (a := 0) (b := 0) c369_589 (by decide) rfl rfl rfl rfl (by omega) (by omega) rfl rfl (wn319 hG (hG.1 (i + 1)) A1 e2) ?_
  intro i2 A2
  refine r_istore c369_592 (lo' := [(7, (0, v2)), (6, (0, v1)), (5, (0, (i : Int))), (0, (9, 0)), (1, (2, Int.ofNat 0)), (2, (2, Int.ofNat 139)), (3, (2, Int.ofNat 153)), (4, (2, Int.ofNat 154))]) rfl rfl rfl ?_
  refine r_goto c369_594 ?_
  refine q_R.wk (ks := [5, 0, 1, 2, 3, 4]) (lo' := y_lo i) rfl ?_
  exact k _ _ _ A2 ⟨⟨_, J2⟩, (j_T_J J2).2⟩ (by omega) (by omega)
theorem y_k10 {Γ : q_Γ} (hG : q_GG Γ) {i : Nat} (hi : i + 6 ≤ Γ.2.2.2.1) (hL : Γ.2.2.2.1 ≤ 3072) {h : q_F} (hA : q_Al 0 155 h) (J : t_J h) (E : h 1 1 = h 139 14) {cl sl : Nat} (hc : cl ≤ 3900) (hs : sl ≤ 39000) (k : y_K Γ i cl sl) : q_R Γ q_K 155 369 y_P (597, y_lo i, [], q_hp q_K 155 h, [], cl, sl) := by
  obtain ⟨S, J⟩ := J
  refine r_aload_n c369_597 rfl rfl ?_
  obtain ⟨v1, e1⟩ := c_time h
  refine y_cp (a := 0) (b := 0) c369_598 (by decide) rfl rfl rfl rfl (by omega) (by omega) rfl rfl (wn223 hG  hA e1) ?_
  intro i1
  refine r_pop2 c369_601 rfl rfl ?_
  refine r_aload_n c369_602 rfl rfl ?_
  obtain ⟨v2, g2, e2, J2⟩ := t_r_time  hA J
  refine y_cv (a := 0) (b := 0) c369_603 (by decide) rfl rfl rfl rfl (by omega) (by omega) rfl rfl (wn352 hG  hA e2) ?_
  intro i2 A2
  refine r_pop2 c369_606 rfl rfl ?_
  refine r_goto c369_607 ?_
  refine q_R.wk (ks := [5, 0, 1, 2, 3, 4]) (lo' := y_lo i) rfl ?_
  exact k _ _ _ A2 ⟨⟨_, J2⟩, (j_T_J J2).2⟩ (by omega) (by omega)
theorem y_k11 {Γ : q_Γ} (hG : q_GG Γ) {i : Nat} (hi : i + 6 ≤ Γ.2.2.2.1) (hL : Γ.2.2.2.1 ≤ 3072) {h : q_F} (hA : q_Al 0 155 h) (J : t_J h) (E : h 1 1 = h 139 14) {cl sl : Nat} (hc : cl ≤ 3900) (hs : sl ≤ 39000) (k : y_K Γ i cl sl) : q_R Γ q_K 155 369 y_P (610, y_lo i, [], q_hp q_K 155 h, [], cl, sl) := by
  obtain ⟨S, J⟩ := J
  refine r_aload_n c369_610 rfl rfl ?_
  refine y_arg c369_611 c369_612 c369_614 c369_615 c369_616 rfl rfl rfl hi hL (by decide) ?_
  refine r_aload_n c369_617 rfl rfl ?_
  obtain ⟨v1, g1, e1, J1⟩ := t_L9 (v1 := (Γ.1 (i + 1))) hA J
  refine y_cs (a := 3) (b := 18) c369_618 rfl rfl (by omega) (by omega) rfl rfl (wn9 hG (hG.1 (i + 1)) hA e1) ?_
  intro i1 A1
  refine r_istore c369_621 (lo' := [(6, (0, v1)), (5, (0, (i : Int))), (0, (9, 0)), (1, (2, Int.ofNat 0)), (2, (2, Int.ofNat 139)), (3, (2, Int.ofNat 153)), (4, (2, Int.ofNat 154))]) rfl rfl rfl ?_
  refine r_aload_n c369_623 rfl rfl ?_
  refine y_arg c369_624 c369_625 c369_627 c369_628 c369_629 rfl rfl rfl hi hL (by decide) ?_
  obtain ⟨v2, g2, e2, J2⟩ := t_r_homeC (a := (Γ.1 (i + 1))) A1 J1
  refine y_cv (a := 0) (b := 0) c369_630 (by decide) rfl rfl rfl rfl (by omega) (by omega) rfl rfl (wn263 hG (hG.1 (i + 1)) A1 e2) ?_
  intro i2 A2
  refine r_istore c369_633 (lo' := [(7, (0, v2)), (6, (0, v1)), (5, (0, (i : Int))), (0, (9, 0)), (1, (2, Int.ofNat 0)), (2, (2, Int.ofNat 139)), (3, (2, Int.ofNat 153)), (4, (2, Int.ofNat 154))]) rfl rfl rfl ?_
  refine r_goto c369_635 ?_
  refine q_R.wk (ks := [5, 0, 1, 2, 3, 4]) (lo' := y_lo i) rfl ?_
  exact k _ _ _ A2 ⟨⟨_, J2⟩, (j_T_J J2).2⟩ (by omega) (by omega)
theorem y_k12 {Γ : q_Γ} (hG : q_GG Γ) {i : Nat} (hi : i + 6 ≤ Γ.2.2.2.1) (hL : Γ.2.2.2.1 ≤ 3072) {h : q_F} (hA : q_Al 0 155 h) (J : t_J h) (E : h 1 1 = h 139 14) {cl sl : Nat} (hc : cl ≤ 3900) (hs : sl ≤ 39000) (k : y_K Γ i cl sl) : q_R Γ q_K 155 369 y_P (638, y_lo i, [], q_hp q_K 155 h, [], cl, sl) := by
  obtain ⟨S, J⟩ := J
  refine r_aload_n c369_638 rfl rfl ?_
  refine y_arg c369_639 c369_640 c369_642 c369_643 c369_644 rfl rfl rfl hi hL (by decide) ?_
  refine y_arg c369_645 c369_646 c369_648 c369_649 c369_650 rfl rfl rfl hi hL (by decide) ?_
  refine r_aload_n c369_651 rfl rfl ?_
  obtain ⟨v1, g1, e1, J1⟩ := t_L12 (v1 := (Γ.1 (i + 1))) (v2 := (Γ.1 (i + 2))) hA J
  refine y_cs (a := 3) (b := 18) c369_652 rfl rfl (by omega) (by omega) rfl rfl (wn12 hG (hG.1 (i + 1)) (hG.1 (i + 2)) hA e1) ?_
  intro i1 A1
  refine r_istore c369_655 (lo' := [(6, (0, v1)), (5, (0, (i : Int))), (0, (9, 0)), (1, (2, Int.ofNat 0)), (2, (2, Int.ofNat 139)), (3, (2, Int.ofNat 153)), (4, (2, Int.ofNat 154))]) rfl rfl rfl ?_
  refine r_aload_n c369_657 rfl rfl ?_
  refine y_arg c369_658 c369_659 c369_661 c369_662 c369_663 rfl rfl rfl hi hL (by decide) ?_
  refine y_arg c369_664 c369_665 c369_667 c369_668 c369_669 rfl rfl rfl hi hL (by decide) ?_
  obtain ⟨v2, g2, e2, J2⟩ := t_r_jogC (a := (Γ.1 (i + 1))) (v := (Γ.1 (i + 2))) A1 J1
  refine y_cv (a := 0) (b := 0) c369_670 (by decide) rfl rfl rfl rfl (by omega) (by omega) rfl rfl (wn274 hG (hG.1 (i + 1)) (hG.1 (i + 2)) A1 e2) ?_
  intro i2 A2
  refine r_istore c369_673 (lo' := [(7, (0, v2)), (6, (0, v1)), (5, (0, (i : Int))), (0, (9, 0)), (1, (2, Int.ofNat 0)), (2, (2, Int.ofNat 139)), (3, (2, Int.ofNat 153)), (4, (2, Int.ofNat 154))]) rfl rfl rfl ?_
  refine r_goto c369_675 ?_
  refine q_R.wk (ks := [5, 0, 1, 2, 3, 4]) (lo' := y_lo i) rfl ?_
  exact k _ _ _ A2 ⟨⟨_, J2⟩, (j_T_J J2).2⟩ (by omega) (by omega)
theorem y_k13 {Γ : q_Γ} (hG : q_GG Γ) {i : Nat} (hi : i + 6 ≤ Γ.2.2.2.1) (hL : Γ.2.2.2.1 ≤ 3072) {h : q_F} (hA : q_Al 0 155 h) (J : t_J h) (E : h 1 1 = h 139 14) {cl sl : Nat} (hc : cl ≤ 3900) (hs : sl ≤ 39000) (k : y_K Γ i cl sl) : q_R Γ q_K 155 369 y_P (678, y_lo i, [], q_hp q_K 155 h, [], cl, sl) := by
  obtain ⟨S, J⟩ := J
  refine r_aload_n c369_678 rfl rfl ?_
  refine y_arg c369_679 c369_680 c369_682 c369_683 c369_684 rfl rfl rfl hi hL (by decide) ?_
  refine y_arg c369_685 c369_686 c369_688 c369_689 c369_690 rfl rfl rfl hi hL (by decide) ?_
  refine y_arg c369_691 c369_692 c369_694 c369_695 c369_696 rfl rfl rfl hi hL (by decide) ?_
  refine r_aload_n c369_697 rfl rfl ?_
  obtain ⟨v1, g1, e1, J1⟩ := t_L20 (v1 := (Γ.1 (i + 1))) (v2 := (Γ.1 (i + 2))) (v3 := (Γ.1 (i + 3))) hA J
  refine y_cs (a := 5) (b := 30) c369_698 rfl rfl (by omega) (by omega) rfl rfl (wn20 hG (hG.1 (i + 1)) (hG.1 (i + 2)) (hG.1 (i + 3)) hA e1) ?_
  intro i1 A1
  refine r_istore c369_701 (lo' := [(6, (0, v1)), (5, (0, (i : Int))), (0, (9, 0)), (1, (2, Int.ofNat 0)), (2, (2, Int.ofNat 139)), (3, (2, Int.ofNat 153)), (4, (2, Int.ofNat 154))]) rfl rfl rfl ?_
  refine r_aload_n c369_703 rfl rfl ?_
  refine y_arg c369_704 c369_705 c369_707 c369_708 c369_709 rfl rfl rfl hi hL (by decide) ?_
  refine y_arg c369_710 c369_711 c369_713 c369_714 c369_715 rfl rfl rfl hi hL (by decide) ?_
  refine y_arg c369_716 c369_717 c369_719 c369_720 c369_721 rfl rfl rfl hi hL (by decide) ?_
  obtain ⟨v2, g2, e2, J2⟩ := t_r_queueC (x := (Γ.1 (i + 1))) (y := (Γ.1 (i + 2))) (z := (Γ.1 (i + 3))) A1 J1
  refine y_cv (a := 0) (b := 0) c369_722 (by decide) rfl rfl rfl rfl (by omega) (by omega) rfl rfl (wn309 hG (hG.1 (i + 1)) (hG.1 (i + 2)) (hG.1 (i + 3)) A1 e2) ?_
  intro i2 A2
  refine r_istore c369_725 (lo' := [(7, (0, v2)), (6, (0, v1)), (5, (0, (i : Int))), (0, (9, 0)), (1, (2, Int.ofNat 0)), (2, (2, Int.ofNat 139)), (3, (2, Int.ofNat 153)), (4, (2, Int.ofNat 154))]) rfl rfl rfl ?_
  refine r_goto c369_727 ?_
  refine q_R.wk (ks := [5, 0, 1, 2, 3, 4]) (lo' := y_lo i) rfl ?_
  exact k _ _ _ A2 ⟨⟨_, J2⟩, (j_T_J J2).2⟩ (by omega) (by omega)
theorem y_k14 {Γ : q_Γ} (hG : q_GG Γ) {i : Nat} (hi : i + 6 ≤ Γ.2.2.2.1) (hL : Γ.2.2.2.1 ≤ 3072) {h : q_F} (hA : q_Al 0 155 h) (J : t_J h) (E : h 1 1 = h 139 14) {cl sl : Nat} (hc : cl ≤ 3900) (hs : sl ≤ 39000) (k : y_K Γ i cl sl) : q_R Γ q_K 155 369 y_P (730, y_lo i, [], q_hp q_K 155 h, [], cl, sl) := by
  obtain ⟨S, J⟩ := J
  refine r_aload_n c369_730 rfl rfl ?_
  refine r_aload_n c369_731 rfl rfl ?_
  obtain ⟨v1, g1, e1, J1⟩ := t_L37  hA J
  refine y_cs (a := 1) (b := 6) c369_732 rfl rfl (by omega) (by omega) rfl rfl (wn37 hG  hA e1) ?_
  intro i1 A1
  refine r_istore c369_735 (lo' := [(6, (0, v1)), (5, (0, (i : Int))), (0, (9, 0)), (1, (2, Int.ofNat 0)), (2, (2, Int.ofNat 139)), (3, (2, Int.ofNat 153)), (4, (2, Int.ofNat 154))]) rfl rfl rfl ?_
  refine r_aload_n c369_737 rfl rfl ?_
  obtain ⟨v2, g2, e2, J2⟩ := t_r_unqueue  A1 J1
  refine y_cv (a := 0) (b := 0) c369_738 (by decide) rfl rfl rfl rfl (by omega) (by omega) rfl rfl (wn361 hG  A1 e2) ?_
  intro i2 A2
  refine r_istore c369_741 (lo' := [(7, (0, v2)), (6, (0, v1)), (5, (0, (i : Int))), (0, (9, 0)), (1, (2, Int.ofNat 0)), (2, (2, Int.ofNat 139)), (3, (2, Int.ofNat 153)), (4, (2, Int.ofNat 154))]) rfl rfl rfl ?_
  refine r_goto c369_743 ?_
  refine q_R.wk (ks := [5, 0, 1, 2, 3, 4]) (lo' := y_lo i) rfl ?_
  exact k _ _ _ A2 ⟨⟨_, J2⟩, (j_T_J J2).2⟩ (by omega) (by omega)
theorem y_k15 {Γ : q_Γ} (hG : q_GG Γ) {i : Nat} (hi : i + 6 ≤ Γ.2.2.2.1) (hL : Γ.2.2.2.1 ≤ 3072) {h : q_F} (hA : q_Al 0 155 h) (J : t_J h) (E : h 1 1 = h 139 14) {cl sl : Nat} (hc : cl ≤ 3900) (hs : sl ≤ 39000) (k : y_K Γ i cl sl) : q_R Γ q_K 155 369 y_P (746, y_lo i, [], q_hp q_K 155 h, [], cl, sl) := by
  obtain ⟨S, J⟩ := J
  refine r_aload_n c369_746 rfl rfl ?_
  refine y_arg c369_747 c369_748 c369_750 c369_751 c369_752 rfl rfl rfl hi hL (by decide) ?_
  refine r_aload_n c369_753 rfl rfl ?_
  obtain ⟨v1, g1, e1, J1⟩ := t_L24 (v1 := (Γ.1 (i + 1))) hA J
  refine y_cs (a := 1) (b := 6) c369_754 rfl rfl (by omega) (by omega) rfl rfl (wn24 hG (hG.1 (i + 1)) hA e1) ?_
  intro i1 A1
  refine r_istore c369_757 (lo' := [(6, (0, v1)), (5, (0, (i : Int))), (0, (9, 0)), (1, (2, Int.ofNat 0)), (2, (2, Int.ofNat 139)), (3, (2, Int.ofNat 153)), (4, (2, Int.ofNat 154))]) rfl rfl rfl ?_
  refine r_aload_n c369_759 rfl rfl ?_
  refine y_arg c369_760 c369_761 c369_763 c369_764 c369_765 rfl rfl rfl hi hL (by decide) ?_
  obtain ⟨v2, g2, e2, J2⟩ := t_r_runC (n := (Γ.1 (i + 1))) A1 J1
  refine y_cv (a := 0) (b := 0) c369_766 (by decide) rfl rfl rfl rfl (by omega) (by omega) rfl rfl (wn324 hG (hG.1 (i + 1)) A1 e2) ?_
  intro i2 A2
  refine r_istore c369_769 (lo' := [(7, (0, v2)), (6, (0, v1)), (5, (0, (i : Int))), (0, (9, 0)), (1, (2, Int.ofNat 0)), (2, (2, Int.ofNat 139)), (3, (2, Int.ofNat 153)), (4, (2, Int.ofNat 154))]) rfl rfl rfl ?_
  refine r_goto c369_771 ?_
  refine q_R.wk (ks := [5, 0, 1, 2, 3, 4]) (lo' := y_lo i) rfl ?_
  exact k _ _ _ A2 ⟨⟨_, J2⟩, (j_T_J J2).2⟩ (by omega) (by omega)
end -- [99cb.law]
section -- [99cc.law]
/-! Part 99cc: cases of the law. Printed by wip/tools/genlaw.py. -/
theorem y_k16 {Γ : q_Γ} (hG : q_GG Γ) {i : Nat} (hi : i + 6 ≤ Γ.2.2.2.1) (hL : Γ.2.2.2.1 ≤ 3072) {h : q_F} (hA : q_Al 0 155 h) (J : t_J h) (E : h 1 1 = h 139 14) {cl sl : Nat} (hc : cl ≤ 3900) (hs : sl ≤ 39000) (k : y_K Γ i cl sl) : q_R Γ q_K 155 369 y_P (774, y_lo i, [], q_hp q_K 155 h, [], cl, sl) := by
  obtain ⟨S, J⟩ := J
  refine r_aload_n c369_774 rfl rfl ?_
  obtain ⟨v1, g1, e1, J1⟩ := t_c_reset  hA J
  refine y_cv (a := 0) (b := 0) c369_775 (by decide) rfl rfl rfl rfl (by omega) (by omega) rfl rfl (wn205 hG  hA e1) ?_
  intro i1 A1
  refine r_pop c369_778 rfl rfl ?_
  refine r_aload_n c369_779 rfl rfl ?_
  obtain ⟨v2, g2, e2, J2⟩ := t_r_reset  A1 J1
  refine y_cv (a := 0) (b := 0) c369_780 (by decide) rfl rfl rfl rfl (by omega) (by omega) rfl rfl (wn321 hG  A1 e2) ?_
  intro i2 A2
  refine r_pop c369_783 rfl rfl ?_
  refine r_goto c369_784 ?_
  refine q_R.wk (ks := [5, 0, 1, 2, 3, 4]) (lo' := y_lo i) rfl ?_
  exact k _ _ _ A2 ⟨⟨_, J2⟩, (j_T_J J2).2⟩ (by omega) (by omega)
theorem y_k17 {Γ : q_Γ} (hG : q_GG Γ) {i : Nat} (hi : i + 6 ≤ Γ.2.2.2.1) (hL : Γ.2.2.2.1 ≤ 3072) {h : q_F} (hA : q_Al 0 155 h) (J : t_J h) (E : h 1 1 = h 139 14) {cl sl : Nat} (hc : cl ≤ 3900) (hs : sl ≤ 39000) (k : y_K Γ i cl sl) : q_R Γ q_K 155 369 y_P (787, y_lo i, [], q_hp q_K 155 h, [], cl, sl) := by
  obtain ⟨S, J⟩ := J
  refine r_aload_n c369_787 rfl rfl ?_
  refine y_arg c369_788 c369_789 c369_791 c369_792 c369_793 rfl rfl rfl hi hL (by decide) ?_
  refine y_nz c369_794 c369_797 c369_798 c369_801 rfl (hG.1 (i + 1)) ?_
  obtain ⟨v1, g1, e1, J1⟩ := t_c_setC (v := (y_nzv (Γ.1 (i + 1)))) (y_nz01 (Γ.1 (i + 1))) J
  refine y_cv (a := 0) (b := 0) c369_802 (by decide) rfl rfl rfl rfl (by omega) (by omega) rfl rfl (wn210 hG (y_nz01 (Γ.1 (i + 1))) hA e1) ?_
  intro i1 A1
  refine r_pop c369_805 rfl rfl ?_
  refine r_aload_n c369_806 rfl rfl ?_
  refine y_arg c369_807 c369_808 c369_810 c369_811 c369_812 rfl rfl rfl hi hL (by decide) ?_
  refine y_nz c369_813 c369_816 c369_817 c369_820 rfl (hG.1 (i + 1)) ?_
  obtain ⟨v2, g2, e2, J2⟩ := t_r_setC (v := (y_nzv (Γ.1 (i + 1)))) (y_nz01 (Γ.1 (i + 1))) J1
  refine y_cv (a := 0) (b := 0) c369_821 (by decide) rfl rfl rfl rfl (by omega) (by omega) rfl rfl (wn328 hG (y_nz01 (Γ.1 (i + 1))) A1 e2) ?_
  intro i2 A2
  refine r_pop c369_824 rfl rfl ?_
  refine r_goto c369_825 ?_
  refine q_R.wk (ks := [5, 0, 1, 2, 3, 4]) (lo' := y_lo i) rfl ?_
  exact k _ _ _ A2 ⟨⟨_, J2⟩, (j_T_J J2).2⟩ (by omega) (by omega)
theorem y_k18 {Γ : q_Γ} (hG : q_GG Γ) {i : Nat} (hi : i + 6 ≤ Γ.2.2.2.1) (hL : Γ.2.2.2.1 ≤ 3072) {h : q_F} (hA : q_Al 0 155 h) (J : t_J h) (E : h 1 1 = h 139 14) {cl sl : Nat} (hc : cl ≤ 3900) (hs : sl ≤ 39000) (k : y_K Γ i cl sl) : q_R Γ q_K 155 369 y_P (828, y_lo i, [], q_hp q_K 155 h, [], cl, sl) := by
  obtain ⟨S, J⟩ := J
  refine r_aload_n c369_828 rfl rfl ?_
  refine y_arg c369_829 c369_830 c369_832 c369_833 c369_834 rfl rfl rfl hi hL (by decide) ?_
  refine y_nz c369_835 c369_838 c369_839 c369_842 rfl (hG.1 (i + 1)) ?_
  obtain ⟨v1, g1, e1, J1⟩ := t_c_setD (v := (y_nzv (Γ.1 (i + 1)))) (y_nz01 (Γ.1 (i + 1))) J
  refine y_cv (a := 0) (b := 0) c369_843 (by decide) rfl rfl rfl rfl (by omega) (by omega) rfl rfl (wn211 hG (y_nz01 (Γ.1 (i + 1))) hA e1) ?_
  intro i1 A1
  refine r_pop c369_846 rfl rfl ?_
  refine r_aload_n c369_847 rfl rfl ?_
  refine y_arg c369_848 c369_849 c369_851 c369_852 c369_853 rfl rfl rfl hi hL (by decide) ?_
  refine y_nz c369_854 c369_857 c369_858 c369_861 rfl (hG.1 (i + 1)) ?_
  obtain ⟨v2, g2, e2, J2⟩ := t_r_setD (v := (y_nzv (Γ.1 (i + 1)))) (y_nz01 (Γ.1 (i + 1))) J1
  refine y_cv (a := 0) (b := 0) c369_862 (by decide) rfl rfl rfl rfl (by omega) (by omega) rfl rfl (wn329 hG (y_nz01 (Γ.1 (i + 1))) A1 e2) ?_
  intro i2 A2
  refine r_pop c369_865 rfl rfl ?_
  refine r_goto c369_866 ?_
  refine q_R.wk (ks := [5, 0, 1, 2, 3, 4]) (lo' := y_lo i) rfl ?_
  exact k _ _ _ A2 ⟨⟨_, J2⟩, (j_T_J J2).2⟩ (by omega) (by omega)
theorem y_k19 {Γ : q_Γ} (hG : q_GG Γ) {i : Nat} (hi : i + 6 ≤ Γ.2.2.2.1) (hL : Γ.2.2.2.1 ≤ 3072) {h : q_F} (hA : q_Al 0 155 h) (J : t_J h) (E : h 1 1 = h 139 14) {cl sl : Nat} (hc : cl ≤ 3900) (hs : sl ≤ 39000) (k : y_K Γ i cl sl) : q_R Γ q_K 155 369 y_P (869, y_lo i, [], q_hp q_K 155 h, [], cl, sl) := by
  obtain ⟨S, J⟩ := J
  refine r_aload_n c369_869 rfl rfl ?_
  refine y_arg c369_870 c369_871 c369_873 c369_874 c369_875 rfl rfl rfl hi hL (by decide) ?_
  refine y_arg c369_876 c369_877 c369_879 c369_880 c369_881 rfl rfl rfl hi hL (by decide) ?_
  refine r_aload_n c369_882 rfl rfl ?_
  obtain ⟨v1, g1, e1, J1⟩ := t_L26 (v1 := (Γ.1 (i + 1))) (v2 := (Γ.1 (i + 2))) hA J
  refine y_cs (a := 2) (b := 12) c369_883 rfl rfl (by omega) (by omega) rfl rfl (wn26 hG (hG.1 (i + 1)) (hG.1 (i + 2)) hA e1) ?_
  intro i1 A1
  refine r_istore c369_886 (lo' := [(6, (0, v1)), (5, (0, (i : Int))), (0, (9, 0)), (1, (2, Int.ofNat 0)), (2, (2, Int.ofNat 139)), (3, (2, Int.ofNat 153)), (4, (2, Int.ofNat 154))]) rfl rfl rfl ?_
  refine r_aload_n c369_888 rfl rfl ?_
  refine y_arg c369_889 c369_890 c369_892 c369_893 c369_894 rfl rfl rfl hi hL (by decide) ?_
  refine y_arg c369_895 c369_896 c369_898 c369_899 c369_900 rfl rfl rfl hi hL (by decide) ?_
  obtain ⟨v2, g2, e2, J2⟩ := t_r_setStuck (a := (Γ.1 (i + 1))) (v := (Γ.1 (i + 2))) A1 J1
  refine y_cv (a := 0) (b := 0) c369_901 (by decide) rfl rfl rfl rfl (by omega) (by omega) rfl rfl (wn331 hG (hG.1 (i + 1)) (hG.1 (i + 2)) A1 e2) ?_
  intro i2 A2
  refine r_istore c369_904 (lo' := [(7, (0, v2)), (6, (0, v1)), (5, (0, (i : Int))), (0, (9, 0)), (1, (2, Int.ofNat 0)), (2, (2, Int.ofNat 139)), (3, (2, Int.ofNat 153)), (4, (2, Int.ofNat 154))]) rfl rfl rfl ?_
  refine r_goto c369_906 ?_
  refine q_R.wk (ks := [5, 0, 1, 2, 3, 4]) (lo' := y_lo i) rfl ?_
  exact k _ _ _ A2 ⟨⟨_, J2⟩, (j_T_J J2).2⟩ (by omega) (by omega)
theorem y_k20 {Γ : q_Γ} (hG : q_GG Γ) {i : Nat} (hi : i + 6 ≤ Γ.2.2.2.1) (hL : Γ.2.2.2.1 ≤ 3072) {h : q_F} (hA : q_Al 0 155 h) (J : t_J h) (E : h 1 1 = h 139 14) {cl sl : Nat} (hc : cl ≤ 3900) (hs : sl ≤ 39000) (k : y_K Γ i cl sl) : q_R Γ q_K 155 369 y_P (909, y_lo i, [], q_hp q_K 155 h, [], cl, sl) := by
  obtain ⟨S, J⟩ := J
  refine r_aload_n c369_909 rfl rfl ?_
  refine y_arg c369_910 c369_911 c369_913 c369_914 c369_915 rfl rfl rfl hi hL (by decide) ?_
  refine r_aload_n c369_916 rfl rfl ?_
  obtain ⟨v1, g1, e1, J1⟩ := t_L25 (v1 := (Γ.1 (i + 1))) hA J
  refine y_cs (a := 1) (b := 6) c369_917 rfl rfl (by omega) (by omega) rfl rfl (wn25 hG (hG.1 (i + 1)) hA e1) ?_
  intro i1 A1
  refine r_istore c369_920 (lo' := [(6, (0, v1)), (5, (0, (i : Int))), (0, (9, 0)), (1, (2, Int.ofNat 0)), (2, (2, Int.ofNat 139)), (3, (2, Int.ofNat 153)), (4, (2, Int.ofNat 154))]) rfl rfl rfl ?_
  refine r_aload_n c369_922 rfl rfl ?_
  refine y_arg c369_923 c369_924 c369_926 c369_927 c369_928 rfl rfl rfl hi hL (by decide) ?_
  obtain ⟨v2, g2, e2, J2⟩ := t_r_setStart (v := (Γ.1 (i + 1))) A1 J1
  refine y_cv (a := 0) (b := 0) c369_929 (by decide) rfl rfl rfl rfl (by omega) (by omega) rfl rfl (wn330 hG (hG.1 (i + 1)) A1 e2) ?_
  intro i2 A2
  refine r_istore c369_932 (lo' := [(7, (0, v2)), (6, (0, v1)), (5, (0, (i : Int))), (0, (9, 0)), (1, (2, Int.ofNat 0)), (2, (2, Int.ofNat 139)), (3, (2, Int.ofNat 153)), (4, (2, Int.ofNat 154))]) rfl rfl rfl ?_
  refine r_goto c369_934 ?_
  refine q_R.wk (ks := [5, 0, 1, 2, 3, 4]) (lo' := y_lo i) rfl ?_
  exact k _ _ _ A2 ⟨⟨_, J2⟩, (j_T_J J2).2⟩ (by omega) (by omega)
theorem y_k21 {Γ : q_Γ} (hG : q_GG Γ) {i : Nat} (hi : i + 6 ≤ Γ.2.2.2.1) (hL : Γ.2.2.2.1 ≤ 3072) {h : q_F} (hA : q_Al 0 155 h) (J : t_J h) (E : h 1 1 = h 139 14) {cl sl : Nat} (hc : cl ≤ 3900) (hs : sl ≤ 39000) (k : y_K Γ i cl sl) : q_R Γ q_K 155 369 y_P (937, y_lo i, [], q_hp q_K 155 h, [], cl, sl) := by
  obtain ⟨S, J⟩ := J
  refine r_aload_n c369_937 rfl rfl ?_
  refine y_arg c369_938 c369_939 c369_941 c369_942 c369_943 rfl rfl rfl hi hL (by decide) ?_
  refine y_arg c369_944 c369_945 c369_947 c369_948 c369_949 rfl rfl rfl hi hL (by decide) ?_
  refine r_aload_n c369_950 rfl rfl ?_
  obtain ⟨v1, g1, e1, J1⟩ := t_L33 (v1 := (Γ.1 (i + 1))) (v2 := (Γ.1 (i + 2))) hA J
  refine y_cs (a := 2) (b := 12) c369_951 rfl rfl (by omega) (by omega) rfl rfl (wn33 hG (hG.1 (i + 1)) (hG.1 (i + 2)) hA e1) ?_
  intro i1 A1
  refine r_istore c369_954 (lo' := [(6, (0, v1)), (5, (0, (i : Int))), (0, (9, 0)), (1, (2, Int.ofNat 0)), (2, (2, Int.ofNat 139)), (3, (2, Int.ofNat 153)), (4, (2, Int.ofNat 154))]) rfl rfl rfl ?_
  refine r_aload_n c369_956 rfl rfl ?_
  refine y_arg c369_957 c369_958 c369_960 c369_961 c369_962 rfl rfl rfl hi hL (by decide) ?_
  refine y_arg c369_963 c369_964 c369_966 c369_967 c369_968 rfl rfl rfl hi hL (by decide) ?_
  obtain ⟨v2, g2, e2, J2⟩ := t_r_target (m := (Γ.1 (i + 1))) (a := (Γ.1 (i + 2))) A1 J1
  refine y_cv (a := 0) (b := 0) c369_969 (by decide) rfl rfl rfl rfl (by omega) (by omega) rfl rfl (wn350 hG (hG.1 (i + 1)) (hG.1 (i + 2)) A1 e2) ?_
  intro i2 A2
  refine r_istore c369_972 (lo' := [(7, (0, v2)), (6, (0, v1)), (5, (0, (i : Int))), (0, (9, 0)), (1, (2, Int.ofNat 0)), (2, (2, Int.ofNat 139)), (3, (2, Int.ofNat 153)), (4, (2, Int.ofNat 154))]) rfl rfl rfl ?_
  refine r_goto c369_974 ?_
  refine q_R.wk (ks := [5, 0, 1, 2, 3, 4]) (lo' := y_lo i) rfl ?_
  exact k _ _ _ A2 ⟨⟨_, J2⟩, (j_T_J J2).2⟩ (by omega) (by omega)
theorem y_k22 {Γ : q_Γ} (hG : q_GG Γ) {i : Nat} (hi : i + 6 ≤ Γ.2.2.2.1) (hL : Γ.2.2.2.1 ≤ 3072) {h : q_F} (hA : q_Al 0 155 h) (J : t_J h) (E : h 1 1 = h 139 14) {cl sl : Nat} (hc : cl ≤ 3900) (hs : sl ≤ 39000) (k : y_K Γ i cl sl) : q_R Γ q_K 155 369 y_P (977, y_lo i, [], q_hp q_K 155 h, [], cl, sl) := by
  obtain ⟨S, J⟩ := J
  refine r_aload_n c369_977 rfl rfl ?_
  refine y_arg c369_978 c369_979 c369_981 c369_982 c369_983 rfl rfl rfl hi hL (by decide) ?_
  refine y_arg c369_984 c369_985 c369_987 c369_988 c369_989 rfl rfl rfl hi hL (by decide) ?_
  refine r_aload_n c369_990 rfl rfl ?_
  obtain ⟨v1, g1, e1, J1⟩ := t_L17 (v1 := (Γ.1 (i + 1))) (v2 := (Γ.1 (i + 2))) hA J
  refine y_cs (a := 2) (b := 12) c369_991 rfl rfl (by omega) (by omega) rfl rfl (wn17 hG (hG.1 (i + 1)) (hG.1 (i + 2)) hA e1) ?_
  intro i1 A1
  refine r_istore c369_994 (lo' := [(6, (0, v1)), (5, (0, (i : Int))), (0, (9, 0)), (1, (2, Int.ofNat 0)), (2, (2, Int.ofNat 139)), (3, (2, Int.ofNat 153)), (4, (2, Int.ofNat 154))]) rfl rfl rfl ?_
  refine r_aload_n c369_996 rfl rfl ?_
  refine y_arg c369_997 c369_998 c369_1000 c369_1001 c369_1002 rfl rfl rfl hi hL (by decide) ?_
  refine y_arg c369_1003 c369_1004 c369_1006 c369_1007 c369_1008 rfl rfl rfl hi hL (by decide) ?_
  obtain ⟨v2, g2, e2, J2⟩ := t_r_moveC (m := (Γ.1 (i + 1))) (v := (Γ.1 (i + 2))) A1 J1
  refine y_cv (a := 0) (b := 0) c369_1009 (by decide) rfl rfl rfl rfl (by omega) (by omega) rfl rfl (wn294 hG (hG.1 (i + 1)) (hG.1 (i + 2)) A1 e2) ?_
  intro i2 A2
  refine r_istore c369_1012 (lo' := [(7, (0, v2)), (6, (0, v1)), (5, (0, (i : Int))), (0, (9, 0)), (1, (2, Int.ofNat 0)), (2, (2, Int.ofNat 139)), (3, (2, Int.ofNat 153)), (4, (2, Int.ofNat 154))]) rfl rfl rfl ?_
  refine r_goto c369_1014 ?_
  refine q_R.wk (ks := [5, 0, 1, 2, 3, 4]) (lo' := y_lo i) rfl ?_
  exact k _ _ _ A2 ⟨⟨_, J2⟩, (j_T_J J2).2⟩ (by omega) (by omega)
theorem y_k23 {Γ : q_Γ} (hG : q_GG Γ) {i : Nat} (hi : i + 6 ≤ Γ.2.2.2.1) (hL : Γ.2.2.2.1 ≤ 3072) {h : q_F} (hA : q_Al 0 155 h) (J : t_J h) (E : h 1 1 = h 139 14) {cl sl : Nat} (hc : cl ≤ 3900) (hs : sl ≤ 39000) (k : y_K Γ i cl sl) : q_R Γ q_K 155 369 y_P (1017, y_lo i, [], q_hp q_K 155 h, [], cl, sl) := by
  obtain ⟨S, J⟩ := J
  refine r_aload_n c369_1017 rfl rfl ?_
  refine y_arg c369_1018 c369_1019 c369_1021 c369_1022 c369_1023 rfl rfl rfl hi hL (by decide) ?_
  refine y_arg c369_1024 c369_1025 c369_1027 c369_1028 c369_1029 rfl rfl rfl hi hL (by decide) ?_
  refine r_aload_n c369_1030 rfl rfl ?_
  obtain ⟨v1, g1, e1, J1⟩ := t_L29 (v1 := (Γ.1 (i + 1))) (v2 := (Γ.1 (i + 2))) hA J
  refine y_cs (a := 2) (b := 12) c369_1031 rfl rfl (by omega) (by omega) rfl rfl (wn29 hG (hG.1 (i + 1)) (hG.1 (i + 2)) hA e1) ?_
  intro i1 A1
  refine r_istore c369_1034 (lo' := [(6, (0, v1)), (5, (0, (i : Int))), (0, (9, 0)), (1, (2, Int.ofNat 0)), (2, (2, Int.ofNat 139)), (3, (2, Int.ofNat 153)), (4, (2, Int.ofNat 154))]) rfl rfl rfl ?_
  refine r_aload_n c369_1036 rfl rfl ?_
  refine y_arg c369_1037 c369_1038 c369_1040 c369_1041 c369_1042 rfl rfl rfl hi hL (by decide) ?_
  refine y_arg c369_1043 c369_1044 c369_1046 c369_1047 c369_1048 rfl rfl rfl hi hL (by decide) ?_
  obtain ⟨v2, g2, e2, J2⟩ := t_r_speed (m := (Γ.1 (i + 1))) (k := (Γ.1 (i + 2))) A1 J1
  refine y_cv (a := 0) (b := 0) c369_1049 (by decide) rfl rfl rfl rfl (by omega) (by omega) rfl rfl (wn337 hG (hG.1 (i + 1)) (hG.1 (i + 2)) A1 e2) ?_
  intro i2 A2
  refine r_istore c369_1052 (lo' := [(7, (0, v2)), (6, (0, v1)), (5, (0, (i : Int))), (0, (9, 0)), (1, (2, Int.ofNat 0)), (2, (2, Int.ofNat 139)), (3, (2, Int.ofNat 153)), (4, (2, Int.ofNat 154))]) rfl rfl rfl ?_
  refine r_goto c369_1054 ?_
  refine q_R.wk (ks := [5, 0, 1, 2, 3, 4]) (lo' := y_lo i) rfl ?_
  exact k _ _ _ A2 ⟨⟨_, J2⟩, (j_T_J J2).2⟩ (by omega) (by omega)
end -- [99cc.law]
section -- [99cd.law]
/-! Part 99cd: cases of the law. Printed by wip/tools/genlaw.py. -/
theorem y_k24 {Γ : q_Γ} (hG : q_GG Γ) {i : Nat} (hi : i + 6 ≤ Γ.2.2.2.1) (hL : Γ.2.2.2.1 ≤ 3072) {h : q_F} (hA : q_Al 0 155 h) (J : t_J h) (E : h 1 1 = h 139 14) {cl sl : Nat} (hc : cl ≤ 3900) (hs : sl ≤ 39000) (k : y_K Γ i cl sl) : q_R Γ q_K 155 369 y_P (1057, y_lo i, [], q_hp q_K 155 h, [], cl, sl) := by
  obtain ⟨S, J⟩ := J
  refine r_aload_n c369_1057 rfl rfl ?_
  refine y_arg c369_1058 c369_1059 c369_1061 c369_1062 c369_1063 rfl rfl rfl hi hL (by decide) ?_
  refine y_arg c369_1064 c369_1065 c369_1067 c369_1068 c369_1069 rfl rfl rfl hi hL (by decide) ?_
  refine y_arg c369_1070 c369_1071 c369_1073 c369_1074 c369_1075 rfl rfl rfl hi hL (by decide) ?_
  refine r_aload_n c369_1076 rfl rfl ?_
  obtain ⟨v1, g1, e1, J1⟩ := t_L30 (v1 := (Γ.1 (i + 1))) (v2 := (Γ.1 (i + 2))) (v3 := (Γ.1 (i + 3))) hA J
  refine y_cs (a := 3) (b := 18) c369_1077 rfl rfl (by omega) (by omega) rfl rfl (wn30 hG (hG.1 (i + 1)) (hG.1 (i + 2)) (hG.1 (i + 3)) hA e1) ?_
  intro i1 A1
  refine r_istore c369_1080 (lo' := [(6, (0, v1)), (5, (0, (i : Int))), (0, (9, 0)), (1, (2, Int.ofNat 0)), (2, (2, Int.ofNat 139)), (3, (2, Int.ofNat 153)), (4, (2, Int.ofNat 154))]) rfl rfl rfl ?_
  refine r_aload_n c369_1082 rfl rfl ?_
  refine y_arg c369_1083 c369_1084 c369_1086 c369_1087 c369_1088 rfl rfl rfl hi hL (by decide) ?_
  refine y_arg c369_1089 c369_1090 c369_1092 c369_1093 c369_1094 rfl rfl rfl hi hL (by decide) ?_
  refine y_arg c369_1095 c369_1096 c369_1098 c369_1099 c369_1100 rfl rfl rfl hi hL (by decide) ?_
  obtain ⟨v2, g2, e2, J2⟩ := t_r_behind (m := (Γ.1 (i + 1))) (a := (Γ.1 (i + 2))) (k := (Γ.1 (i + 3))) A1 J1
  refine y_cv (a := 0) (b := 0) c369_1101 (by decide) rfl rfl rfl rfl (by omega) (by omega) rfl rfl (wn341 hG (hG.1 (i + 1)) (hG.1 (i + 2)) (hG.1 (i + 3)) A1 e2) ?_
  intro i2 A2
  refine r_istore c369_1104 (lo' := [(7, (0, v2)), (6, (0, v1)), (5, (0, (i : Int))), (0, (9, 0)), (1, (2, Int.ofNat 0)), (2, (2, Int.ofNat 139)), (3, (2, Int.ofNat 153)), (4, (2, Int.ofNat 154))]) rfl rfl rfl ?_
  refine r_goto c369_1106 ?_
  refine q_R.wk (ks := [5, 0, 1, 2, 3, 4]) (lo' := y_lo i) rfl ?_
  exact k _ _ _ A2 ⟨⟨_, J2⟩, (j_T_J J2).2⟩ (by omega) (by omega)
theorem y_k25 {Γ : q_Γ} (hG : q_GG Γ) {i : Nat} (hi : i + 6 ≤ Γ.2.2.2.1) (hL : Γ.2.2.2.1 ≤ 3072) {h : q_F} (hA : q_Al 0 155 h) (J : t_J h) (E : h 1 1 = h 139 14) {cl sl : Nat} (hc : cl ≤ 3900) (hs : sl ≤ 39000) (k : y_K Γ i cl sl) : q_R Γ q_K 155 369 y_P (1109, y_lo i, [], q_hp q_K 155 h, [], cl, sl) := by
  obtain ⟨S, J⟩ := J
  refine r_aload_n c369_1109 rfl rfl ?_
  refine y_arg c369_1110 c369_1111 c369_1113 c369_1114 c369_1115 rfl rfl rfl hi hL (by decide) ?_
  refine r_aload c369_1116 rfl rfl ?_
  obtain ⟨v1, g1, e1, J1⟩ := t_L6 (v1 := (Γ.1 (i + 1))) hA J
  refine y_cs (a := 1) (b := 6) c369_1118 rfl rfl (by omega) (by omega) rfl rfl (wn6 hG (hG.1 (i + 1)) hA e1) ?_
  intro i1 A1
  refine r_istore c369_1121 (lo' := [(6, (0, v1)), (5, (0, (i : Int))), (0, (9, 0)), (1, (2, Int.ofNat 0)), (2, (2, Int.ofNat 139)), (3, (2, Int.ofNat 153)), (4, (2, Int.ofNat 154))]) rfl rfl rfl ?_
  refine r_aload_n c369_1123 rfl rfl ?_
  refine y_arg c369_1124 c369_1125 c369_1127 c369_1128 c369_1129 rfl rfl rfl hi hL (by decide) ?_
  obtain ⟨v2, g2, e2, J2⟩ := t_r_dev (m := (Γ.1 (i + 1))) A1 J1
  refine y_cv (a := 0) (b := 0) c369_1130 (by decide) rfl rfl rfl rfl (by omega) (by omega) rfl rfl (wn251 hG (hG.1 (i + 1)) A1 e2) ?_
  intro i2 A2
  refine r_fstore c369_1133 (lo' := [(7, (4, v2)), (6, (0, v1)), (5, (0, (i : Int))), (0, (9, 0)), (1, (2, Int.ofNat 0)), (2, (2, Int.ofNat 139)), (3, (2, Int.ofNat 153)), (4, (2, Int.ofNat 154))]) rfl rfl rfl ?_
  refine r_goto c369_1135 ?_
  refine q_R.wk (ks := [5, 0, 1, 2, 3, 4]) (lo' := y_lo i) rfl ?_
  exact k _ _ _ A2 ⟨⟨_, J2⟩, (j_T_J J2).2⟩ (by omega) (by omega)
theorem y_k26 {Γ : q_Γ} (hG : q_GG Γ) {i : Nat} (hi : i + 6 ≤ Γ.2.2.2.1) (hL : Γ.2.2.2.1 ≤ 3072) {h : q_F} (hA : q_Al 0 155 h) (J : t_J h) (E : h 1 1 = h 139 14) {cl sl : Nat} (hc : cl ≤ 3900) (hs : sl ≤ 39000) (k : y_K Γ i cl sl) : q_R Γ q_K 155 369 y_P (1138, y_lo i, [], q_hp q_K 155 h, [], cl, sl) := by
  obtain ⟨S, J⟩ := J
  refine r_aload_n c369_1138 rfl rfl ?_
  refine r_aload_n c369_1139 rfl rfl ?_
  obtain ⟨v1, g1, e1, J1⟩ := t_L10  hA J
  refine y_cs (a := 2) (b := 12) c369_1140 rfl rfl (by omega) (by omega) rfl rfl (wn10 hG  hA e1) ?_
  intro i1 A1
  refine r_istore c369_1143 (lo' := [(6, (0, v1)), (5, (0, (i : Int))), (0, (9, 0)), (1, (2, Int.ofNat 0)), (2, (2, Int.ofNat 139)), (3, (2, Int.ofNat 153)), (4, (2, Int.ofNat 154))]) rfl rfl rfl ?_
  refine r_aload_n c369_1145 rfl rfl ?_
  obtain ⟨v2, g2, e2, J2⟩ := t_r_homeAllC  A1 J1
  refine y_cv (a := 0) (b := 0) c369_1146 (by decide) rfl rfl rfl rfl (by omega) (by omega) rfl rfl (wn264 hG  A1 e2) ?_
  intro i2 A2
  refine r_istore c369_1149 (lo' := [(7, (0, v2)), (6, (0, v1)), (5, (0, (i : Int))), (0, (9, 0)), (1, (2, Int.ofNat 0)), (2, (2, Int.ofNat 139)), (3, (2, Int.ofNat 153)), (4, (2, Int.ofNat 154))]) rfl rfl rfl ?_
  refine r_aload_n c369_1151 rfl rfl ?_
  have q9 := a_p28 hA J J1 e1 e2
  refine y_cp (a := 0) (b := 0) c369_1152 (by decide) rfl rfl rfl rfl (by omega) (by omega) rfl rfl (wn368 hG A2 rfl) ?_
  intro i3
  refine r_iload c369_1155 rfl rfl ?_
  refine r_ic_eq c369_1157 rfl (q_w32_r i3) (q_w32_r i1) (fun _ => ?_) (fun h9 => absurd q9.1 h9.1)
  refine r_iload c369_1162 rfl rfl ?_
  refine r_if_ne (a' := v1) c369_1164 rfl (q_w32_r i1) (fun _ => ?_) (fun h9 => ?_)
  · refine r_goto c369_1179 ?_
    refine q_R.wk (ks := [5, 0, 1, 2, 3, 4]) (lo' := y_lo i) rfl ?_
    exact k _ _ _ A2 ⟨⟨_, J2⟩, (j_T_J J2).2⟩ (by omega) (by omega)
  · refine r_aload_n c369_1167 rfl rfl ?_
    refine r_iconst c369_1168 rfl ?_
    refine r_lald c369_1169 (by decide) (by decide) rfl (by decide) (q_w32_id (by decide) (by decide)) (by decide) (by decide) rfl ?_
    refine r_iload c369_1170 rfl rfl ?_
    refine r_i2l c369_1172 (q_w32_r i2) rfl ?_
    refine y_lc c369_1173 c369_1174 (q9.2 h9.1) ?_
    refine r_goto c369_1179 ?_
    refine q_R.wk (ks := [5, 0, 1, 2, 3, 4]) (lo' := y_lo i) rfl ?_
    exact k _ _ _ A2 ⟨⟨_, J2⟩, (j_T_J J2).2⟩ (by omega) (by omega)
theorem y_k27 {Γ : q_Γ} (hG : q_GG Γ) {i : Nat} (hi : i + 6 ≤ Γ.2.2.2.1) (hL : Γ.2.2.2.1 ≤ 3072) {h : q_F} (hA : q_Al 0 155 h) (J : t_J h) (E : h 1 1 = h 139 14) {cl sl : Nat} (hc : cl ≤ 3900) (hs : sl ≤ 39000) (k : y_K Γ i cl sl) : q_R Γ q_K 155 369 y_P (1182, y_lo i, [], q_hp q_K 155 h, [], cl, sl) := by
  obtain ⟨S, J⟩ := J
  refine r_aload_n c369_1182 rfl rfl ?_
  obtain ⟨v1, g1, e1, J1⟩ := t_c_runAll  hA J
  refine y_cv (a := 0) (b := 0) c369_1183 (by decide) rfl rfl rfl rfl (by omega) (by omega) rfl rfl (wn208 hG  hA e1) ?_
  intro i1 A1
  refine r_pop c369_1186 rfl rfl ?_
  refine r_aload_n c369_1187 rfl rfl ?_
  obtain ⟨v2, g2, e2, J2⟩ := t_r_runAll  A1 J1
  refine y_cv (a := 0) (b := 0) c369_1188 (by decide) rfl rfl rfl rfl (by omega) (by omega) rfl rfl (wn325 hG  A1 e2) ?_
  intro i2 A2
  refine r_pop c369_1191 rfl rfl ?_
  refine r_goto c369_1192 ?_
  refine q_R.wk (ks := [5, 0, 1, 2, 3, 4]) (lo' := y_lo i) rfl ?_
  exact k _ _ _ A2 ⟨⟨_, J2⟩, (j_T_J J2).2⟩ (by omega) (by omega)
theorem y_k28 {Γ : q_Γ} (hG : q_GG Γ) {i : Nat} (hi : i + 6 ≤ Γ.2.2.2.1) (hL : Γ.2.2.2.1 ≤ 3072) {h : q_F} (hA : q_Al 0 155 h) (J : t_J h) (E : h 1 1 = h 139 14) {cl sl : Nat} (hc : cl ≤ 3900) (hs : sl ≤ 39000) (k : y_K Γ i cl sl) : q_R Γ q_K 155 369 y_P (1195, y_lo i, [], q_hp q_K 155 h, [], cl, sl) := by
  obtain ⟨S, J⟩ := J
  refine r_aload_n c369_1195 rfl rfl ?_
  refine y_arg c369_1196 c369_1197 c369_1199 c369_1200 c369_1201 rfl rfl rfl hi hL (by decide) ?_
  refine y_arg c369_1202 c369_1203 c369_1205 c369_1206 c369_1207 rfl rfl rfl hi hL (by decide) ?_
  refine y_arg c369_1208 c369_1209 c369_1211 c369_1212 c369_1213 rfl rfl rfl hi hL (by decide) ?_
  refine y_arg c369_1214 c369_1215 c369_1217 c369_1218 c369_1219 rfl rfl rfl hi hL (by decide) ?_
  refine r_aload_n c369_1220 rfl rfl ?_
  obtain ⟨v1, g1, e1, J1⟩ := t_L11 (v1 := (Γ.1 (i + 1))) (v2 := (Γ.1 (i + 2))) (v3 := (Γ.1 (i + 3))) (v4 := (Γ.1 (i + 4))) hA J
  refine y_cs (a := 6) (b := 36) c369_1221 rfl rfl (by omega) (by omega) rfl rfl (wn11 hG (hG.1 (i + 1)) (hG.1 (i + 2)) (hG.1 (i + 3)) (hG.1 (i + 4)) hA e1) ?_
  intro i1 A1
  refine r_istore c369_1224 (lo' := [(6, (0, v1)), (5, (0, (i : Int))), (0, (9, 0)), (1, (2, Int.ofNat 0)), (2, (2, Int.ofNat 139)), (3, (2, Int.ofNat 153)), (4, (2, Int.ofNat 154))]) rfl rfl rfl ?_
  refine r_aload_n c369_1226 rfl rfl ?_
  refine y_arg c369_1227 c369_1228 c369_1230 c369_1231 c369_1232 rfl rfl rfl hi hL (by decide) ?_
  refine y_arg c369_1233 c369_1234 c369_1236 c369_1237 c369_1238 rfl rfl rfl hi hL (by decide) ?_
  refine y_arg c369_1239 c369_1240 c369_1242 c369_1243 c369_1244 rfl rfl rfl hi hL (by decide) ?_
  refine y_arg c369_1245 c369_1246 c369_1248 c369_1249 c369_1250 rfl rfl rfl hi hL (by decide) ?_
  obtain ⟨v2, g2, e2, J2⟩ := t_r_insertC (i := (Γ.1 (i + 1))) (x := (Γ.1 (i + 2))) (y := (Γ.1 (i + 3))) (z := (Γ.1 (i + 4))) A1 J1
  refine y_cv (a := 0) (b := 0) c369_1251 (by decide) rfl rfl rfl rfl (by omega) (by omega) rfl rfl (wn269 hG (hG.1 (i + 1)) (hG.1 (i + 2)) (hG.1 (i + 3)) (hG.1 (i + 4)) A1 e2) ?_
  intro i2 A2
  refine r_istore c369_1254 (lo' := [(7, (0, v2)), (6, (0, v1)), (5, (0, (i : Int))), (0, (9, 0)), (1, (2, Int.ofNat 0)), (2, (2, Int.ofNat 139)), (3, (2, Int.ofNat 153)), (4, (2, Int.ofNat 154))]) rfl rfl rfl ?_
  refine r_goto c369_1256 ?_
  refine q_R.wk (ks := [5, 0, 1, 2, 3, 4]) (lo' := y_lo i) rfl ?_
  exact k _ _ _ A2 ⟨⟨_, J2⟩, (j_T_J J2).2⟩ (by omega) (by omega)
theorem y_k29 {Γ : q_Γ} (hG : q_GG Γ) {i : Nat} (hi : i + 6 ≤ Γ.2.2.2.1) (hL : Γ.2.2.2.1 ≤ 3072) {h : q_F} (hA : q_Al 0 155 h) (J : t_J h) (E : h 1 1 = h 139 14) {cl sl : Nat} (hc : cl ≤ 3900) (hs : sl ≤ 39000) (k : y_K Γ i cl sl) : q_R Γ q_K 155 369 y_P (1259, y_lo i, [], q_hp q_K 155 h, [], cl, sl) := by
  obtain ⟨S, J⟩ := J
  refine r_aload_n c369_1259 rfl rfl ?_
  refine y_arg c369_1260 c369_1261 c369_1263 c369_1264 c369_1265 rfl rfl rfl hi hL (by decide) ?_
  refine r_aload_n c369_1266 rfl rfl ?_
  obtain ⟨v1, g1, e1, J1⟩ := t_L7 (v1 := (Γ.1 (i + 1))) hA J
  refine y_cs (a := 2) (b := 12) c369_1267 rfl rfl (by omega) (by omega) rfl rfl (wn7 hG (hG.1 (i + 1)) hA e1) ?_
  intro i1 A1
  refine r_istore c369_1270 (lo' := [(6, (0, v1)), (5, (0, (i : Int))), (0, (9, 0)), (1, (2, Int.ofNat 0)), (2, (2, Int.ofNat 139)), (3, (2, Int.ofNat 153)), (4, (2, Int.ofNat 154))]) rfl rfl rfl ?_
  refine r_aload_n c369_1272 rfl rfl ?_
  refine y_arg c369_1273 c369_1274 c369_1276 c369_1277 c369_1278 rfl rfl rfl hi hL (by decide) ?_
  obtain ⟨v2, g2, e2, J2⟩ := t_r_dropC (m := (Γ.1 (i + 1))) A1 J1
  refine y_cv (a := 0) (b := 0) c369_1279 (by decide) rfl rfl rfl rfl (by omega) (by omega) rfl rfl (wn252 hG (hG.1 (i + 1)) A1 e2) ?_
  intro i2 A2
  refine r_istore c369_1282 (lo' := [(7, (0, v2)), (6, (0, v1)), (5, (0, (i : Int))), (0, (9, 0)), (1, (2, Int.ofNat 0)), (2, (2, Int.ofNat 139)), (3, (2, Int.ofNat 153)), (4, (2, Int.ofNat 154))]) rfl rfl rfl ?_
  refine r_goto c369_1284 ?_
  refine q_R.wk (ks := [5, 0, 1, 2, 3, 4]) (lo' := y_lo i) rfl ?_
  exact k _ _ _ A2 ⟨⟨_, J2⟩, (j_T_J J2).2⟩ (by omega) (by omega)
theorem y_k30 {Γ : q_Γ} (hG : q_GG Γ) {i : Nat} (hi : i + 6 ≤ Γ.2.2.2.1) (hL : Γ.2.2.2.1 ≤ 3072) {h : q_F} (hA : q_Al 0 155 h) (J : t_J h) (E : h 1 1 = h 139 14) {cl sl : Nat} (hc : cl ≤ 3900) (hs : sl ≤ 39000) (k : y_K Γ i cl sl) : q_R Γ q_K 155 369 y_P (1287, y_lo i, [], q_hp q_K 155 h, [], cl, sl) := by
  obtain ⟨S, J⟩ := J
  refine r_aload_n c369_1287 rfl rfl ?_
  refine y_arg c369_1288 c369_1289 c369_1291 c369_1292 c369_1293 rfl rfl rfl hi hL (by decide) ?_
  refine y_arg c369_1294 c369_1295 c369_1297 c369_1298 c369_1299 rfl rfl rfl hi hL (by decide) ?_
  refine r_aload_n c369_1300 rfl rfl ?_
  obtain ⟨v1, g1, e1, J1⟩ := t_L32 (v1 := (Γ.1 (i + 1))) (v2 := (Γ.1 (i + 2))) hA J
  refine y_cs (a := 3) (b := 18) c369_1301 rfl rfl (by omega) (by omega) rfl rfl (wn32 hG (hG.1 (i + 1)) (hG.1 (i + 2)) hA e1) ?_
  intro i1 A1
  refine r_istore c369_1304 (lo' := [(6, (0, v1)), (5, (0, (i : Int))), (0, (9, 0)), (1, (2, Int.ofNat 0)), (2, (2, Int.ofNat 139)), (3, (2, Int.ofNat 153)), (4, (2, Int.ofNat 154))]) rfl rfl rfl ?_
  refine r_aload_n c369_1306 rfl rfl ?_
  refine y_arg c369_1307 c369_1308 c369_1310 c369_1311 c369_1312 rfl rfl rfl hi hL (by decide) ?_
  refine y_arg c369_1313 c369_1314 c369_1316 c369_1317 c369_1318 rfl rfl rfl hi hL (by decide) ?_
  obtain ⟨v2, g2, e2, J2⟩ := t_r_swapC (m := (Γ.1 (i + 1))) (o := (Γ.1 (i + 2))) A1 J1
  refine y_cv (a := 0) (b := 0) c369_1319 (by decide) rfl rfl rfl rfl (by omega) (by omega) rfl rfl (wn346 hG (hG.1 (i + 1)) (hG.1 (i + 2)) A1 e2) ?_
  intro i2 A2
  refine r_istore c369_1322 (lo' := [(7, (0, v2)), (6, (0, v1)), (5, (0, (i : Int))), (0, (9, 0)), (1, (2, Int.ofNat 0)), (2, (2, Int.ofNat 139)), (3, (2, Int.ofNat 153)), (4, (2, Int.ofNat 154))]) rfl rfl rfl ?_
  refine r_goto c369_1324 ?_
  refine q_R.wk (ks := [5, 0, 1, 2, 3, 4]) (lo' := y_lo i) rfl ?_
  exact k _ _ _ A2 ⟨⟨_, J2⟩, (j_T_J J2).2⟩ (by omega) (by omega)
theorem y_k31 {Γ : q_Γ} (hG : q_GG Γ) {i : Nat} (hi : i + 6 ≤ Γ.2.2.2.1) (hL : Γ.2.2.2.1 ≤ 3072) {h : q_F} (hA : q_Al 0 155 h) (J : t_J h) (E : h 1 1 = h 139 14) {cl sl : Nat} (hc : cl ≤ 3900) (hs : sl ≤ 39000) (k : y_K Γ i cl sl) : q_R Γ q_K 155 369 y_P (1327, y_lo i, [], q_hp q_K 155 h, [], cl, sl) := by
  obtain ⟨S, J⟩ := J
  refine r_aload_n c369_1327 rfl rfl ?_
  refine y_arg c369_1328 c369_1329 c369_1331 c369_1332 c369_1333 rfl rfl rfl hi hL (by decide) ?_
  refine y_arg c369_1334 c369_1335 c369_1337 c369_1338 c369_1339 rfl rfl rfl hi hL (by decide) ?_
  refine y_arg c369_1340 c369_1341 c369_1343 c369_1344 c369_1345 rfl rfl rfl hi hL (by decide) ?_
  refine r_aload_n c369_1346 rfl rfl ?_
  obtain ⟨v1, g1, e1, J1⟩ := t_L19 (v1 := (Γ.1 (i + 1))) (v2 := (Γ.1 (i + 2))) (v3 := (Γ.1 (i + 3))) hA J
  refine y_cs (a := 3) (b := 18) c369_1347 rfl rfl (by omega) (by omega) rfl rfl (wn19 hG (hG.1 (i + 1)) (hG.1 (i + 2)) (hG.1 (i + 3)) hA e1) ?_
  intro i1 A1
  refine r_istore c369_1350 (lo' := [(6, (0, v1)), (5, (0, (i : Int))), (0, (9, 0)), (1, (2, Int.ofNat 0)), (2, (2, Int.ofNat 139)), (3, (2, Int.ofNat 153)), (4, (2, Int.ofNat 154))]) rfl rfl rfl ?_
  refine r_aload_n c369_1352 rfl rfl ?_
  refine y_arg c369_1353 c369_1354 c369_1356 c369_1357 c369_1358 rfl rfl rfl hi hL (by decide) ?_
  refine y_arg c369_1359 c369_1360 c369_1362 c369_1363 c369_1364 rfl rfl rfl hi hL (by decide) ?_
  refine y_arg c369_1365 c369_1366 c369_1368 c369_1369 c369_1370 rfl rfl rfl hi hL (by decide) ?_
  obtain ⟨v2, g2, e2, J2⟩ := t_r_pointAt (m := (Γ.1 (i + 1))) (a := (Γ.1 (i + 2))) (k := (Γ.1 (i + 3))) A1 J1
  refine y_cv (a := 0) (b := 0) c369_1371 (by decide) rfl rfl rfl rfl (by omega) (by omega) rfl rfl (wn306 hG (hG.1 (i + 1)) (hG.1 (i + 2)) (hG.1 (i + 3)) A1 e2) ?_
  intro i2 A2
  refine r_istore c369_1374 (lo' := [(7, (0, v2)), (6, (0, v1)), (5, (0, (i : Int))), (0, (9, 0)), (1, (2, Int.ofNat 0)), (2, (2, Int.ofNat 139)), (3, (2, Int.ofNat 153)), (4, (2, Int.ofNat 154))]) rfl rfl rfl ?_
  refine r_goto c369_1376 ?_
  refine q_R.wk (ks := [5, 0, 1, 2, 3, 4]) (lo' := y_lo i) rfl ?_
  exact k _ _ _ A2 ⟨⟨_, J2⟩, (j_T_J J2).2⟩ (by omega) (by omega)
end -- [99cd.law]
section -- [99ce.law]
/-! Part 99ce: cases of the law. Printed by wip/tools/genlaw.py. -/
theorem y_k32 {Γ : q_Γ} (hG : q_GG Γ) {i : Nat} (hi : i + 6 ≤ Γ.2.2.2.1) (hL : Γ.2.2.2.1 ≤ 3072) {h : q_F} (hA : q_Al 0 155 h) (J : t_J h) (E : h 1 1 = h 139 14) {cl sl : Nat} (hc : cl ≤ 3900) (hs : sl ≤ 39000) (k : y_K Γ i cl sl) : q_R Γ q_K 155 369 y_P (1379, y_lo i, [], q_hp q_K 155 h, [], cl, sl) := by
  obtain ⟨S, J⟩ := J
  refine r_aload_n c369_1379 rfl rfl ?_
  refine y_arg c369_1380 c369_1381 c369_1383 c369_1384 c369_1385 rfl rfl rfl hi hL (by decide) ?_
  refine y_arg c369_1386 c369_1387 c369_1389 c369_1390 c369_1391 rfl rfl rfl hi hL (by decide) ?_
  refine y_nz c369_1392 c369_1395 c369_1396 c369_1399 rfl (hG.1 (i + 2)) ?_
  refine r_aload_n c369_1400 rfl rfl ?_
  obtain ⟨v1, g1, e1, J1⟩ := t_L21 (v1 := (Γ.1 (i + 1))) (v2 := (y_nzv (Γ.1 (i + 2)))) hA J
  refine y_cs (a := 1) (b := 6) c369_1401 rfl rfl (by omega) (by omega) rfl rfl (wn21 hG (hG.1 (i + 1)) (y_nz01 (Γ.1 (i + 2))) hA e1) ?_
  intro i1 A1
  refine r_istore c369_1404 (lo' := [(6, (0, v1)), (5, (0, (i : Int))), (0, (9, 0)), (1, (2, Int.ofNat 0)), (2, (2, Int.ofNat 139)), (3, (2, Int.ofNat 153)), (4, (2, Int.ofNat 154))]) rfl rfl rfl ?_
  refine r_aload_n c369_1406 rfl rfl ?_
  refine y_arg c369_1407 c369_1408 c369_1410 c369_1411 c369_1412 rfl rfl rfl hi hL (by decide) ?_
  refine y_arg c369_1413 c369_1414 c369_1416 c369_1417 c369_1418 rfl rfl rfl hi hL (by decide) ?_
  refine y_nz c369_1419 c369_1422 c369_1423 c369_1426 rfl (hG.1 (i + 2)) ?_
  obtain ⟨v2, g2, e2, J2⟩ := t_r_ramp (m := (Γ.1 (i + 1))) (v := (y_nzv (Γ.1 (i + 2)))) A1 J1
  refine y_cv (a := 0) (b := 0) c369_1427 (by decide) rfl rfl rfl rfl (by omega) (by omega) rfl rfl (wn313 hG (hG.1 (i + 1)) (y_nz01 (Γ.1 (i + 2))) A1 e2) ?_
  intro i2 A2
  refine r_istore c369_1430 (lo' := [(7, (0, v2)), (6, (0, v1)), (5, (0, (i : Int))), (0, (9, 0)), (1, (2, Int.ofNat 0)), (2, (2, Int.ofNat 139)), (3, (2, Int.ofNat 153)), (4, (2, Int.ofNat 154))]) rfl rfl rfl ?_
  refine r_goto c369_1432 ?_
  refine q_R.wk (ks := [5, 0, 1, 2, 3, 4]) (lo' := y_lo i) rfl ?_
  exact k _ _ _ A2 ⟨⟨_, J2⟩, (j_T_J J2).2⟩ (by omega) (by omega)
theorem y_k33 {Γ : q_Γ} (hG : q_GG Γ) {i : Nat} (hi : i + 6 ≤ Γ.2.2.2.1) (hL : Γ.2.2.2.1 ≤ 3072) {h : q_F} (hA : q_Al 0 155 h) (J : t_J h) (E : h 1 1 = h 139 14) {cl sl : Nat} (hc : cl ≤ 3900) (hs : sl ≤ 39000) (k : y_K Γ i cl sl) : q_R Γ q_K 155 369 y_P (1435, y_lo i, [], q_hp q_K 155 h, [], cl, sl) := by
  obtain ⟨S, J⟩ := J
  refine r_aload_n c369_1435 rfl rfl ?_
  refine y_arg c369_1436 c369_1437 c369_1439 c369_1440 c369_1441 rfl rfl rfl hi hL (by decide) ?_
  refine r_aload_n c369_1442 rfl rfl ?_
  obtain ⟨v1, g1, e1, J1⟩ := t_L28 (v1 := (Γ.1 (i + 1))) hA J
  refine y_cs (a := 1) (b := 6) c369_1443 rfl rfl (by omega) (by omega) rfl rfl (wn28 hG (hG.1 (i + 1)) hA e1) ?_
  intro i1 A1
  refine r_istore c369_1446 (lo' := [(6, (0, v1)), (5, (0, (i : Int))), (0, (9, 0)), (1, (2, Int.ofNat 0)), (2, (2, Int.ofNat 139)), (3, (2, Int.ofNat 153)), (4, (2, Int.ofNat 154))]) rfl rfl rfl ?_
  refine r_aload_n c369_1448 rfl rfl ?_
  refine y_arg c369_1449 c369_1450 c369_1452 c369_1453 c369_1454 rfl rfl rfl hi hL (by decide) ?_
  obtain ⟨v2, g2, e2, J2⟩ := t_r_slowest (m := (Γ.1 (i + 1))) A1 J1
  refine y_cv (a := 0) (b := 0) c369_1455 (by decide) rfl rfl rfl rfl (by omega) (by omega) rfl rfl (wn336 hG (hG.1 (i + 1)) A1 e2) ?_
  intro i2 A2
  refine r_istore c369_1458 (lo' := [(7, (0, v2)), (6, (0, v1)), (5, (0, (i : Int))), (0, (9, 0)), (1, (2, Int.ofNat 0)), (2, (2, Int.ofNat 139)), (3, (2, Int.ofNat 153)), (4, (2, Int.ofNat 154))]) rfl rfl rfl ?_
  refine r_goto c369_1460 ?_
  refine q_R.wk (ks := [5, 0, 1, 2, 3, 4]) (lo' := y_lo i) rfl ?_
  exact k _ _ _ A2 ⟨⟨_, J2⟩, (j_T_J J2).2⟩ (by omega) (by omega)
theorem y_k34 {Γ : q_Γ} (hG : q_GG Γ) {i : Nat} (hi : i + 6 ≤ Γ.2.2.2.1) (hL : Γ.2.2.2.1 ≤ 3072) {h : q_F} (hA : q_Al 0 155 h) (J : t_J h) (E : h 1 1 = h 139 14) {cl sl : Nat} (hc : cl ≤ 3900) (hs : sl ≤ 39000) (k : y_K Γ i cl sl) : q_R Γ q_K 155 369 y_P (1463, y_lo i, [], q_hp q_K 155 h, [], cl, sl) := by
  obtain ⟨S, J⟩ := J
  refine r_aload_n c369_1463 rfl rfl ?_
  obtain ⟨v1, g1, e1, J1⟩ := t_c_pairs  hA J
  refine y_cv (a := 0) (b := 0) c369_1464 (by decide) rfl rfl rfl rfl (by omega) (by omega) rfl rfl (wn218 hG  hA e1) ?_
  intro i1 A1
  refine r_pop c369_1467 rfl rfl ?_
  refine r_aload_n c369_1468 rfl rfl ?_
  obtain ⟨v2, g2, e2, J2⟩ := t_r_pairs  A1 J1
  refine y_cv (a := 0) (b := 0) c369_1469 (by decide) rfl rfl rfl rfl (by omega) (by omega) rfl rfl (wn344 hG  A1 e2) ?_
  intro i2 A2
  refine r_pop c369_1472 rfl rfl ?_
  refine r_goto c369_1473 ?_
  refine q_R.wk (ks := [5, 0, 1, 2, 3, 4]) (lo' := y_lo i) rfl ?_
  exact k _ _ _ A2 ⟨⟨_, J2⟩, (j_T_J J2).2⟩ (by omega) (by omega)
theorem y_k35 {Γ : q_Γ} (hG : q_GG Γ) {i : Nat} (hi : i + 6 ≤ Γ.2.2.2.1) (hL : Γ.2.2.2.1 ≤ 3072) {h : q_F} (hA : q_Al 0 155 h) (J : t_J h) (E : h 1 1 = h 139 14) {cl sl : Nat} (hc : cl ≤ 3900) (hs : sl ≤ 39000) (k : y_K Γ i cl sl) : q_R Γ q_K 155 369 y_P (1476, y_lo i, [], q_hp q_K 155 h, [], cl, sl) := by
  obtain ⟨S, J⟩ := J
  refine r_aload_n c369_1476 rfl rfl ?_
  refine y_arg c369_1477 c369_1478 c369_1480 c369_1481 c369_1482 rfl rfl rfl hi hL (by decide) ?_
  refine y_arg c369_1483 c369_1484 c369_1486 c369_1487 c369_1488 rfl rfl rfl hi hL (by decide) ?_
  refine y_nz c369_1489 c369_1492 c369_1493 c369_1496 rfl (hG.1 (i + 2)) ?_
  refine r_aload_n c369_1497 rfl rfl ?_
  obtain ⟨v1, g1, e1, J1⟩ := t_L3 (v1 := (Γ.1 (i + 1))) (v2 := (y_nzv (Γ.1 (i + 2)))) hA J
  refine y_cs (a := 2) (b := 12) c369_1498 rfl rfl (by omega) (by omega) rfl rfl (wn3 hG (hG.1 (i + 1)) (y_nz01 (Γ.1 (i + 2))) hA e1) ?_
  intro i1 A1
  refine r_istore c369_1501 (lo' := [(6, (0, v1)), (5, (0, (i : Int))), (0, (9, 0)), (1, (2, Int.ofNat 0)), (2, (2, Int.ofNat 139)), (3, (2, Int.ofNat 153)), (4, (2, Int.ofNat 154))]) rfl rfl rfl ?_
  refine r_aload_n c369_1503 rfl rfl ?_
  refine y_arg c369_1504 c369_1505 c369_1507 c369_1508 c369_1509 rfl rfl rfl hi hL (by decide) ?_
  refine y_arg c369_1510 c369_1511 c369_1513 c369_1514 c369_1515 rfl rfl rfl hi hL (by decide) ?_
  refine y_nz c369_1516 c369_1519 c369_1520 c369_1523 rfl (hG.1 (i + 2)) ?_
  obtain ⟨v2, g2, e2, J2⟩ := t_r_bound (a := (Γ.1 (i + 1))) (u := (y_nzv (Γ.1 (i + 2)))) A1 J1
  refine y_cv (a := 0) (b := 0) c369_1524 (by decide) rfl rfl rfl rfl (by omega) (by omega) rfl rfl (wn244 hG (hG.1 (i + 1)) (y_nz01 (Γ.1 (i + 2))) A1 e2) ?_
  intro i2 A2
  refine r_istore c369_1527 (lo' := [(7, (0, v2)), (6, (0, v1)), (5, (0, (i : Int))), (0, (9, 0)), (1, (2, Int.ofNat 0)), (2, (2, Int.ofNat 139)), (3, (2, Int.ofNat 153)), (4, (2, Int.ofNat 154))]) rfl rfl rfl ?_
  refine r_goto c369_1529 ?_
  refine q_R.wk (ks := [5, 0, 1, 2, 3, 4]) (lo' := y_lo i) rfl ?_
  exact k _ _ _ A2 ⟨⟨_, J2⟩, (j_T_J J2).2⟩ (by omega) (by omega)
theorem y_k36 {Γ : q_Γ} (hG : q_GG Γ) {i : Nat} (hi : i + 6 ≤ Γ.2.2.2.1) (hL : Γ.2.2.2.1 ≤ 3072) {h : q_F} (hA : q_Al 0 155 h) (J : t_J h) (E : h 1 1 = h 139 14) {cl sl : Nat} (hc : cl ≤ 3900) (hs : sl ≤ 39000) (k : y_K Γ i cl sl) : q_R Γ q_K 155 369 y_P (1532, y_lo i, [], q_hp q_K 155 h, [], cl, sl) := by
  obtain ⟨S, J⟩ := J
  refine r_aload_n c369_1532 rfl rfl ?_
  refine y_arg c369_1533 c369_1534 c369_1536 c369_1537 c369_1538 rfl rfl rfl hi hL (by decide) ?_
  refine y_arg c369_1539 c369_1540 c369_1542 c369_1543 c369_1544 rfl rfl rfl hi hL (by decide) ?_
  refine y_arg c369_1545 c369_1546 c369_1548 c369_1549 c369_1550 rfl rfl rfl hi hL (by decide) ?_
  obtain ⟨S1, hm1, hI1⟩ := ((j_T_J J).1).1
  obtain ⟨v1, e1⟩ := c_nearest (x := (Γ.1 (i + 1))) (y := (Γ.1 (i + 2))) (z := (Γ.1 (i + 3))) hI1 hm1
  refine y_cp (a := 0) (b := 0) c369_1551 (by decide) rfl rfl rfl rfl (by omega) (by omega) rfl rfl (wn192 hG (hG.1 (i + 1)) (hG.1 (i + 2)) (hG.1 (i + 3)) hA e1) ?_
  intro i1
  refine r_pop c369_1554 rfl rfl ?_
  refine r_aload_n c369_1555 rfl rfl ?_
  refine y_arg c369_1556 c369_1557 c369_1559 c369_1560 c369_1561 rfl rfl rfl hi hL (by decide) ?_
  refine y_arg c369_1562 c369_1563 c369_1565 c369_1566 c369_1567 rfl rfl rfl hi hL (by decide) ?_
  refine y_arg c369_1568 c369_1569 c369_1571 c369_1572 c369_1573 rfl rfl rfl hi hL (by decide) ?_
  obtain ⟨v2, g2, e2, J2⟩ := t_r_nearest (x := (Γ.1 (i + 1))) (y := (Γ.1 (i + 2))) (z := (Γ.1 (i + 3))) hA J
  refine y_cv (a := 0) (b := 0) c369_1574 (by decide) rfl rfl rfl rfl (by omega) (by omega) rfl rfl (wn295 hG (hG.1 (i + 1)) (hG.1 (i + 2)) (hG.1 (i + 3)) hA e2) ?_
  intro i2 A2
  refine r_pop c369_1577 rfl rfl ?_
  refine r_goto c369_1578 ?_
  refine q_R.wk (ks := [5, 0, 1, 2, 3, 4]) (lo' := y_lo i) rfl ?_
  exact k _ _ _ A2 ⟨⟨_, J2⟩, (j_T_J J2).2⟩ (by omega) (by omega)
theorem y_k37 {Γ : q_Γ} (hG : q_GG Γ) {i : Nat} (hi : i + 6 ≤ Γ.2.2.2.1) (hL : Γ.2.2.2.1 ≤ 3072) {h : q_F} (hA : q_Al 0 155 h) (J : t_J h) (E : h 1 1 = h 139 14) {cl sl : Nat} (hc : cl ≤ 3900) (hs : sl ≤ 39000) (k : y_K Γ i cl sl) : q_R Γ q_K 155 369 y_P (1581, y_lo i, [], q_hp q_K 155 h, [], cl, sl) := by
  obtain ⟨S, J⟩ := J
  refine r_aload_n c369_1581 rfl rfl ?_
  refine y_arg c369_1582 c369_1583 c369_1585 c369_1586 c369_1587 rfl rfl rfl hi hL (by decide) ?_
  refine r_aload_n c369_1588 rfl rfl ?_
  obtain ⟨v1, g1, e1, J1⟩ := t_L18 (v1 := (Γ.1 (i + 1))) hA J
  refine y_cs (a := 1) (b := 6) c369_1589 rfl rfl (by omega) (by omega) rfl rfl (wn18 hG (hG.1 (i + 1)) hA e1) ?_
  intro i1 A1
  refine r_istore c369_1592 (lo' := [(6, (0, v1)), (5, (0, (i : Int))), (0, (9, 0)), (1, (2, Int.ofNat 0)), (2, (2, Int.ofNat 139)), (3, (2, Int.ofNat 153)), (4, (2, Int.ofNat 154))]) rfl rfl rfl ?_
  refine r_aload_n c369_1594 rfl rfl ?_
  refine y_arg c369_1595 c369_1596 c369_1598 c369_1599 c369_1600 rfl rfl rfl hi hL (by decide) ?_
  obtain ⟨v2, g2, e2, J2⟩ := t_r_nord (i := (Γ.1 (i + 1))) A1 J1
  refine y_cv (a := 0) (b := 0) c369_1601 (by decide) rfl rfl rfl rfl (by omega) (by omega) rfl rfl (wn297 hG (hG.1 (i + 1)) A1 e2) ?_
  intro i2 A2
  refine r_istore c369_1604 (lo' := [(7, (0, v2)), (6, (0, v1)), (5, (0, (i : Int))), (0, (9, 0)), (1, (2, Int.ofNat 0)), (2, (2, Int.ofNat 139)), (3, (2, Int.ofNat 153)), (4, (2, Int.ofNat 154))]) rfl rfl rfl ?_
  refine r_goto c369_1606 ?_
  refine q_R.wk (ks := [5, 0, 1, 2, 3, 4]) (lo' := y_lo i) rfl ?_
  exact k _ _ _ A2 ⟨⟨_, J2⟩, (j_T_J J2).2⟩ (by omega) (by omega)
theorem y_k38 {Γ : q_Γ} (hG : q_GG Γ) {i : Nat} (hi : i + 6 ≤ Γ.2.2.2.1) (hL : Γ.2.2.2.1 ≤ 3072) {h : q_F} (hA : q_Al 0 155 h) (J : t_J h) (E : h 1 1 = h 139 14) {cl sl : Nat} (hc : cl ≤ 3900) (hs : sl ≤ 39000) (k : y_K Γ i cl sl) : q_R Γ q_K 155 369 y_P (1609, y_lo i, [], q_hp q_K 155 h, [], cl, sl) := by
  obtain ⟨S, J⟩ := J
  refine r_aload_n c369_1609 rfl rfl ?_
  refine y_arg c369_1610 c369_1611 c369_1613 c369_1614 c369_1615 rfl rfl rfl hi hL (by decide) ?_
  refine r_aload_n c369_1616 rfl rfl ?_
  obtain ⟨v1, g1, e1, J1⟩ := t_L13 (v1 := (Γ.1 (i + 1))) hA J
  refine y_cs (a := 1) (b := 6) c369_1617 rfl rfl (by omega) (by omega) rfl rfl (wn13 hG (hG.1 (i + 1)) hA e1) ?_
  intro i1 A1
  refine r_istore c369_1620 (lo' := [(6, (0, v1)), (5, (0, (i : Int))), (0, (9, 0)), (1, (2, Int.ofNat 0)), (2, (2, Int.ofNat 139)), (3, (2, Int.ofNat 153)), (4, (2, Int.ofNat 154))]) rfl rfl rfl ?_
  refine r_aload_n c369_1622 rfl rfl ?_
  refine y_arg c369_1623 c369_1624 c369_1626 c369_1627 c369_1628 rfl rfl rfl hi hL (by decide) ?_
  obtain ⟨v2, g2, e2, J2⟩ := t_r_lasts (m := (Γ.1 (i + 1))) A1 J1
  refine y_cv (a := 0) (b := 0) c369_1629 (by decide) rfl rfl rfl rfl (by omega) (by omega) rfl rfl (wn276 hG (hG.1 (i + 1)) A1 e2) ?_
  intro i2 A2
  refine r_lstore c369_1632 (lo' := [(7, (1, v2)), (6, (0, v1)), (5, (0, (i : Int))), (0, (9, 0)), (1, (2, Int.ofNat 0)), (2, (2, Int.ofNat 139)), (3, (2, Int.ofNat 153)), (4, (2, Int.ofNat 154))]) rfl rfl rfl ?_
  refine r_goto c369_1634 ?_
  refine q_R.wk (ks := [5, 0, 1, 2, 3, 4]) (lo' := y_lo i) rfl ?_
  exact k _ _ _ A2 ⟨⟨_, J2⟩, (j_T_J J2).2⟩ (by omega) (by omega)
theorem y_k39 {Γ : q_Γ} (hG : q_GG Γ) {i : Nat} (hi : i + 6 ≤ Γ.2.2.2.1) (hL : Γ.2.2.2.1 ≤ 3072) {h : q_F} (hA : q_Al 0 155 h) (J : t_J h) (E : h 1 1 = h 139 14) {cl sl : Nat} (hc : cl ≤ 3900) (hs : sl ≤ 39000) (k : y_K Γ i cl sl) : q_R Γ q_K 155 369 y_P (1637, y_lo i, [], q_hp q_K 155 h, [], cl, sl) := by
  obtain ⟨S, J⟩ := J
  refine r_aload_n c369_1637 rfl rfl ?_
  refine y_arg c369_1638 c369_1639 c369_1641 c369_1642 c369_1643 rfl rfl rfl hi hL (by decide) ?_
  refine y_arg c369_1644 c369_1645 c369_1647 c369_1648 c369_1649 rfl rfl rfl hi hL (by decide) ?_
  refine r_aload_n c369_1650 rfl rfl ?_
  obtain ⟨v1, g1, e1, J1⟩ := t_L38 (v1 := (Γ.1 (i + 1))) (v2 := (Γ.1 (i + 2))) hA J
  refine y_cs (a := 3) (b := 18) c369_1651 rfl rfl (by omega) (by omega) rfl rfl (wn38 hG (hG.1 (i + 1)) (hG.1 (i + 2)) hA e1) ?_
  intro i1 A1
  refine r_istore c369_1654 (lo' := [(6, (0, v1)), (5, (0, (i : Int))), (0, (9, 0)), (1, (2, Int.ofNat 0)), (2, (2, Int.ofNat 139)), (3, (2, Int.ofNat 153)), (4, (2, Int.ofNat 154))]) rfl rfl rfl ?_
  refine r_aload_n c369_1656 rfl rfl ?_
  refine y_arg c369_1657 c369_1658 c369_1660 c369_1661 c369_1662 rfl rfl rfl hi hL (by decide) ?_
  refine y_arg c369_1663 c369_1664 c369_1666 c369_1667 c369_1668 rfl rfl rfl hi hL (by decide) ?_
  obtain ⟨v2, g2, e2, J2⟩ := t_r_where (a := (Γ.1 (i + 1))) (t := (Γ.1 (i + 2))) A1 J1
  refine y_cv (a := 0) (b := 0) c369_1669 (by decide) rfl rfl rfl rfl (by omega) (by omega) rfl rfl (wn362 hG (hG.1 (i + 1)) (hG.1 (i + 2)) A1 e2) ?_
  intro i2 A2
  refine r_istore c369_1672 (lo' := [(7, (0, v2)), (6, (0, v1)), (5, (0, (i : Int))), (0, (9, 0)), (1, (2, Int.ofNat 0)), (2, (2, Int.ofNat 139)), (3, (2, Int.ofNat 153)), (4, (2, Int.ofNat 154))]) rfl rfl rfl ?_
  refine r_goto c369_1674 ?_
  refine q_R.wk (ks := [5, 0, 1, 2, 3, 4]) (lo' := y_lo i) rfl ?_
  exact k _ _ _ A2 ⟨⟨_, J2⟩, (j_T_J J2).2⟩ (by omega) (by omega)
end -- [99ce.law]
section -- [99cf.law]
/-! Part 99cf: cases of the law. Printed by wip/tools/genlaw.py. -/
theorem y_k40 {Γ : q_Γ} (hG : q_GG Γ) {i : Nat} (hi : i + 6 ≤ Γ.2.2.2.1) (hL : Γ.2.2.2.1 ≤ 3072) {h : q_F} (hA : q_Al 0 155 h) (J : t_J h) (E : h 1 1 = h 139 14) {cl sl : Nat} (hc : cl ≤ 3900) (hs : sl ≤ 39000) (k : y_K Γ i cl sl) : q_R Γ q_K 155 369 y_P (1677, y_lo i, [], q_hp q_K 155 h, [], cl, sl) := by
  obtain ⟨S, J⟩ := J
  refine r_aload_n c369_1677 rfl rfl ?_
  refine y_arg c369_1678 c369_1679 c369_1681 c369_1682 c369_1683 rfl rfl rfl hi hL (by decide) ?_
  refine r_aload_n c369_1684 rfl rfl ?_
  obtain ⟨v1, g1, e1, J1⟩ := t_L35 (v1 := (Γ.1 (i + 1))) hA J
  refine y_cs (a := 1) (b := 6) c369_1685 rfl rfl (by omega) (by omega) rfl rfl (wn35 hG (hG.1 (i + 1)) hA e1) ?_
  intro i1 A1
  refine r_istore c369_1688 (lo' := [(6, (0, v1)), (5, (0, (i : Int))), (0, (9, 0)), (1, (2, Int.ofNat 0)), (2, (2, Int.ofNat 139)), (3, (2, Int.ofNat 153)), (4, (2, Int.ofNat 154))]) rfl rfl rfl ?_
  refine r_aload_n c369_1690 rfl rfl ?_
  refine y_arg c369_1691 c369_1692 c369_1694 c369_1695 c369_1696 rfl rfl rfl hi hL (by decide) ?_
  obtain ⟨v2, g2, e2, J2⟩ := t_r_trueB (a := (Γ.1 (i + 1))) A1 J1
  refine y_cv (a := 0) (b := 0) c369_1697 (by decide) rfl rfl rfl rfl (by omega) (by omega) rfl rfl (wn357 hG (hG.1 (i + 1)) A1 e2) ?_
  intro i2 A2
  refine r_istore c369_1700 (lo' := [(7, (0, v2)), (6, (0, v1)), (5, (0, (i : Int))), (0, (9, 0)), (1, (2, Int.ofNat 0)), (2, (2, Int.ofNat 139)), (3, (2, Int.ofNat 153)), (4, (2, Int.ofNat 154))]) rfl rfl rfl ?_
  refine r_goto c369_1702 ?_
  refine q_R.wk (ks := [5, 0, 1, 2, 3, 4]) (lo' := y_lo i) rfl ?_
  exact k _ _ _ A2 ⟨⟨_, J2⟩, (j_T_J J2).2⟩ (by omega) (by omega)
theorem y_k41 {Γ : q_Γ} (hG : q_GG Γ) {i : Nat} (hi : i + 6 ≤ Γ.2.2.2.1) (hL : Γ.2.2.2.1 ≤ 3072) {h : q_F} (hA : q_Al 0 155 h) (J : t_J h) (E : h 1 1 = h 139 14) {cl sl : Nat} (hc : cl ≤ 3900) (hs : sl ≤ 39000) (k : y_K Γ i cl sl) : q_R Γ q_K 155 369 y_P (1705, y_lo i, [], q_hp q_K 155 h, [], cl, sl) := by
  obtain ⟨S, J⟩ := J
  refine r_aload_n c369_1705 rfl rfl ?_
  refine y_arg c369_1706 c369_1707 c369_1709 c369_1710 c369_1711 rfl rfl rfl hi hL (by decide) ?_
  refine r_aload c369_1712 rfl rfl ?_
  obtain ⟨v1, g1, e1, J1⟩ := t_L14 (v1 := (Γ.1 (i + 1))) hA J
  refine y_cs (a := 1) (b := 6) c369_1714 rfl rfl (by omega) (by omega) rfl rfl (wn14 hG (hG.1 (i + 1)) hA e1) ?_
  intro i1 A1
  refine r_istore c369_1717 (lo' := [(6, (0, v1)), (5, (0, (i : Int))), (0, (9, 0)), (1, (2, Int.ofNat 0)), (2, (2, Int.ofNat 139)), (3, (2, Int.ofNat 153)), (4, (2, Int.ofNat 154))]) rfl rfl rfl ?_
  refine r_aload_n c369_1719 rfl rfl ?_
  refine y_arg c369_1720 c369_1721 c369_1723 c369_1724 c369_1725 rfl rfl rfl hi hL (by decide) ?_
  obtain ⟨v2, g2, e2, J2⟩ := t_r_line (m := (Γ.1 (i + 1))) A1 J1
  refine y_cv (a := 0) (b := 0) c369_1726 (by decide) rfl rfl rfl rfl (by omega) (by omega) rfl rfl (wn281 hG (hG.1 (i + 1)) A1 e2) ?_
  intro i2 A2
  refine r_dstore c369_1729 (lo' := [(7, (5, v2)), (6, (0, v1)), (5, (0, (i : Int))), (0, (9, 0)), (1, (2, Int.ofNat 0)), (2, (2, Int.ofNat 139)), (3, (2, Int.ofNat 153)), (4, (2, Int.ofNat 154))]) rfl rfl rfl ?_
  refine r_goto c369_1731 ?_
  refine q_R.wk (ks := [5, 0, 1, 2, 3, 4]) (lo' := y_lo i) rfl ?_
  exact k _ _ _ A2 ⟨⟨_, J2⟩, (j_T_J J2).2⟩ (by omega) (by omega)
theorem y_k42 {Γ : q_Γ} (hG : q_GG Γ) {i : Nat} (hi : i + 6 ≤ Γ.2.2.2.1) (hL : Γ.2.2.2.1 ≤ 3072) {h : q_F} (hA : q_Al 0 155 h) (J : t_J h) (E : h 1 1 = h 139 14) {cl sl : Nat} (hc : cl ≤ 3900) (hs : sl ≤ 39000) (k : y_K Γ i cl sl) : q_R Γ q_K 155 369 y_P (1734, y_lo i, [], q_hp q_K 155 h, [], cl, sl) := by
  obtain ⟨S, J⟩ := J
  refine r_aload_n c369_1734 rfl rfl ?_
  obtain ⟨v1, g1, e1, J1⟩ := t_c_qlen  hA J
  refine y_cv (a := 0) (b := 0) c369_1735 (by decide) rfl rfl rfl rfl (by omega) (by omega) rfl rfl (wn199 hG  hA e1) ?_
  intro i1 A1
  refine r_dstore c369_1738 (lo' := [(6, (5, v1)), (5, (0, (i : Int))), (0, (9, 0)), (1, (2, Int.ofNat 0)), (2, (2, Int.ofNat 139)), (3, (2, Int.ofNat 153)), (4, (2, Int.ofNat 154))]) rfl rfl rfl ?_
  refine r_aload_n c369_1740 rfl rfl ?_
  obtain ⟨v2, g2, e2, J2⟩ := t_r_qlen  A1 J1
  refine y_cv (a := 0) (b := 0) c369_1741 (by decide) rfl rfl rfl rfl (by omega) (by omega) rfl rfl (wn310 hG  A1 e2) ?_
  intro i2 A2
  refine r_dstore c369_1744 (lo' := [(8, (5, v2)), (6, (5, v1)), (5, (0, (i : Int))), (0, (9, 0)), (1, (2, Int.ofNat 0)), (2, (2, Int.ofNat 139)), (3, (2, Int.ofNat 153)), (4, (2, Int.ofNat 154))]) rfl rfl rfl ?_
  refine r_goto c369_1746 ?_
  refine q_R.wk (ks := [5, 0, 1, 2, 3, 4]) (lo' := y_lo i) rfl ?_
  exact k _ _ _ A2 ⟨⟨_, J2⟩, (j_T_J J2).2⟩ (by omega) (by omega)
theorem y_k43 {Γ : q_Γ} (hG : q_GG Γ) {i : Nat} (hi : i + 6 ≤ Γ.2.2.2.1) (hL : Γ.2.2.2.1 ≤ 3072) {h : q_F} (hA : q_Al 0 155 h) (J : t_J h) (E : h 1 1 = h 139 14) {cl sl : Nat} (hc : cl ≤ 3900) (hs : sl ≤ 39000) (k : y_K Γ i cl sl) : q_R Γ q_K 155 369 y_P (1749, y_lo i, [], q_hp q_K 155 h, [], cl, sl) := by
  obtain ⟨S, J⟩ := J
  refine r_aload_n c369_1749 rfl rfl ?_
  refine y_arg c369_1750 c369_1751 c369_1753 c369_1754 c369_1755 rfl rfl rfl hi hL (by decide) ?_
  refine r_aload c369_1756 rfl rfl ?_
  obtain ⟨v1, g1, e1, J1⟩ := t_L16 (v1 := (Γ.1 (i + 1))) hA J
  refine y_cs (a := 1) (b := 6) c369_1758 rfl rfl (by omega) (by omega) rfl rfl (wn16 hG (hG.1 (i + 1)) hA e1) ?_
  intro i1 A1
  refine r_istore c369_1761 (lo' := [(6, (0, v1)), (5, (0, (i : Int))), (0, (9, 0)), (1, (2, Int.ofNat 0)), (2, (2, Int.ofNat 139)), (3, (2, Int.ofNat 153)), (4, (2, Int.ofNat 154))]) rfl rfl rfl ?_
  refine r_aload_n c369_1763 rfl rfl ?_
  refine y_arg c369_1764 c369_1765 c369_1767 c369_1768 c369_1769 rfl rfl rfl hi hL (by decide) ?_
  obtain ⟨v2, g2, e2, J2⟩ := t_r_msp (m := (Γ.1 (i + 1))) A1 J1
  refine y_cv (a := 0) (b := 0) c369_1770 (by decide) rfl rfl rfl rfl (by omega) (by omega) rfl rfl (wn293 hG (hG.1 (i + 1)) A1 e2) ?_
  intro i2 A2
  refine r_dstore c369_1773 (lo' := [(7, (5, v2)), (6, (0, v1)), (5, (0, (i : Int))), (0, (9, 0)), (1, (2, Int.ofNat 0)), (2, (2, Int.ofNat 139)), (3, (2, Int.ofNat 153)), (4, (2, Int.ofNat 154))]) rfl rfl rfl ?_
  refine r_goto c369_1775 ?_
  refine q_R.wk (ks := [5, 0, 1, 2, 3, 4]) (lo' := y_lo i) rfl ?_
  exact k _ _ _ A2 ⟨⟨_, J2⟩, (j_T_J J2).2⟩ (by omega) (by omega)
theorem y_k44 {Γ : q_Γ} (hG : q_GG Γ) {i : Nat} (hi : i + 6 ≤ Γ.2.2.2.1) (hL : Γ.2.2.2.1 ≤ 3072) {h : q_F} (hA : q_Al 0 155 h) (J : t_J h) (E : h 1 1 = h 139 14) {cl sl : Nat} (hc : cl ≤ 3900) (hs : sl ≤ 39000) (k : y_K Γ i cl sl) : q_R Γ q_K 155 369 y_P (1778, y_lo i, [], q_hp q_K 155 h, [], cl, sl) := by
  obtain ⟨S, J⟩ := J
  refine r_aload_n c369_1778 rfl rfl ?_
  refine y_arg c369_1779 c369_1780 c369_1782 c369_1783 c369_1784 rfl rfl rfl hi hL (by decide) ?_
  refine r_aload_n c369_1785 rfl rfl ?_
  obtain ⟨v1, g1, e1, J1⟩ := t_L34 (v1 := (Γ.1 (i + 1))) hA J
  refine y_cs (a := 1) (b := 6) c369_1786 rfl rfl (by omega) (by omega) rfl rfl (wn34 hG (hG.1 (i + 1)) hA e1) ?_
  intro i1 A1
  refine r_istore c369_1789 (lo' := [(6, (0, v1)), (5, (0, (i : Int))), (0, (9, 0)), (1, (2, Int.ofNat 0)), (2, (2, Int.ofNat 139)), (3, (2, Int.ofNat 153)), (4, (2, Int.ofNat 154))]) rfl rfl rfl ?_
  refine r_aload_n c369_1791 rfl rfl ?_
  refine y_arg c369_1792 c369_1793 c369_1795 c369_1796 c369_1797 rfl rfl rfl hi hL (by decide) ?_
  obtain ⟨v2, g2, e2, J2⟩ := t_r_travel (a := (Γ.1 (i + 1))) A1 J1
  refine y_cv (a := 0) (b := 0) c369_1798 (by decide) rfl rfl rfl rfl (by omega) (by omega) rfl rfl (wn356 hG (hG.1 (i + 1)) A1 e2) ?_
  intro i2 A2
  refine r_istore c369_1801 (lo' := [(7, (0, v2)), (6, (0, v1)), (5, (0, (i : Int))), (0, (9, 0)), (1, (2, Int.ofNat 0)), (2, (2, Int.ofNat 139)), (3, (2, Int.ofNat 153)), (4, (2, Int.ofNat 154))]) rfl rfl rfl ?_
  refine r_goto c369_1803 ?_
  refine q_R.wk (ks := [5, 0, 1, 2, 3, 4]) (lo' := y_lo i) rfl ?_
  exact k _ _ _ A2 ⟨⟨_, J2⟩, (j_T_J J2).2⟩ (by omega) (by omega)
theorem y_k45 {Γ : q_Γ} (hG : q_GG Γ) {i : Nat} (hi : i + 6 ≤ Γ.2.2.2.1) (hL : Γ.2.2.2.1 ≤ 3072) {h : q_F} (hA : q_Al 0 155 h) (J : t_J h) (E : h 1 1 = h 139 14) {cl sl : Nat} (hc : cl ≤ 3900) (hs : sl ≤ 39000) (k : y_K Γ i cl sl) : q_R Γ q_K 155 369 y_P (1806, y_lo i, [], q_hp q_K 155 h, [], cl, sl) := by
  obtain ⟨S, J⟩ := J
  refine r_aload_n c369_1806 rfl rfl ?_
  refine y_arg c369_1807 c369_1808 c369_1810 c369_1811 c369_1812 rfl rfl rfl hi hL (by decide) ?_
  refine r_aload_n c369_1813 rfl rfl ?_
  obtain ⟨v1, g1, e1, J1⟩ := t_L36 (v1 := (Γ.1 (i + 1))) hA J
  refine y_cs (a := 1) (b := 6) c369_1814 rfl rfl (by omega) (by omega) rfl rfl (wn36 hG (hG.1 (i + 1)) hA e1) ?_
  intro i1 A1
  refine r_istore c369_1817 (lo' := [(6, (0, v1)), (5, (0, (i : Int))), (0, (9, 0)), (1, (2, Int.ofNat 0)), (2, (2, Int.ofNat 139)), (3, (2, Int.ofNat 153)), (4, (2, Int.ofNat 154))]) rfl rfl rfl ?_
  refine r_aload_n c369_1819 rfl rfl ?_
  refine y_arg c369_1820 c369_1821 c369_1823 c369_1824 c369_1825 rfl rfl rfl hi hL (by decide) ?_
  obtain ⟨v2, g2, e2, J2⟩ := t_r_turns (a := (Γ.1 (i + 1))) A1 J1
  refine y_cv (a := 0) (b := 0) c369_1826 (by decide) rfl rfl rfl rfl (by omega) (by omega) rfl rfl (wn359 hG (hG.1 (i + 1)) A1 e2) ?_
  intro i2 A2
  refine r_istore c369_1829 (lo' := [(7, (0, v2)), (6, (0, v1)), (5, (0, (i : Int))), (0, (9, 0)), (1, (2, Int.ofNat 0)), (2, (2, Int.ofNat 139)), (3, (2, Int.ofNat 153)), (4, (2, Int.ofNat 154))]) rfl rfl rfl ?_
  refine r_goto c369_1831 ?_
  refine q_R.wk (ks := [5, 0, 1, 2, 3, 4]) (lo' := y_lo i) rfl ?_
  exact k _ _ _ A2 ⟨⟨_, J2⟩, (j_T_J J2).2⟩ (by omega) (by omega)
theorem y_k46 {Γ : q_Γ} (hG : q_GG Γ) {i : Nat} (hi : i + 6 ≤ Γ.2.2.2.1) (hL : Γ.2.2.2.1 ≤ 3072) {h : q_F} (hA : q_Al 0 155 h) (J : t_J h) (E : h 1 1 = h 139 14) {cl sl : Nat} (hc : cl ≤ 3900) (hs : sl ≤ 39000) (k : y_K Γ i cl sl) : q_R Γ q_K 155 369 y_P (1834, y_lo i, [], q_hp q_K 155 h, [], cl, sl) := by
  obtain ⟨S, J⟩ := J
  refine r_aload_n c369_1834 rfl rfl ?_
  obtain ⟨v1, g1, e1, J1⟩ := t_c_queueTime  hA J
  refine y_cv (a := 0) (b := 0) c369_1835 (by decide) rfl rfl rfl rfl (by omega) (by omega) rfl rfl (wn200 hG  hA e1) ?_
  intro i1 A1
  refine r_pop2 c369_1838 rfl rfl ?_
  refine r_aload_n c369_1839 rfl rfl ?_
  obtain ⟨v2, g2, e2, J2⟩ := t_r_queueTime  A1 J1
  refine y_cv (a := 0) (b := 0) c369_1840 (by decide) rfl rfl rfl rfl (by omega) (by omega) rfl rfl (wn311 hG  A1 e2) ?_
  intro i2 A2
  refine r_pop2 c369_1843 rfl rfl ?_
  refine r_goto c369_1844 ?_
  refine q_R.wk (ks := [5, 0, 1, 2, 3, 4]) (lo' := y_lo i) rfl ?_
  exact k _ _ _ A2 ⟨⟨_, J2⟩, (j_T_J J2).2⟩ (by omega) (by omega)
theorem y_k47 {Γ : q_Γ} (hG : q_GG Γ) {i : Nat} (hi : i + 6 ≤ Γ.2.2.2.1) (hL : Γ.2.2.2.1 ≤ 3072) {h : q_F} (hA : q_Al 0 155 h) (J : t_J h) (E : h 1 1 = h 139 14) {cl sl : Nat} (hc : cl ≤ 3900) (hs : sl ≤ 39000) (k : y_K Γ i cl sl) : q_R Γ q_K 155 369 y_P (1847, y_lo i, [], q_hp q_K 155 h, [], cl, sl) := by
  obtain ⟨S, J⟩ := J
  refine r_aload_n c369_1847 rfl rfl ?_
  refine y_arg c369_1848 c369_1849 c369_1851 c369_1852 c369_1853 rfl rfl rfl hi hL (by decide) ?_
  refine y_arg c369_1854 c369_1855 c369_1857 c369_1858 c369_1859 rfl rfl rfl hi hL (by decide) ?_
  refine y_arg c369_1860 c369_1861 c369_1863 c369_1864 c369_1865 rfl rfl rfl hi hL (by decide) ?_
  refine r_aload_n c369_1866 rfl rfl ?_
  obtain ⟨v1, g1, e1, J1⟩ := t_L31 (v1 := (Γ.1 (i + 1))) (v2 := (Γ.1 (i + 2))) (v3 := (Γ.1 (i + 3))) hA J
  refine y_cs (a := 2) (b := 12) c369_1867 rfl rfl (by omega) (by omega) rfl rfl (wn31 hG (hG.1 (i + 1)) (hG.1 (i + 2)) (hG.1 (i + 3)) hA e1) ?_
  intro i1 A1
  refine r_istore c369_1870 (lo' := [(6, (0, v1)), (5, (0, (i : Int))), (0, (9, 0)), (1, (2, Int.ofNat 0)), (2, (2, Int.ofNat 139)), (3, (2, Int.ofNat 153)), (4, (2, Int.ofNat 154))]) rfl rfl rfl ?_
  refine r_aload_n c369_1872 rfl rfl ?_
  refine y_arg c369_1873 c369_1874 c369_1876 c369_1877 c369_1878 rfl rfl rfl hi hL (by decide) ?_
  refine y_arg c369_1879 c369_1880 c369_1882 c369_1883 c369_1884 rfl rfl rfl hi hL (by decide) ?_
  refine y_arg c369_1885 c369_1886 c369_1888 c369_1889 c369_1890 rfl rfl rfl hi hL (by decide) ?_
  obtain ⟨v2, g2, e2, J2⟩ := t_r_stTime (x := (Γ.1 (i + 1))) (y := (Γ.1 (i + 2))) (z := (Γ.1 (i + 3))) A1 J1
  refine y_cv (a := 0) (b := 0) c369_1891 (by decide) rfl rfl rfl rfl (by omega) (by omega) rfl rfl (wn345 hG (hG.1 (i + 1)) (hG.1 (i + 2)) (hG.1 (i + 3)) A1 e2) ?_
  intro i2 A2
  refine r_lstore c369_1894 (lo' := [(7, (1, v2)), (6, (0, v1)), (5, (0, (i : Int))), (0, (9, 0)), (1, (2, Int.ofNat 0)), (2, (2, Int.ofNat 139)), (3, (2, Int.ofNat 153)), (4, (2, Int.ofNat 154))]) rfl rfl rfl ?_
  refine r_goto c369_1896 ?_
  refine q_R.wk (ks := [5, 0, 1, 2, 3, 4]) (lo' := y_lo i) rfl ?_
  exact k _ _ _ A2 ⟨⟨_, J2⟩, (j_T_J J2).2⟩ (by omega) (by omega)
end -- [99cf.law]
section -- [99cg.law]
/-! Part 99cg: cases of the law. Printed by wip/tools/genlaw.py. -/
theorem y_k48 {Γ : q_Γ} (hG : q_GG Γ) {i : Nat} (hi : i + 6 ≤ Γ.2.2.2.1) (hL : Γ.2.2.2.1 ≤ 3072) {h : q_F} (hA : q_Al 0 155 h) (J : t_J h) (E : h 1 1 = h 139 14) {cl sl : Nat} (hc : cl ≤ 3900) (hs : sl ≤ 39000) (k : y_K Γ i cl sl) : q_R Γ q_K 155 369 y_P (1899, y_lo i, [], q_hp q_K 155 h, [], cl, sl) := by
  obtain ⟨S, J⟩ := J
  refine r_aload_n c369_1899 rfl rfl ?_
  obtain ⟨v1, g1, e1, J1⟩ := t_c_wLose  hA J
  refine y_cv (a := 0) (b := 0) c369_1900 (by decide) rfl rfl rfl rfl (by omega) (by omega) rfl rfl (wn233 hG  hA e1) ?_
  intro i1 A1
  refine r_pop c369_1903 rfl rfl ?_
  refine r_aload_n c369_1904 rfl rfl ?_
  obtain ⟨v2, g2, e2, J2⟩ := t_r_wLose  A1 J1
  refine y_cv (a := 0) (b := 0) c369_1905 (by decide) rfl rfl rfl rfl (by omega) (by omega) rfl rfl (wn365 hG  A1 e2) ?_
  intro i2 A2
  refine r_pop c369_1908 rfl rfl ?_
  refine r_goto c369_1909 ?_
  refine q_R.wk (ks := [5, 0, 1, 2, 3, 4]) (lo' := y_lo i) rfl ?_
  exact k _ _ _ A2 ⟨⟨_, J2⟩, (j_T_J J2).2⟩ (by omega) (by omega)
theorem y_k49 {Γ : q_Γ} (hG : q_GG Γ) {i : Nat} (hi : i + 6 ≤ Γ.2.2.2.1) (hL : Γ.2.2.2.1 ≤ 3072) {h : q_F} (hA : q_Al 0 155 h) (J : t_J h) (E : h 1 1 = h 139 14) {cl sl : Nat} (hc : cl ≤ 3900) (hs : sl ≤ 39000) (k : y_K Γ i cl sl) : q_R Γ q_K 155 369 y_P (1912, y_lo i, [], q_hp q_K 155 h, [], cl, sl) := by
  obtain ⟨S, J⟩ := J
  refine r_aload_n c369_1912 rfl rfl ?_
  refine y_arg c369_1913 c369_1914 c369_1916 c369_1917 c369_1918 rfl rfl rfl hi hL (by decide) ?_
  refine r_aload_n c369_1919 rfl rfl ?_
  obtain ⟨v1, g1, e1, J1⟩ := t_L39 (v1 := (Γ.1 (i + 1))) hA J
  refine y_cs (a := 2) (b := 12) c369_1920 rfl rfl (by omega) (by omega) rfl rfl (wn39 hG (hG.1 (i + 1)) hA e1) ?_
  intro i1 A1
  refine r_istore c369_1923 (lo' := [(6, (0, v1)), (5, (0, (i : Int))), (0, (9, 0)), (1, (2, Int.ofNat 0)), (2, (2, Int.ofNat 139)), (3, (2, Int.ofNat 153)), (4, (2, Int.ofNat 154))]) rfl rfl rfl ?_
  refine r_aload_n c369_1925 rfl rfl ?_
  refine y_arg c369_1926 c369_1927 c369_1929 c369_1930 c369_1931 rfl rfl rfl hi hL (by decide) ?_
  obtain ⟨v2, g2, e2, J2⟩ := t_r_wErr (a := (Γ.1 (i + 1))) A1 J1
  refine y_cv (a := 0) (b := 0) c369_1932 (by decide) rfl rfl rfl rfl (by omega) (by omega) rfl rfl (wn363 hG (hG.1 (i + 1)) A1 e2) ?_
  intro i2 A2
  refine r_istore c369_1935 (lo' := [(7, (0, v2)), (6, (0, v1)), (5, (0, (i : Int))), (0, (9, 0)), (1, (2, Int.ofNat 0)), (2, (2, Int.ofNat 139)), (3, (2, Int.ofNat 153)), (4, (2, Int.ofNat 154))]) rfl rfl rfl ?_
  refine r_goto c369_1937 ?_
  refine q_R.wk (ks := [5, 0, 1, 2, 3, 4]) (lo' := y_lo i) rfl ?_
  exact k _ _ _ A2 ⟨⟨_, J2⟩, (j_T_J J2).2⟩ (by omega) (by omega)
theorem y_k50 {Γ : q_Γ} (hG : q_GG Γ) {i : Nat} (hi : i + 6 ≤ Γ.2.2.2.1) (hL : Γ.2.2.2.1 ≤ 3072) {h : q_F} (hA : q_Al 0 155 h) (J : t_J h) (E : h 1 1 = h 139 14) {cl sl : Nat} (hc : cl ≤ 3900) (hs : sl ≤ 39000) (k : y_K Γ i cl sl) : q_R Γ q_K 155 369 y_P (1940, y_lo i, [], q_hp q_K 155 h, [], cl, sl) := by
  obtain ⟨S, J⟩ := J
  refine r_aload_n c369_1940 rfl rfl ?_
  refine y_arg c369_1941 c369_1942 c369_1944 c369_1945 c369_1946 rfl rfl rfl hi hL (by decide) ?_
  refine r_aload_n c369_1947 rfl rfl ?_
  obtain ⟨v1, g1, e1, J1⟩ := t_L40 (v1 := (Γ.1 (i + 1))) hA J
  refine y_cs (a := 1) (b := 6) c369_1948 rfl rfl (by omega) (by omega) rfl rfl (wn40 hG (hG.1 (i + 1)) hA e1) ?_
  intro i1 A1
  refine r_istore c369_1951 (lo' := [(6, (0, v1)), (5, (0, (i : Int))), (0, (9, 0)), (1, (2, Int.ofNat 0)), (2, (2, Int.ofNat 139)), (3, (2, Int.ofNat 153)), (4, (2, Int.ofNat 154))]) rfl rfl rfl ?_
  refine r_aload_n c369_1953 rfl rfl ?_
  refine y_arg c369_1954 c369_1955 c369_1957 c369_1958 c369_1959 rfl rfl rfl hi hL (by decide) ?_
  obtain ⟨v2, g2, e2, J2⟩ := t_r_wHome (a := (Γ.1 (i + 1))) A1 J1
  refine y_cv (a := 0) (b := 0) c369_1960 (by decide) rfl rfl rfl rfl (by omega) (by omega) rfl rfl (wn364 hG (hG.1 (i + 1)) A1 e2) ?_
  intro i2 A2
  refine r_istore c369_1963 (lo' := [(7, (0, v2)), (6, (0, v1)), (5, (0, (i : Int))), (0, (9, 0)), (1, (2, Int.ofNat 0)), (2, (2, Int.ofNat 139)), (3, (2, Int.ofNat 153)), (4, (2, Int.ofNat 154))]) rfl rfl rfl ?_
  refine r_goto c369_1965 ?_
  refine q_R.wk (ks := [5, 0, 1, 2, 3, 4]) (lo' := y_lo i) rfl ?_
  exact k _ _ _ A2 ⟨⟨_, J2⟩, (j_T_J J2).2⟩ (by omega) (by omega)
theorem y_k51 {Γ : q_Γ} (hG : q_GG Γ) {i : Nat} (hi : i + 6 ≤ Γ.2.2.2.1) (hL : Γ.2.2.2.1 ≤ 3072) {h : q_F} (hA : q_Al 0 155 h) (J : t_J h) (E : h 1 1 = h 139 14) {cl sl : Nat} (hc : cl ≤ 3900) (hs : sl ≤ 39000) (k : y_K Γ i cl sl) : q_R Γ q_K 155 369 y_P (1968, y_lo i, [], q_hp q_K 155 h, [], cl, sl) := by
  obtain ⟨S, J⟩ := J
  refine r_aload_n c369_1968 rfl rfl ?_
  obtain ⟨v1, g1, e1, J1⟩ := t_c_bestF  hA J
  refine y_cv (a := 0) (b := 0) c369_1969 (by decide) rfl rfl rfl rfl (by omega) (by omega) rfl rfl (wn158 hG  hA e1) ?_
  intro i1 A1
  refine r_pop c369_1972 rfl rfl ?_
  refine r_aload_n c369_1973 rfl rfl ?_
  obtain ⟨v2, g2, e2, J2⟩ := t_r_bestF  A1 J1
  refine y_cv (a := 0) (b := 0) c369_1974 (by decide) rfl rfl rfl rfl (by omega) (by omega) rfl rfl (wn242 hG  A1 e2) ?_
  intro i2 A2
  refine r_pop c369_1977 rfl rfl ?_
  refine r_goto c369_1978 ?_
  refine q_R.wk (ks := [5, 0, 1, 2, 3, 4]) (lo' := y_lo i) rfl ?_
  exact k _ _ _ A2 ⟨⟨_, J2⟩, (j_T_J J2).2⟩ (by omega) (by omega)
theorem y_k52 {Γ : q_Γ} (hG : q_GG Γ) {i : Nat} (hi : i + 6 ≤ Γ.2.2.2.1) (hL : Γ.2.2.2.1 ≤ 3072) {h : q_F} (hA : q_Al 0 155 h) (J : t_J h) (E : h 1 1 = h 139 14) {cl sl : Nat} (hc : cl ≤ 3900) (hs : sl ≤ 39000) (k : y_K Γ i cl sl) : q_R Γ q_K 155 369 y_P (1981, y_lo i, [], q_hp q_K 155 h, [], cl, sl) := by
  obtain ⟨S, J⟩ := J
  refine r_aload_n c369_1981 rfl rfl ?_
  refine r_aload_n c369_1982 rfl rfl ?_
  obtain ⟨v1, g1, e1, J1⟩ := t_L2  hA J
  refine y_cs (a := 1) (b := 6) c369_1983 rfl rfl (by omega) (by omega) rfl rfl (wn2 hG  hA e1) ?_
  intro i1 A1
  refine r_istore c369_1986 (lo' := [(6, (0, v1)), (5, (0, (i : Int))), (0, (9, 0)), (1, (2, Int.ofNat 0)), (2, (2, Int.ofNat 139)), (3, (2, Int.ofNat 153)), (4, (2, Int.ofNat 154))]) rfl rfl rfl ?_
  refine r_aload_n c369_1988 rfl rfl ?_
  obtain ⟨v2, g2, e2, J2⟩ := t_r_bestS  A1 J1
  refine y_cv (a := 0) (b := 0) c369_1989 (by decide) rfl rfl rfl rfl (by omega) (by omega) rfl rfl (wn243 hG  A1 e2) ?_
  intro i2 A2
  refine r_istore c369_1992 (lo' := [(7, (0, v2)), (6, (0, v1)), (5, (0, (i : Int))), (0, (9, 0)), (1, (2, Int.ofNat 0)), (2, (2, Int.ofNat 139)), (3, (2, Int.ofNat 153)), (4, (2, Int.ofNat 154))]) rfl rfl rfl ?_
  refine r_goto c369_1994 ?_
  refine q_R.wk (ks := [5, 0, 1, 2, 3, 4]) (lo' := y_lo i) rfl ?_
  exact k _ _ _ A2 ⟨⟨_, J2⟩, (j_T_J J2).2⟩ (by omega) (by omega)
theorem y_k53 {Γ : q_Γ} (hG : q_GG Γ) {i : Nat} (hi : i + 6 ≤ Γ.2.2.2.1) (hL : Γ.2.2.2.1 ≤ 3072) {h : q_F} (hA : q_Al 0 155 h) (J : t_J h) (E : h 1 1 = h 139 14) {cl sl : Nat} (hc : cl ≤ 3900) (hs : sl ≤ 39000) (k : y_K Γ i cl sl) : q_R Γ q_K 155 369 y_P (1997, y_lo i, [], q_hp q_K 155 h, [], cl, sl) := by
  obtain ⟨S, J⟩ := J
  refine r_aload_n c369_1997 rfl rfl ?_
  refine y_arg c369_1998 c369_1999 c369_2001 c369_2002 c369_2003 rfl rfl rfl hi hL (by decide) ?_
  refine y_arg c369_2004 c369_2005 c369_2007 c369_2008 c369_2009 rfl rfl rfl hi hL (by decide) ?_
  refine y_nz c369_2010 c369_2013 c369_2014 c369_2017 rfl (hG.1 (i + 2)) ?_
  refine r_aload_n c369_2018 rfl rfl ?_
  obtain ⟨v1, g1, e1, J1⟩ := t_L27 (v1 := (Γ.1 (i + 1))) (v2 := (y_nzv (Γ.1 (i + 2)))) hA J
  refine y_cs (a := 1) (b := 6) c369_2019 rfl rfl (by omega) (by omega) rfl rfl (wn27 hG (hG.1 (i + 1)) (y_nz01 (Γ.1 (i + 2))) hA e1) ?_
  intro i1 A1
  refine r_istore c369_2022 (lo' := [(6, (0, v1)), (5, (0, (i : Int))), (0, (9, 0)), (1, (2, Int.ofNat 0)), (2, (2, Int.ofNat 139)), (3, (2, Int.ofNat 153)), (4, (2, Int.ofNat 154))]) rfl rfl rfl ?_
  refine r_aload_n c369_2024 rfl rfl ?_
  refine y_arg c369_2025 c369_2026 c369_2028 c369_2029 c369_2030 rfl rfl rfl hi hL (by decide) ?_
  refine y_arg c369_2031 c369_2032 c369_2034 c369_2035 c369_2036 rfl rfl rfl hi hL (by decide) ?_
  refine y_nz c369_2037 c369_2040 c369_2041 c369_2044 rfl (hG.1 (i + 2)) ?_
  obtain ⟨v2, g2, e2, J2⟩ := t_r_slack (a := (Γ.1 (i + 1))) (v := (y_nzv (Γ.1 (i + 2)))) A1 J1
  refine y_cv (a := 0) (b := 0) c369_2045 (by decide) rfl rfl rfl rfl (by omega) (by omega) rfl rfl (wn334 hG (hG.1 (i + 1)) (y_nz01 (Γ.1 (i + 2))) A1 e2) ?_
  intro i2 A2
  refine r_istore c369_2048 (lo' := [(7, (0, v2)), (6, (0, v1)), (5, (0, (i : Int))), (0, (9, 0)), (1, (2, Int.ofNat 0)), (2, (2, Int.ofNat 139)), (3, (2, Int.ofNat 153)), (4, (2, Int.ofNat 154))]) rfl rfl rfl ?_
  refine r_goto c369_2050 ?_
  refine q_R.wk (ks := [5, 0, 1, 2, 3, 4]) (lo' := y_lo i) rfl ?_
  exact k _ _ _ A2 ⟨⟨_, J2⟩, (j_T_J J2).2⟩ (by omega) (by omega)
theorem y_k54 {Γ : q_Γ} (hG : q_GG Γ) {i : Nat} (hi : i + 6 ≤ Γ.2.2.2.1) (hL : Γ.2.2.2.1 ≤ 3072) {h : q_F} (hA : q_Al 0 155 h) (J : t_J h) (E : h 1 1 = h 139 14) {cl sl : Nat} (hc : cl ≤ 3900) (hs : sl ≤ 39000) (k : y_K Γ i cl sl) : q_R Γ q_K 155 369 y_P (2053, y_lo i, [], q_hp q_K 155 h, [], cl, sl) := by
  obtain ⟨S, J⟩ := J
  refine r_aload_n c369_2053 rfl rfl ?_
  refine y_arg c369_2054 c369_2055 c369_2057 c369_2058 c369_2059 rfl rfl rfl hi hL (by decide) ?_
  refine y_arg c369_2060 c369_2061 c369_2063 c369_2064 c369_2065 rfl rfl rfl hi hL (by decide) ?_
  refine r_aload_n c369_2066 rfl rfl ?_
  obtain ⟨v1, g1, e1, J1⟩ := t_L0 (v1 := (Γ.1 (i + 1))) (v2 := (Γ.1 (i + 2))) hA J
  refine y_cs (a := 2) (b := 12) c369_2067 rfl rfl (by omega) (by omega) rfl rfl (wn0 hG (hG.1 (i + 1)) (hG.1 (i + 2)) hA e1) ?_
  intro i1 A1
  refine r_istore c369_2070 (lo' := [(6, (0, v1)), (5, (0, (i : Int))), (0, (9, 0)), (1, (2, Int.ofNat 0)), (2, (2, Int.ofNat 139)), (3, (2, Int.ofNat 153)), (4, (2, Int.ofNat 154))]) rfl rfl rfl ?_
  refine r_aload_n c369_2072 rfl rfl ?_
  refine y_arg c369_2073 c369_2074 c369_2076 c369_2077 c369_2078 rfl rfl rfl hi hL (by decide) ?_
  refine y_arg c369_2079 c369_2080 c369_2082 c369_2083 c369_2084 rfl rfl rfl hi hL (by decide) ?_
  obtain ⟨v2, g2, e2, J2⟩ := t_r_account (a := (Γ.1 (i + 1))) (v := (Γ.1 (i + 2))) A1 J1
  refine y_cv (a := 0) (b := 0) c369_2085 (by decide) rfl rfl rfl rfl (by omega) (by omega) rfl rfl (wn234 hG (hG.1 (i + 1)) (hG.1 (i + 2)) A1 e2) ?_
  intro i2 A2
  refine r_istore c369_2088 (lo' := [(7, (0, v2)), (6, (0, v1)), (5, (0, (i : Int))), (0, (9, 0)), (1, (2, Int.ofNat 0)), (2, (2, Int.ofNat 139)), (3, (2, Int.ofNat 153)), (4, (2, Int.ofNat 154))]) rfl rfl rfl ?_
  refine r_goto c369_2090 ?_
  refine q_R.wk (ks := [5, 0, 1, 2, 3, 4]) (lo' := y_lo i) rfl ?_
  exact k _ _ _ A2 ⟨⟨_, J2⟩, (j_T_J J2).2⟩ (by omega) (by omega)
theorem y_k55 {Γ : q_Γ} (hG : q_GG Γ) {i : Nat} (hi : i + 6 ≤ Γ.2.2.2.1) (hL : Γ.2.2.2.1 ≤ 3072) {h : q_F} (hA : q_Al 0 155 h) (J : t_J h) (E : h 1 1 = h 139 14) {cl sl : Nat} (hc : cl ≤ 3900) (hs : sl ≤ 39000) (k : y_K Γ i cl sl) : q_R Γ q_K 155 369 y_P (2093, y_lo i, [], q_hp q_K 155 h, [], cl, sl) := by
  obtain ⟨S, J⟩ := J
  refine r_aload_n c369_2093 rfl rfl ?_
  obtain ⟨v1, e1⟩ := c_mdur (h := h) (q_al1 hA rfl (by decide) (by decide)) (q_al1 hA rfl (by decide) (by decide))
  refine y_cp (a := 0) (b := 0) c369_2094 (by decide) rfl rfl rfl rfl (by omega) (by omega) rfl rfl (wn189 hG  hA e1) ?_
  intro i1
  refine r_dstore c369_2097 (lo' := [(6, (5, v1)), (5, (0, (i : Int))), (0, (9, 0)), (1, (2, Int.ofNat 0)), (2, (2, Int.ofNat 139)), (3, (2, Int.ofNat 153)), (4, (2, Int.ofNat 154))]) rfl rfl rfl ?_
  refine r_aload_n c369_2099 rfl rfl ?_
  obtain ⟨v2, g2, e2, J2⟩ := t_r_mdur  hA J
  refine y_cv (a := 0) (b := 0) c369_2100 (by decide) rfl rfl rfl rfl (by omega) (by omega) rfl rfl (wn292 hG  hA e2) ?_
  intro i2 A2
  refine r_dstore c369_2103 (lo' := [(8, (5, v2)), (6, (5, v1)), (5, (0, (i : Int))), (0, (9, 0)), (1, (2, Int.ofNat 0)), (2, (2, Int.ofNat 139)), (3, (2, Int.ofNat 153)), (4, (2, Int.ofNat 154))]) rfl rfl rfl ?_
  refine r_goto c369_2105 ?_
  refine q_R.wk (ks := [5, 0, 1, 2, 3, 4]) (lo' := y_lo i) rfl ?_
  exact k _ _ _ A2 ⟨⟨_, J2⟩, (j_T_J J2).2⟩ (by omega) (by omega)
end -- [99cg.law]
section -- [99ch.law]
/-! Part 99ch: cases of the law. Printed by wip/tools/genlaw.py. -/
theorem y_k56 {Γ : q_Γ} (hG : q_GG Γ) {i : Nat} (hi : i + 6 ≤ Γ.2.2.2.1) (hL : Γ.2.2.2.1 ≤ 3072) {h : q_F} (hA : q_Al 0 155 h) (J : t_J h) (E : h 1 1 = h 139 14) {cl sl : Nat} (hc : cl ≤ 3900) (hs : sl ≤ 39000) (k : y_K Γ i cl sl) : q_R Γ q_K 155 369 y_P (2108, y_lo i, [], q_hp q_K 155 h, [], cl, sl) := by
  obtain ⟨S, J⟩ := J
  refine r_aload_n c369_2108 rfl rfl ?_
  refine y_arg c369_2109 c369_2110 c369_2112 c369_2113 c369_2114 rfl rfl rfl hi hL (by decide) ?_
  refine r_aload c369_2115 rfl rfl ?_
  obtain ⟨v1, g1, e1, J1⟩ := t_L15 (v1 := (Γ.1 (i + 1))) hA J
  refine y_cs (a := 1) (b := 6) c369_2117 rfl rfl (by omega) (by omega) rfl rfl (wn15 hG (hG.1 (i + 1)) hA e1) ?_
  intro i1 A1
  refine r_istore c369_2120 (lo' := [(6, (0, v1)), (5, (0, (i : Int))), (0, (9, 0)), (1, (2, Int.ofNat 0)), (2, (2, Int.ofNat 139)), (3, (2, Int.ofNat 153)), (4, (2, Int.ofNat 154))]) rfl rfl rfl ?_
  refine r_aload_n c369_2122 rfl rfl ?_
  refine y_arg c369_2123 c369_2124 c369_2126 c369_2127 c369_2128 rfl rfl rfl hi hL (by decide) ?_
  obtain ⟨v2, g2, e2, J2⟩ := t_r_lost2 (a := (Γ.1 (i + 1))) A1 J1
  refine y_cv (a := 0) (b := 0) c369_2129 (by decide) rfl rfl rfl rfl (by omega) (by omega) rfl rfl (wn285 hG (hG.1 (i + 1)) A1 e2) ?_
  intro i2 A2
  refine r_fstore c369_2132 (lo' := [(7, (4, v2)), (6, (0, v1)), (5, (0, (i : Int))), (0, (9, 0)), (1, (2, Int.ofNat 0)), (2, (2, Int.ofNat 139)), (3, (2, Int.ofNat 153)), (4, (2, Int.ofNat 154))]) rfl rfl rfl ?_
  refine r_goto c369_2134 ?_
  refine q_R.wk (ks := [5, 0, 1, 2, 3, 4]) (lo' := y_lo i) rfl ?_
  exact k _ _ _ A2 ⟨⟨_, J2⟩, (j_T_J J2).2⟩ (by omega) (by omega)
theorem y_k57 {Γ : q_Γ} (hG : q_GG Γ) {i : Nat} (hi : i + 6 ≤ Γ.2.2.2.1) (hL : Γ.2.2.2.1 ≤ 3072) {h : q_F} (hA : q_Al 0 155 h) (J : t_J h) (E : h 1 1 = h 139 14) {cl sl : Nat} (hc : cl ≤ 3900) (hs : sl ≤ 39000) (k : y_K Γ i cl sl) : q_R Γ q_K 155 369 y_P (2137, y_lo i, [], q_hp q_K 155 h, [], cl, sl) := by
  obtain ⟨S, J⟩ := J
  refine r_aload_n c369_2137 rfl rfl ?_
  obtain ⟨v1, g1, e1, J1⟩ := t_c_print  hA J
  refine y_cv (a := 0) (b := 0) c369_2138 (by decide) rfl rfl rfl rfl (by omega) (by omega) rfl rfl (wn197 hG  hA e1) ?_
  intro i1 A1
  refine r_pop c369_2141 rfl rfl ?_
  refine r_aload_n c369_2142 rfl rfl ?_
  obtain ⟨v2, g2, e2, J2⟩ := t_print   J1
  refine y_cv (a := 0) (b := 0) c369_2143 (by decide) rfl rfl rfl rfl (by omega) (by omega) rfl rfl (wn307 hG  A1 e2) ?_
  intro i2 A2
  refine r_pop c369_2146 rfl rfl ?_
  refine r_goto c369_2147 ?_
  refine q_R.wk (ks := [5, 0, 1, 2, 3, 4]) (lo' := y_lo i) rfl ?_
  exact k _ _ _ A2 ⟨⟨_, J2⟩, (j_T_J J2).2⟩ (by omega) (by omega)
theorem y_k58 {Γ : q_Γ} (hG : q_GG Γ) {i : Nat} (hi : i + 6 ≤ Γ.2.2.2.1) (hL : Γ.2.2.2.1 ≤ 3072) {h : q_F} (hA : q_Al 0 155 h) (J : t_J h) (E : h 1 1 = h 139 14) {cl sl : Nat} (hc : cl ≤ 3900) (hs : sl ≤ 39000) (k : y_K Γ i cl sl) : q_R Γ q_K 155 369 y_P (2150, y_lo i, [], q_hp q_K 155 h, [], cl, sl) := by
  obtain ⟨S, J⟩ := J
  refine r_aload_n c369_2150 rfl rfl ?_
  refine y_arg c369_2151 c369_2152 c369_2154 c369_2155 c369_2156 rfl rfl rfl hi hL (by decide) ?_
  obtain ⟨v1, e1⟩ := c_outByte (Γ.1 (i + 1)) h
  refine y_cp (a := 0) (b := 0) c369_2157 (by decide) rfl rfl rfl rfl (by omega) (by omega) rfl rfl (wn194 hG (hG.1 (i + 1)) hA e1) ?_
  intro i1
  refine r_pop c369_2160 rfl rfl ?_
  refine r_aload_n c369_2161 rfl rfl ?_
  refine y_arg c369_2162 c369_2163 c369_2165 c369_2166 c369_2167 rfl rfl rfl hi hL (by decide) ?_
  obtain ⟨v2, g2, e2, J2⟩ := t_r_outByte (v := (Γ.1 (i + 1))) hA J
  refine y_cv (a := 0) (b := 0) c369_2168 (by decide) rfl rfl rfl rfl (by omega) (by omega) rfl rfl (wn304 hG (hG.1 (i + 1)) hA e2) ?_
  intro i2 A2
  refine r_pop c369_2171 rfl rfl ?_
  refine r_goto c369_2172 ?_
  refine q_R.wk (ks := [5, 0, 1, 2, 3, 4]) (lo' := y_lo i) rfl ?_
  exact k _ _ _ A2 ⟨⟨_, J2⟩, (j_T_J J2).2⟩ (by omega) (by omega)
theorem y_k59 {Γ : q_Γ} (hG : q_GG Γ) {i : Nat} (hi : i + 6 ≤ Γ.2.2.2.1) (hL : Γ.2.2.2.1 ≤ 3072) {h : q_F} (hA : q_Al 0 155 h) (J : t_J h) (E : h 1 1 = h 139 14) {cl sl : Nat} (hc : cl ≤ 3900) (hs : sl ≤ 39000) (k : y_K Γ i cl sl) : q_R Γ q_K 155 369 y_P (2175, y_lo i, [], q_hp q_K 155 h, [], cl, sl) := by
  obtain ⟨S, J⟩ := J
  refine r_aload_n c369_2175 rfl rfl ?_
  obtain ⟨v1, g1, e1, J1⟩ := t_c_undo  hA J
  refine y_cv (a := 0) (b := 0) c369_2176 (by decide) rfl rfl rfl rfl (by omega) (by omega) rfl rfl (wn228 hG  hA e1) ?_
  intro i1 A1
  refine r_pop c369_2179 rfl rfl ?_
  refine r_aload_n c369_2180 rfl rfl ?_
  obtain ⟨v2, g2, e2, J2⟩ := t_r_undo  A1 J1
  refine y_cv (a := 0) (b := 0) c369_2181 (by decide) rfl rfl rfl rfl (by omega) (by omega) rfl rfl (wn360 hG  A1 e2) ?_
  intro i2 A2
  refine r_pop c369_2184 rfl rfl ?_
  refine r_goto c369_2185 ?_
  refine q_R.wk (ks := [5, 0, 1, 2, 3, 4]) (lo' := y_lo i) rfl ?_
  exact k _ _ _ A2 ⟨⟨_, J2⟩, (j_T_J J2).2⟩ (by omega) (by omega)
theorem y_k60 {Γ : q_Γ} (hG : q_GG Γ) {i : Nat} (hi : i + 6 ≤ Γ.2.2.2.1) (hL : Γ.2.2.2.1 ≤ 3072) {h : q_F} (hA : q_Al 0 155 h) (J : t_J h) (E : h 1 1 = h 139 14) {cl sl : Nat} (hc : cl ≤ 3900) (hs : sl ≤ 39000) (k : y_K Γ i cl sl) : q_R Γ q_K 155 369 y_P (2188, y_lo i, [], q_hp q_K 155 h, [], cl, sl) := by
  obtain ⟨S, J⟩ := J
  refine r_aload_n c369_2188 rfl rfl ?_
  obtain ⟨v1, g1, e1, J1⟩ := t_c_save  hA J
  refine y_cv (a := 0) (b := 0) c369_2189 (by decide) rfl rfl rfl rfl (by omega) (by omega) rfl rfl (wn209 hG  hA e1) ?_
  intro i1 A1
  refine r_pop c369_2192 rfl rfl ?_
  refine r_aload_n c369_2193 rfl rfl ?_
  obtain ⟨v2, g2, e2, J2⟩ := t_r_save  A1 J1
  refine y_cv (a := 0) (b := 0) c369_2194 (by decide) rfl rfl rfl rfl (by omega) (by omega) rfl rfl (wn326 hG  A1 e2) ?_
  intro i2 A2
  refine r_pop c369_2197 rfl rfl ?_
  refine r_goto c369_2198 ?_
  refine q_R.wk (ks := [5, 0, 1, 2, 3, 4]) (lo' := y_lo i) rfl ?_
  exact k _ _ _ A2 ⟨⟨_, J2⟩, (j_T_J J2).2⟩ (by omega) (by omega)
theorem y_k61 {Γ : q_Γ} (hG : q_GG Γ) {i : Nat} (hi : i + 6 ≤ Γ.2.2.2.1) (hL : Γ.2.2.2.1 ≤ 3072) {h : q_F} (hA : q_Al 0 155 h) (J : t_J h) (E : h 1 1 = h 139 14) {cl sl : Nat} (hc : cl ≤ 3900) (hs : sl ≤ 39000) (k : y_K Γ i cl sl) : q_R Γ q_K 155 369 y_P (2201, y_lo i, [], q_hp q_K 155 h, [], cl, sl) := by
  obtain ⟨S, J⟩ := J
  refine r_aload_n c369_2201 rfl rfl ?_
  refine r_aload_n c369_2202 rfl rfl ?_
  obtain ⟨v1, g1, e1, J1⟩ := t_L23  hA J
  refine y_cs (a := 1) (b := 6) c369_2203 rfl rfl (by omega) (by omega) rfl rfl (wn23 hG  hA e1) ?_
  intro i1 A1
  refine r_istore c369_2206 (lo' := [(6, (0, v1)), (5, (0, (i : Int))), (0, (9, 0)), (1, (2, Int.ofNat 0)), (2, (2, Int.ofNat 139)), (3, (2, Int.ofNat 153)), (4, (2, Int.ofNat 154))]) rfl rfl rfl ?_
  refine r_aload_n c369_2208 rfl rfl ?_
  obtain ⟨v2, g2, e2, J2⟩ := t_r_rest  A1 J1
  refine y_cv (a := 0) (b := 0) c369_2209 (by decide) rfl rfl rfl rfl (by omega) (by omega) rfl rfl (wn322 hG  A1 e2) ?_
  intro i2 A2
  refine r_istore c369_2212 (lo' := [(7, (0, v2)), (6, (0, v1)), (5, (0, (i : Int))), (0, (9, 0)), (1, (2, Int.ofNat 0)), (2, (2, Int.ofNat 139)), (3, (2, Int.ofNat 153)), (4, (2, Int.ofNat 154))]) rfl rfl rfl ?_
  refine r_goto c369_2214 ?_
  refine q_R.wk (ks := [5, 0, 1, 2, 3, 4]) (lo' := y_lo i) rfl ?_
  exact k _ _ _ A2 ⟨⟨_, J2⟩, (j_T_J J2).2⟩ (by omega) (by omega)
end -- [99ch.law]
section -- [99e.switch]
/-! Part 99e: the law's switch. Printed by wip/tools/genlaw.py. -/
def y_offs : Array Int := #[263, 336, 361, 374, 387, 400, 428, 468, 496, 524, 552, 565, 593, 633, 685, 701, 729, 742, 783, 824, 864, 892, 932, 972, 1012, 1064, 1093, 1137, 1150, 1214, 1242, 1282, 1334, 1390, 1418, 1431, 1487, 1536, 1564, 1592, 1632, 1660, 1689, 1704, 1733, 1761, 1789, 1802, 1854, 1867, 1895, 1923, 1936, 1952, 2008, 2048, 2063, 2092, 2105, 2130, 2143, 2156]
theorem y_sw {Γ : q_Γ} (hG : q_GG Γ) {i : Nat} (hi : i + 6 ≤ Γ.2.2.2.1) (hL : Γ.2.2.2.1 ≤ 3072) {h : q_F} (hA : q_Al 0 155 h) (J : t_J h) (E : h 1 1 = h 139 14) {cl sl : Nat} (hc : cl ≤ 3900) (hs : sl ≤ 39000) (kk : y_K Γ i cl sl) {d lo9 hi9 : Int} {offs : Array Int} (hd : d = 2172) (hl : lo9 = 0) (hh : hi9 = 61) (ho : offs = y_offs) (z : Int) (z0 : 0 ≤ z) (z1 : z ≤ 61) : ∃ t, q_tgt 45 d lo9 hi9 offs z = some t ∧ q_R Γ q_K 155 369 y_P (t, y_lo i, [], q_hp q_K 155 h, [], cl, sl) := by
  subst hd; subst hl; subst hh; subst ho
  by_cases c0_61 : z ≤ 30
  · by_cases c0_30 : z ≤ 15
    · by_cases c0_15 : z ≤ 7
      · by_cases c0_7 : z ≤ 3
        · by_cases c0_3 : z ≤ 1
          · by_cases c0_1 : z ≤ 0
            · have e9 : z = 0 := by omega
              subst e9
              exact ⟨308, rfl, y_k0 hG hi hL hA J E (by omega) (by omega) kk⟩
            · have e9 : z = 1 := by omega
              subst e9
              exact ⟨381, rfl, y_k1 hG hi hL hA J E (by omega) (by omega) kk⟩
          · by_cases c2_3 : z ≤ 2
            · have e9 : z = 2 := by omega
              subst e9
              exact ⟨406, rfl, y_k2 hG hi hL hA J E (by omega) (by omega) kk⟩
            · have e9 : z = 3 := by omega
              subst e9
              exact ⟨419, rfl, y_k3 hG hi hL hA J E (by omega) (by omega) kk⟩
        · by_cases c4_7 : z ≤ 5
          · by_cases c4_5 : z ≤ 4
            · have e9 : z = 4 := by omega
              subst e9
              exact ⟨432, rfl, y_k4 hG hi hL hA J E (by omega) (by omega) kk⟩
            · have e9 : z = 5 := by omega
              subst e9
              exact ⟨445, rfl, y_k5 hG hi hL hA J E (by omega) (by omega) kk⟩
          · by_cases c6_7 : z ≤ 6
            · have e9 : z = 6 := by omega
              subst e9
              exact ⟨473, rfl, y_k6 hG hi hL hA J E (by omega) (by omega) kk⟩
            · have e9 : z = 7 := by omega
              subst e9
              exact ⟨513, rfl, y_k7 hG hi hL hA J E (by omega) (by omega) kk⟩
      · by_cases c8_15 : z ≤ 11
        · by_cases c8_11 : z ≤ 9
          · by_cases c8_9 : z ≤ 8
            · have e9 : z = 8 := by omega
              subst e9
              exact ⟨541, rfl, y_k8 hG hi hL hA J E (by omega) (by omega) kk⟩
            · have e9 : z = 9 := by omega
              subst e9
              exact ⟨569, rfl, y_k9 hG hi hL hA J E (by omega) (by omega) kk⟩
          · by_cases c10_11 : z ≤ 10
            · have e9 : z = 10 := by omega
              subst e9
              exact ⟨597, rfl, y_k10 hG hi hL hA J E (by omega) (by omega) kk⟩
            · have e9 : z = 11 := by omega
              subst e9
              exact ⟨610, rfl, y_k11 hG hi hL hA J E (by omega) (by omega) kk⟩
        · by_cases c12_15 : z ≤ 13
          · by_cases c12_13 : z ≤ 12
            · have e9 : z = 12 := by omega
              subst e9
              exact ⟨638, rfl, y_k12 hG hi hL hA J E (by omega) (by omega) kk⟩
            · have e9 : z = 13 := by omega
              subst e9
              exact ⟨678, rfl, y_k13 hG hi hL hA J E (by omega) (by omega) kk⟩
          · by_cases c14_15 : z ≤ 14
            · have e9 : z = 14 := by omega
              subst e9
              exact ⟨730, rfl, y_k14 hG hi hL hA J E (by omega) (by omega) kk⟩
            · have e9 : z = 15 := by omega
              subst e9
              exact ⟨746, rfl, y_k15 hG hi hL hA J E (by omega) (by omega) kk⟩
    · by_cases c16_30 : z ≤ 23
      · by_cases c16_23 : z ≤ 19
        · by_cases c16_19 : z ≤ 17
          · by_cases c16_17 : z ≤ 16
            · have e9 : z = 16 := by omega
              subst e9
              exact ⟨774, rfl, y_k16 hG hi hL hA J E (by omega) (by omega) kk⟩
            · have e9 : z = 17 := by omega
              subst e9
              exact ⟨787, rfl, y_k17 hG hi hL hA J E (by omega) (by omega) kk⟩
          · by_cases c18_19 : z ≤ 18
            · have e9 : z = 18 := by omega
              subst e9
              exact ⟨828, rfl, y_k18 hG hi hL hA J E (by omega) (by omega) kk⟩
            · have e9 : z = 19 := by omega
              subst e9
              exact ⟨869, rfl, y_k19 hG hi hL hA J E (by omega) (by omega) kk⟩
        · by_cases c20_23 : z ≤ 21
          · by_cases c20_21 : z ≤ 20
            · have e9 : z = 20 := by omega
              subst e9
              exact ⟨909, rfl, y_k20 hG hi hL hA J E (by omega) (by omega) kk⟩
            · have e9 : z = 21 := by omega
              subst e9
              exact ⟨937, rfl, y_k21 hG hi hL hA J E (by omega) (by omega) kk⟩
          · by_cases c22_23 : z ≤ 22
            · have e9 : z = 22 := by omega
              subst e9
              exact ⟨977, rfl, y_k22 hG hi hL hA J E (by omega) (by omega) kk⟩
            · have e9 : z = 23 := by omega
              subst e9
              exact ⟨1017, rfl, y_k23 hG hi hL hA J E (by omega) (by omega) kk⟩
      · by_cases c24_30 : z ≤ 27
        · by_cases c24_27 : z ≤ 25
          · by_cases c24_25 : z ≤ 24
            · have e9 : z = 24 := by omega
              subst e9
              exact ⟨1057, rfl, y_k24 hG hi hL hA J E (by omega) (by omega) kk⟩
            · have e9 : z = 25 := by omega
              subst e9
              exact ⟨1109, rfl, y_k25 hG hi hL hA J E (by omega) (by omega) kk⟩
          · by_cases c26_27 : z ≤ 26
            · have e9 : z = 26 := by omega
              subst e9
              exact ⟨1138, rfl, y_k26 hG hi hL hA J E (by omega) (by omega) kk⟩
            · have e9 : z = 27 := by omega
              subst e9
              exact ⟨1182, rfl, y_k27 hG hi hL hA J E (by omega) (by omega) kk⟩
        · by_cases c28_30 : z ≤ 29
          · by_cases c28_29 : z ≤ 28
            · have e9 : z = 28 := by omega
              subst e9
              exact ⟨1195, rfl, y_k28 hG hi hL hA J E (by omega) (by omega) kk⟩
            · have e9 : z = 29 := by omega
              subst e9
              exact ⟨1259, rfl, y_k29 hG hi hL hA J E (by omega) (by omega) kk⟩
          · have e9 : z = 30 := by omega
            subst e9
            exact ⟨1287, rfl, y_k30 hG hi hL hA J E (by omega) (by omega) kk⟩
  · by_cases c31_61 : z ≤ 46
    · by_cases c31_46 : z ≤ 38
      · by_cases c31_38 : z ≤ 34
        · by_cases c31_34 : z ≤ 32
          · by_cases c31_32 : z ≤ 31
            · have e9 : z = 31 := by omega
              subst e9
              exact ⟨1327, rfl, y_k31 hG hi hL hA J E (by omega) (by omega) kk⟩
            · have e9 : z = 32 := by omega
              subst e9
              exact ⟨1379, rfl, y_k32 hG hi hL hA J E (by omega) (by omega) kk⟩
          · by_cases c33_34 : z ≤ 33
            · have e9 : z = 33 := by omega
              subst e9
              exact ⟨1435, rfl, y_k33 hG hi hL hA J E (by omega) (by omega) kk⟩
            · have e9 : z = 34 := by omega
              subst e9
              exact ⟨1463, rfl, y_k34 hG hi hL hA J E (by omega) (by omega) kk⟩
        · by_cases c35_38 : z ≤ 36
          · by_cases c35_36 : z ≤ 35
            · have e9 : z = 35 := by omega
              subst e9
              exact ⟨1476, rfl, y_k35 hG hi hL hA J E (by omega) (by omega) kk⟩
            · have e9 : z = 36 := by omega
              subst e9
              exact ⟨1532, rfl, y_k36 hG hi hL hA J E (by omega) (by omega) kk⟩
          · by_cases c37_38 : z ≤ 37
            · have e9 : z = 37 := by omega
              subst e9
              exact ⟨1581, rfl, y_k37 hG hi hL hA J E (by omega) (by omega) kk⟩
            · have e9 : z = 38 := by omega
              subst e9
              exact ⟨1609, rfl, y_k38 hG hi hL hA J E (by omega) (by omega) kk⟩
      · by_cases c39_46 : z ≤ 42
        · by_cases c39_42 : z ≤ 40
          · by_cases c39_40 : z ≤ 39
            · have e9 : z = 39 := by omega
              subst e9
              exact ⟨1637, rfl, y_k39 hG hi hL hA J E (by omega) (by omega) kk⟩
            · have e9 : z = 40 := by omega
              subst e9
              exact ⟨1677, rfl, y_k40 hG hi hL hA J E (by omega) (by omega) kk⟩
          · by_cases c41_42 : z ≤ 41
            · have e9 : z = 41 := by omega
              subst e9
              exact ⟨1705, rfl, y_k41 hG hi hL hA J E (by omega) (by omega) kk⟩
            · have e9 : z = 42 := by omega
              subst e9
              exact ⟨1734, rfl, y_k42 hG hi hL hA J E (by omega) (by omega) kk⟩
        · by_cases c43_46 : z ≤ 44
          · by_cases c43_44 : z ≤ 43
            · have e9 : z = 43 := by omega
              subst e9
              exact ⟨1749, rfl, y_k43 hG hi hL hA J E (by omega) (by omega) kk⟩
            · have e9 : z = 44 := by omega
              subst e9
              exact ⟨1778, rfl, y_k44 hG hi hL hA J E (by omega) (by omega) kk⟩
          · by_cases c45_46 : z ≤ 45
            · have e9 : z = 45 := by omega
              subst e9
              exact ⟨1806, rfl, y_k45 hG hi hL hA J E (by omega) (by omega) kk⟩
            · have e9 : z = 46 := by omega
              subst e9
              exact ⟨1834, rfl, y_k46 hG hi hL hA J E (by omega) (by omega) kk⟩
    · by_cases c47_61 : z ≤ 54
      · by_cases c47_54 : z ≤ 50
        · by_cases c47_50 : z ≤ 48
          · by_cases c47_48 : z ≤ 47
            · have e9 : z = 47 := by omega
              subst e9
              exact ⟨1847, rfl, y_k47 hG hi hL hA J E (by omega) (by omega) kk⟩
            · have e9 : z = 48 := by omega
              subst e9
              exact ⟨1899, rfl, y_k48 hG hi hL hA J E (by omega) (by omega) kk⟩
          · by_cases c49_50 : z ≤ 49
            · have e9 : z = 49 := by omega
              subst e9
              exact ⟨1912, rfl, y_k49 hG hi hL hA J E (by omega) (by omega) kk⟩
            · have e9 : z = 50 := by omega
              subst e9
              exact ⟨1940, rfl, y_k50 hG hi hL hA J E (by omega) (by omega) kk⟩
        · by_cases c51_54 : z ≤ 52
          · by_cases c51_52 : z ≤ 51
            · have e9 : z = 51 := by omega
              subst e9
              exact ⟨1968, rfl, y_k51 hG hi hL hA J E (by omega) (by omega) kk⟩
            · have e9 : z = 52 := by omega
              subst e9
              exact ⟨1981, rfl, y_k52 hG hi hL hA J E (by omega) (by omega) kk⟩
          · by_cases c53_54 : z ≤ 53
            · have e9 : z = 53 := by omega
              subst e9
              exact ⟨1997, rfl, y_k53 hG hi hL hA J E (by omega) (by omega) kk⟩
            · have e9 : z = 54 := by omega
              subst e9
              exact ⟨2053, rfl, y_k54 hG hi hL hA J E (by omega) (by omega) kk⟩
      · by_cases c55_61 : z ≤ 58
        · by_cases c55_58 : z ≤ 56
          · by_cases c55_56 : z ≤ 55
            · have e9 : z = 55 := by omega
              subst e9
              exact ⟨2093, rfl, y_k55 hG hi hL hA J E (by omega) (by omega) kk⟩
            · have e9 : z = 56 := by omega
              subst e9
              exact ⟨2108, rfl, y_k56 hG hi hL hA J E (by omega) (by omega) kk⟩
          · by_cases c57_58 : z ≤ 57
            · have e9 : z = 57 := by omega
              subst e9
              exact ⟨2137, rfl, y_k57 hG hi hL hA J E (by omega) (by omega) kk⟩
            · have e9 : z = 58 := by omega
              subst e9
              exact ⟨2150, rfl, y_k58 hG hi hL hA J E (by omega) (by omega) kk⟩
        · by_cases c59_61 : z ≤ 60
          · by_cases c59_60 : z ≤ 59
            · have e9 : z = 59 := by omega
              subst e9
              exact ⟨2175, rfl, y_k59 hG hi hL hA J E (by omega) (by omega) kk⟩
            · have e9 : z = 60 := by omega
              subst e9
              exact ⟨2188, rfl, y_k60 hG hi hL hA J E (by omega) (by omega) kk⟩
          · have e9 : z = 61 := by omega
            subst e9
            exact ⟨2201, rfl, y_k61 hG hi hL hA J E (by omega) (by omega) kk⟩
end -- [99e.switch]
