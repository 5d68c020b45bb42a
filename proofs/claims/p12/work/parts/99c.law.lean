section -- [99ca.law]
/-! Part 99ca: cases of the law. Printed by wip/tools/genlaw.py. -/
theorem y_k0 {Γ : q_Γ} (hG : q_GG Γ) {i : Nat} (hi : i + 6 ≤ Γ.2.2.2.1) (hL : Γ.2.2.2.1 ≤ 3072) {h : q_F} (hA : q_Al 0 155 h) (J : t_J h) (E : h 1 1 = h 139 14) {cl sl : Nat} (hc : cl ≤ 3900) (hs : sl ≤ 39000) (k : y_K Γ i cl sl) : q_R Γ q_K 155 368 y_P (308, y_lo i, [], q_hp q_K 155 h, [], cl, sl) := by
  obtain ⟨S, J⟩ := J
  refine r_aload_n c368_308 rfl rfl ?_
  refine y_arg c368_309 c368_310 c368_312 c368_313 c368_314 rfl rfl rfl hi hL (by decide) ?_
  refine y_arg c368_315 c368_316 c368_318 c368_319 c368_320 rfl rfl rfl hi hL (by decide) ?_
  refine y_arg c368_321 c368_322 c368_324 c368_325 c368_326 rfl rfl rfl hi hL (by decide) ?_
  refine y_arg c368_327 c368_328 c368_330 c368_331 c368_332 rfl rfl rfl hi hL (by decide) ?_
  refine y_arg c368_333 c368_334 c368_336 c368_337 c368_338 rfl rfl rfl hi hL (by decide) ?_
  obtain ⟨v1, g1, g2, S2, e1, e2, J2⟩ := t_app (a := (Γ.1 (i + 1))) (b := (Γ.1 (i + 2))) (c := (Γ.1 (i + 3))) (d := (Γ.1 (i + 4))) (e := (Γ.1 (i + 5))) J
  refine y_cv (a := 0) (b := 0) c368_339 (by decide) rfl rfl rfl rfl (by omega) (by omega) rfl rfl (wn156 hG (hG.1 (i + 1)) (hG.1 (i + 2)) (hG.1 (i + 3)) (hG.1 (i + 4)) (hG.1 (i + 5)) hA e1) ?_
  intro i1 A1
  refine r_pop c368_342 rfl rfl ?_
  refine r_aload_n c368_343 rfl rfl ?_
  refine y_arg c368_344 c368_345 c368_347 c368_348 c368_349 rfl rfl rfl hi hL (by decide) ?_
  refine y_arg c368_350 c368_351 c368_353 c368_354 c368_355 rfl rfl rfl hi hL (by decide) ?_
  refine y_arg c368_356 c368_357 c368_359 c368_360 c368_361 rfl rfl rfl hi hL (by decide) ?_
  refine y_arg c368_362 c368_363 c368_365 c368_366 c368_367 rfl rfl rfl hi hL (by decide) ?_
  refine y_arg c368_368 c368_369 c368_371 c368_372 c368_373 rfl rfl rfl hi hL (by decide) ?_
  refine y_cv (a := 0) (b := 0) c368_374 (by decide) rfl rfl rfl rfl (by omega) (by omega) rfl rfl (wn237 hG (hG.1 (i + 1)) (hG.1 (i + 2)) (hG.1 (i + 3)) (hG.1 (i + 4)) (hG.1 (i + 5)) A1 e2) ?_
  intro i2 A2
  refine r_pop c368_377 rfl rfl ?_
  refine r_goto c368_378 ?_
  refine q_R.wk (ks := [5, 0, 1, 2, 3, 4]) (lo' := y_lo i) rfl ?_
  exact k _ _ _ A2 ⟨⟨_, J2⟩, (j_T_J J2).2⟩ (by omega) (by omega)
theorem y_k1 {Γ : q_Γ} (hG : q_GG Γ) {i : Nat} (hi : i + 6 ≤ Γ.2.2.2.1) (hL : Γ.2.2.2.1 ≤ 3072) {h : q_F} (hA : q_Al 0 155 h) (J : t_J h) (E : h 1 1 = h 139 14) {cl sl : Nat} (hc : cl ≤ 3900) (hs : sl ≤ 39000) (k : y_K Γ i cl sl) : q_R Γ q_K 155 368 y_P (381, y_lo i, [], q_hp q_K 155 h, [], cl, sl) := by
  obtain ⟨S, J⟩ := J
  refine r_aload_n c368_381 rfl rfl ?_
  refine y_arg c368_382 c368_383 c368_385 c368_386 c368_387 rfl rfl rfl hi hL (by decide) ?_
  obtain ⟨v1, g1, g2, S2, e1, e2, J2⟩ := t_tru (v := (Γ.1 (i + 1))) J
  refine y_cv (a := 0) (b := 0) c368_388 (by decide) rfl rfl rfl rfl (by omega) (by omega) rfl rfl (wn226 hG (hG.1 (i + 1)) hA e1) ?_
  intro i1 A1
  refine r_pop c368_391 rfl rfl ?_
  refine r_aload_n c368_392 rfl rfl ?_
  refine y_arg c368_393 c368_394 c368_396 c368_397 c368_398 rfl rfl rfl hi hL (by decide) ?_
  refine y_cv (a := 0) (b := 0) c368_399 (by decide) rfl rfl rfl rfl (by omega) (by omega) rfl rfl (wn358 hG (hG.1 (i + 1)) A1 e2) ?_
  intro i2 A2
  refine r_pop c368_402 rfl rfl ?_
  refine r_goto c368_403 ?_
  refine q_R.wk (ks := [5, 0, 1, 2, 3, 4]) (lo' := y_lo i) rfl ?_
  exact k _ _ _ A2 ⟨⟨_, J2⟩, (j_T_J J2).2⟩ (by omega) (by omega)
theorem y_k2 {Γ : q_Γ} (hG : q_GG Γ) {i : Nat} (hi : i + 6 ≤ Γ.2.2.2.1) (hL : Γ.2.2.2.1 ≤ 3072) {h : q_F} (hA : q_Al 0 155 h) (J : t_J h) (E : h 1 1 = h 139 14) {cl sl : Nat} (hc : cl ≤ 3900) (hs : sl ≤ 39000) (k : y_K Γ i cl sl) : q_R Γ q_K 155 368 y_P (406, y_lo i, [], q_hp q_K 155 h, [], cl, sl) := by
  obtain ⟨S, J⟩ := J
  refine r_aload_n c368_406 rfl rfl ?_
  obtain ⟨v1, g1, g2, S2, e1, e2, J2⟩ := t_load  J
  refine y_cv (a := 0) (b := 0) c368_407 (by decide) rfl rfl rfl rfl (by omega) (by omega) rfl rfl (wn187 hG  hA e1) ?_
  intro i1 A1
  refine r_pop c368_410 rfl rfl ?_
  refine r_aload_n c368_411 rfl rfl ?_
  refine y_cv (a := 0) (b := 0) c368_412 (by decide) rfl rfl rfl rfl (by omega) (by omega) rfl rfl (wn283 hG  A1 e2) ?_
  intro i2 A2
  refine r_pop c368_415 rfl rfl ?_
  refine r_goto c368_416 ?_
  refine q_R.wk (ks := [5, 0, 1, 2, 3, 4]) (lo' := y_lo i) rfl ?_
  exact k _ _ _ A2 ⟨⟨_, J2⟩, (j_T_J J2).2⟩ (by omega) (by omega)
theorem y_k3 {Γ : q_Γ} (hG : q_GG Γ) {i : Nat} (hi : i + 6 ≤ Γ.2.2.2.1) (hL : Γ.2.2.2.1 ≤ 3072) {h : q_F} (hA : q_Al 0 155 h) (J : t_J h) (E : h 1 1 = h 139 14) {cl sl : Nat} (hc : cl ≤ 3900) (hs : sl ≤ 39000) (k : y_K Γ i cl sl) : q_R Γ q_K 155 368 y_P (419, y_lo i, [], q_hp q_K 155 h, [], cl, sl) := by
  obtain ⟨S, J⟩ := J
  refine r_aload_n c368_419 rfl rfl ?_
  obtain ⟨v1, e1⟩ := c_errCode h
  refine y_cp (a := 0) (b := 0) c368_420 (by decide) rfl rfl rfl rfl (by omega) (by omega) rfl rfl (wn177 hG  hA e1) ?_
  intro i1
  refine r_pop c368_423 rfl rfl ?_
  refine r_aload_n c368_424 rfl rfl ?_
  obtain ⟨v2, g2, e2, J2⟩ := t_r_errCode  hA J
  refine y_cv (a := 0) (b := 0) c368_425 (by decide) rfl rfl rfl rfl (by omega) (by omega) rfl rfl (wn255 hG  hA e2) ?_
  intro i2 A2
  refine r_pop c368_428 rfl rfl ?_
  refine r_goto c368_429 ?_
  refine q_R.wk (ks := [5, 0, 1, 2, 3, 4]) (lo' := y_lo i) rfl ?_
  exact k _ _ _ A2 ⟨⟨_, J2⟩, (j_T_J J2).2⟩ (by omega) (by omega)
theorem y_k4 {Γ : q_Γ} (hG : q_GG Γ) {i : Nat} (hi : i + 6 ≤ Γ.2.2.2.1) (hL : Γ.2.2.2.1 ≤ 3072) {h : q_F} (hA : q_Al 0 155 h) (J : t_J h) (E : h 1 1 = h 139 14) {cl sl : Nat} (hc : cl ≤ 3900) (hs : sl ≤ 39000) (k : y_K Γ i cl sl) : q_R Γ q_K 155 368 y_P (432, y_lo i, [], q_hp q_K 155 h, [], cl, sl) := by
  obtain ⟨S, J⟩ := J
  refine r_aload_n c368_432 rfl rfl ?_
  obtain ⟨v1, e1⟩ := c_errOff h
  refine y_cp (a := 0) (b := 0) c368_433 (by decide) rfl rfl rfl rfl (by omega) (by omega) rfl rfl (wn178 hG  hA e1) ?_
  intro i1
  refine r_pop c368_436 rfl rfl ?_
  refine r_aload_n c368_437 rfl rfl ?_
  obtain ⟨v2, g2, e2, J2⟩ := t_r_errOff  hA J
  refine y_cv (a := 0) (b := 0) c368_438 (by decide) rfl rfl rfl rfl (by omega) (by omega) rfl rfl (wn257 hG  hA e2) ?_
  intro i2 A2
  refine r_pop c368_441 rfl rfl ?_
  refine r_goto c368_442 ?_
  refine q_R.wk (ks := [5, 0, 1, 2, 3, 4]) (lo' := y_lo i) rfl ?_
  exact k _ _ _ A2 ⟨⟨_, J2⟩, (j_T_J J2).2⟩ (by omega) (by omega)
theorem y_k5 {Γ : q_Γ} (hG : q_GG Γ) {i : Nat} (hi : i + 6 ≤ Γ.2.2.2.1) (hL : Γ.2.2.2.1 ≤ 3072) {h : q_F} (hA : q_Al 0 155 h) (J : t_J h) (E : h 1 1 = h 139 14) {cl sl : Nat} (hc : cl ≤ 3900) (hs : sl ≤ 39000) (k : y_K Γ i cl sl) : q_R Γ q_K 155 368 y_P (445, y_lo i, [], q_hp q_K 155 h, [], cl, sl) := by
  obtain ⟨S, J⟩ := J
  refine r_aload_n c368_445 rfl rfl ?_
  refine y_arg c368_446 c368_447 c368_449 c368_450 c368_451 rfl rfl rfl hi hL (by decide) ?_
  refine r_aload_n c368_452 rfl rfl ?_
  obtain ⟨v1, g1, e1, J1⟩ := t_L5 (v1 := (Γ.1 (i + 1))) hA J
  refine y_cs (a := 1) (b := 6) c368_453 rfl rfl (by omega) (by omega) rfl rfl (wn5 hG (hG.1 (i + 1)) hA e1) ?_
  intro i1 A1
  refine r_istore c368_456 (lo' := [(6, (0, v1)), (5, (0, (i : Int))), (0, (9, 0)), (1, (2, Int.ofNat 0)), (2, (2, Int.ofNat 139)), (3, (2, Int.ofNat 153)), (4, (2, Int.ofNat 154))]) rfl rfl rfl ?_
  refine r_aload_n c368_458 rfl rfl ?_
  refine y_arg c368_459 c368_460 c368_462 c368_463 c368_464 rfl rfl rfl hi hL (by decide) ?_
  obtain ⟨v2, g2, e2, J2⟩ := t_r_count (v := (Γ.1 (i + 1))) A1 J1
  refine y_cv (a := 0) (b := 0) c368_465 (by decide) rfl rfl rfl rfl (by omega) (by omega) rfl rfl (wn250 hG (hG.1 (i + 1)) A1 e2) ?_
  intro i2 A2
  refine r_istore c368_468 (lo' := [(7, (0, v2)), (6, (0, v1)), (5, (0, (i : Int))), (0, (9, 0)), (1, (2, Int.ofNat 0)), (2, (2, Int.ofNat 139)), (3, (2, Int.ofNat 153)), (4, (2, Int.ofNat 154))]) rfl rfl rfl ?_
  refine r_goto c368_470 ?_
  refine q_R.wk (ks := [5, 0, 1, 2, 3, 4]) (lo' := y_lo i) rfl ?_
  exact k _ _ _ A2 ⟨⟨_, J2⟩, (j_T_J J2).2⟩ (by omega) (by omega)
theorem y_k6 {Γ : q_Γ} (hG : q_GG Γ) {i : Nat} (hi : i + 6 ≤ Γ.2.2.2.1) (hL : Γ.2.2.2.1 ≤ 3072) {h : q_F} (hA : q_Al 0 155 h) (J : t_J h) (E : h 1 1 = h 139 14) {cl sl : Nat} (hc : cl ≤ 3900) (hs : sl ≤ 39000) (k : y_K Γ i cl sl) : q_R Γ q_K 155 368 y_P (473, y_lo i, [], q_hp q_K 155 h, [], cl, sl) := by
  obtain ⟨S, J⟩ := J
  refine r_aload_n c368_473 rfl rfl ?_
  refine y_arg c368_474 c368_475 c368_477 c368_478 c368_479 rfl rfl rfl hi hL (by decide) ?_
  refine y_arg c368_480 c368_481 c368_483 c368_484 c368_485 rfl rfl rfl hi hL (by decide) ?_
  refine r_aload_n c368_486 rfl rfl ?_
  obtain ⟨v1, g1, e1, J1⟩ := t_L1 (v1 := (Γ.1 (i + 1))) (v2 := (Γ.1 (i + 2))) hA J
  refine y_cs (a := 2) (b := 12) c368_487 rfl rfl (by omega) (by omega) rfl rfl (wn1 hG (hG.1 (i + 1)) (hG.1 (i + 2)) hA e1) ?_
  intro i1 A1
  refine r_istore c368_490 (lo' := [(6, (0, v1)), (5, (0, (i : Int))), (0, (9, 0)), (1, (2, Int.ofNat 0)), (2, (2, Int.ofNat 139)), (3, (2, Int.ofNat 153)), (4, (2, Int.ofNat 154))]) rfl rfl rfl ?_
  refine r_aload_n c368_492 rfl rfl ?_
  refine y_arg c368_493 c368_494 c368_496 c368_497 c368_498 rfl rfl rfl hi hL (by decide) ?_
  refine y_arg c368_499 c368_500 c368_502 c368_503 c368_504 rfl rfl rfl hi hL (by decide) ?_
  obtain ⟨v2, g2, e2, J2⟩ := t_r_axisC (a := (Γ.1 (i + 1))) (v := (Γ.1 (i + 2))) A1 J1
  refine y_cv (a := 0) (b := 0) c368_505 (by decide) rfl rfl rfl rfl (by omega) (by omega) rfl rfl (wn239 hG (hG.1 (i + 1)) (hG.1 (i + 2)) A1 e2) ?_
  intro i2 A2
  refine r_istore c368_508 (lo' := [(7, (0, v2)), (6, (0, v1)), (5, (0, (i : Int))), (0, (9, 0)), (1, (2, Int.ofNat 0)), (2, (2, Int.ofNat 139)), (3, (2, Int.ofNat 153)), (4, (2, Int.ofNat 154))]) rfl rfl rfl ?_
  refine r_goto c368_510 ?_
  refine q_R.wk (ks := [5, 0, 1, 2, 3, 4]) (lo' := y_lo i) rfl ?_
  exact k _ _ _ A2 ⟨⟨_, J2⟩, (j_T_J J2).2⟩ (by omega) (by omega)
theorem y_k7 {Γ : q_Γ} (hG : q_GG Γ) {i : Nat} (hi : i + 6 ≤ Γ.2.2.2.1) (hL : Γ.2.2.2.1 ≤ 3072) {h : q_F} (hA : q_Al 0 155 h) (J : t_J h) (E : h 1 1 = h 139 14) {cl sl : Nat} (hc : cl ≤ 3900) (hs : sl ≤ 39000) (k : y_K Γ i cl sl) : q_R Γ q_K 155 368 y_P (513, y_lo i, [], q_hp q_K 155 h, [], cl, sl) := by
  obtain ⟨S, J⟩ := J
  refine r_aload_n c368_513 rfl rfl ?_
  refine y_arg c368_514 c368_515 c368_517 c368_518 c368_519 rfl rfl rfl hi hL (by decide) ?_
  refine r_aload_n c368_520 rfl rfl ?_
  obtain ⟨v1, g1, e1, J1⟩ := t_L4 (v1 := (Γ.1 (i + 1))) hA J
  refine y_cs (a := 2) (b := 12) c368_521 rfl rfl (by omega) (by omega) rfl rfl (wn4 hG (hG.1 (i + 1)) hA e1) ?_
  intro i1 A1
  refine r_istore c368_524 (lo' := [(6, (0, v1)), (5, (0, (i : Int))), (0, (9, 0)), (1, (2, Int.ofNat 0)), (2, (2, Int.ofNat 139)), (3, (2, Int.ofNat 153)), (4, (2, Int.ofNat 154))]) rfl rfl rfl ?_
  refine r_aload_n c368_526 rfl rfl ?_
  refine y_arg c368_527 c368_528 c368_530 c368_531 c368_532 rfl rfl rfl hi hL (by decide) ?_
  obtain ⟨v2, g2, e2, J2⟩ := t_r_coordinate (a := (Γ.1 (i + 1))) A1 J1
  refine y_cv (a := 0) (b := 0) c368_533 (by decide) rfl rfl rfl rfl (by omega) (by omega) rfl rfl (wn248 hG (hG.1 (i + 1)) A1 e2) ?_
  intro i2 A2
  refine r_istore c368_536 (lo' := [(7, (0, v2)), (6, (0, v1)), (5, (0, (i : Int))), (0, (9, 0)), (1, (2, Int.ofNat 0)), (2, (2, Int.ofNat 139)), (3, (2, Int.ofNat 153)), (4, (2, Int.ofNat 154))]) rfl rfl rfl ?_
  refine r_goto c368_538 ?_
  refine q_R.wk (ks := [5, 0, 1, 2, 3, 4]) (lo' := y_lo i) rfl ?_
  exact k _ _ _ A2 ⟨⟨_, J2⟩, (j_T_J J2).2⟩ (by omega) (by omega)
end -- [99ca.law]
section -- [99cb.law]
/-! Part 99cb: cases of the law. Printed by wip/tools/genlaw.py. -/
theorem y_k8 {Γ : q_Γ} (hG : q_GG Γ) {i : Nat} (hi : i + 6 ≤ Γ.2.2.2.1) (hL : Γ.2.2.2.1 ≤ 3072) {h : q_F} (hA : q_Al 0 155 h) (J : t_J h) (E : h 1 1 = h 139 14) {cl sl : Nat} (hc : cl ≤ 3900) (hs : sl ≤ 39000) (k : y_K Γ i cl sl) : q_R Γ q_K 155 368 y_P (541, y_lo i, [], q_hp q_K 155 h, [], cl, sl) := by
  obtain ⟨S, J⟩ := J
  refine r_aload_n c368_541 rfl rfl ?_
  refine y_arg c368_542 c368_543 c368_545 c368_546 c368_547 rfl rfl rfl hi hL (by decide) ?_
  refine r_aload_n c368_548 rfl rfl ?_
  obtain ⟨v1, g1, e1, J1⟩ := t_L8 (v1 := (Γ.1 (i + 1))) hA J
  refine y_cs (a := 2) (b := 12) c368_549 rfl rfl (by omega) (by omega) rfl rfl (wn8 hG (hG.1 (i + 1)) hA e1) ?_
  intro i1 A1
  refine r_istore c368_552 (lo' := [(6, (0, v1)), (5, (0, (i : Int))), (0, (9, 0)), (1, (2, Int.ofNat 0)), (2, (2, Int.ofNat 139)), (3, (2, Int.ofNat 153)), (4, (2, Int.ofNat 154))]) rfl rfl rfl ?_
  refine r_aload_n c368_554 rfl rfl ?_
  refine y_arg c368_555 c368_556 c368_558 c368_559 c368_560 rfl rfl rfl hi hL (by decide) ?_
  obtain ⟨v2, g2, e2, J2⟩ := t_r_errorC (a := (Γ.1 (i + 1))) A1 J1
  refine y_cv (a := 0) (b := 0) c368_561 (by decide) rfl rfl rfl rfl (by omega) (by omega) rfl rfl (wn254 hG (hG.1 (i + 1)) A1 e2) ?_
  intro i2 A2
  refine r_istore c368_564 (lo' := [(7, (0, v2)), (6, (0, v1)), (5, (0, (i : Int))), (0, (9, 0)), (1, (2, Int.ofNat 0)), (2, (2, Int.ofNat 139)), (3, (2, Int.ofNat 153)), (4, (2, Int.ofNat 154))]) rfl rfl rfl ?_
  refine r_goto c368_566 ?_
  refine q_R.wk (ks := [5, 0, 1, 2, 3, 4]) (lo' := y_lo i) rfl ?_
  exact k _ _ _ A2 ⟨⟨_, J2⟩, (j_T_J J2).2⟩ (by omega) (by omega)
theorem y_k9 {Γ : q_Γ} (hG : q_GG Γ) {i : Nat} (hi : i + 6 ≤ Γ.2.2.2.1) (hL : Γ.2.2.2.1 ≤ 3072) {h : q_F} (hA : q_Al 0 155 h) (J : t_J h) (E : h 1 1 = h 139 14) {cl sl : Nat} (hc : cl ≤ 3900) (hs : sl ≤ 39000) (k : y_K Γ i cl sl) : q_R Γ q_K 155 368 y_P (569, y_lo i, [], q_hp q_K 155 h, [], cl, sl) := by
  obtain ⟨S, J⟩ := J
  refine r_aload_n c368_569 rfl rfl ?_
  refine y_arg c368_570 c368_571 c368_573 c368_574 c368_575 rfl rfl rfl hi hL (by decide) ?_
  refine r_aload_n c368_576 rfl rfl ?_
  obtain ⟨v1, g1, e1, J1⟩ := t_L22 (v1 := (Γ.1 (i + 1))) hA J
  refine y_cs (a := 1) (b := 6) c368_577 rfl rfl (by omega) (by omega) rfl rfl (wn22 hG (hG.1 (i + 1)) hA e1) ?_
  intro i1 A1
  refine r_istore c368_580 (lo' := [(6, (0, v1)), (5, (0, (i : Int))), (0, (9, 0)), (1, (2, Int.ofNat 0)), (2, (2, Int.ofNat 139)), (3, (2, Int.ofNat 153)), (4, (2, Int.ofNat 154))]) rfl rfl rfl ?_
  refine r_aload_n c368_582 rfl rfl ?_
  refine y_arg c368_583 c368_584 c368_586 c368_587 c368_588 rfl rfl rfl hi hL (by decide) ?_
  obtain ⟨v2, g2, e2, J2⟩ := t_r_readsC (a := (Γ.1 (i + 1))) A1 J1
  refine y_cv (a := 0) (b := 0) c368_589 (by decide) rfl rfl rfl rfl (by omega) (by omega) rfl rfl (wn319 hG (hG.1 (i + 1)) A1 e2) ?_
  intro i2 A2
  refine r_istore c368_592 (lo' := [(7, (0, v2)), (6, (0, v1)), (5, (0, (i : Int))), (0, (9, 0)), (1, (2, Int.ofNat 0)), (2, (2, Int.ofNat 139)), (3, (2, Int.ofNat 153)), (4, (2, Int.ofNat 154))]) rfl rfl rfl ?_
  refine r_goto c368_594 ?_
  refine q_R.wk (ks := [5, 0, 1, 2, 3, 4]) (lo' := y_lo i) rfl ?_
  exact k _ _ _ A2 ⟨⟨_, J2⟩, (j_T_J J2).2⟩ (by omega) (by omega)
theorem y_k10 {Γ : q_Γ} (hG : q_GG Γ) {i : Nat} (hi : i + 6 ≤ Γ.2.2.2.1) (hL : Γ.2.2.2.1 ≤ 3072) {h : q_F} (hA : q_Al 0 155 h) (J : t_J h) (E : h 1 1 = h 139 14) {cl sl : Nat} (hc : cl ≤ 3900) (hs : sl ≤ 39000) (k : y_K Γ i cl sl) : q_R Γ q_K 155 368 y_P (597, y_lo i, [], q_hp q_K 155 h, [], cl, sl) := by
  obtain ⟨S, J⟩ := J
  refine r_aload_n c368_597 rfl rfl ?_
  obtain ⟨v1, e1⟩ := c_time h
  refine y_cp (a := 0) (b := 0) c368_598 (by decide) rfl rfl rfl rfl (by omega) (by omega) rfl rfl (wn223 hG  hA e1) ?_
  intro i1
  refine r_aload_n c368_601 rfl rfl ?_
  obtain ⟨v2, g2, e2, J2⟩ := t_r_time  hA J
  refine y_cv (a := 0) (b := 0) c368_602 (by decide) rfl rfl rfl rfl (by omega) (by omega) rfl rfl (wn352 hG  hA e2) ?_
  intro i2 A2
  have q9 : v1 = v2 := a_p12 J e1 e2
  refine y_lc c368_605 c368_606 q9 ?_
  refine q_R.wk (ks := [5, 0, 1, 2, 3, 4]) (lo' := y_lo i) rfl ?_
  exact k _ _ _ A2 ⟨⟨_, J2⟩, (j_T_J J2).2⟩ (by omega) (by omega)
theorem y_k11 {Γ : q_Γ} (hG : q_GG Γ) {i : Nat} (hi : i + 6 ≤ Γ.2.2.2.1) (hL : Γ.2.2.2.1 ≤ 3072) {h : q_F} (hA : q_Al 0 155 h) (J : t_J h) (E : h 1 1 = h 139 14) {cl sl : Nat} (hc : cl ≤ 3900) (hs : sl ≤ 39000) (k : y_K Γ i cl sl) : q_R Γ q_K 155 368 y_P (611, y_lo i, [], q_hp q_K 155 h, [], cl, sl) := by
  obtain ⟨S, J⟩ := J
  refine r_aload_n c368_611 rfl rfl ?_
  refine y_arg c368_612 c368_613 c368_615 c368_616 c368_617 rfl rfl rfl hi hL (by decide) ?_
  refine r_aload_n c368_618 rfl rfl ?_
  obtain ⟨v1, g1, e1, J1⟩ := t_L9 (v1 := (Γ.1 (i + 1))) hA J
  refine y_cs (a := 3) (b := 18) c368_619 rfl rfl (by omega) (by omega) rfl rfl (wn9 hG (hG.1 (i + 1)) hA e1) ?_
  intro i1 A1
  refine r_istore c368_622 (lo' := [(6, (0, v1)), (5, (0, (i : Int))), (0, (9, 0)), (1, (2, Int.ofNat 0)), (2, (2, Int.ofNat 139)), (3, (2, Int.ofNat 153)), (4, (2, Int.ofNat 154))]) rfl rfl rfl ?_
  refine r_aload_n c368_624 rfl rfl ?_
  refine y_arg c368_625 c368_626 c368_628 c368_629 c368_630 rfl rfl rfl hi hL (by decide) ?_
  obtain ⟨v2, g2, e2, J2⟩ := t_r_homeC (a := (Γ.1 (i + 1))) A1 J1
  refine y_cv (a := 0) (b := 0) c368_631 (by decide) rfl rfl rfl rfl (by omega) (by omega) rfl rfl (wn263 hG (hG.1 (i + 1)) A1 e2) ?_
  intro i2 A2
  refine r_istore c368_634 (lo' := [(7, (0, v2)), (6, (0, v1)), (5, (0, (i : Int))), (0, (9, 0)), (1, (2, Int.ofNat 0)), (2, (2, Int.ofNat 139)), (3, (2, Int.ofNat 153)), (4, (2, Int.ofNat 154))]) rfl rfl rfl ?_
  refine r_goto c368_636 ?_
  refine q_R.wk (ks := [5, 0, 1, 2, 3, 4]) (lo' := y_lo i) rfl ?_
  exact k _ _ _ A2 ⟨⟨_, J2⟩, (j_T_J J2).2⟩ (by omega) (by omega)
theorem y_k12 {Γ : q_Γ} (hG : q_GG Γ) {i : Nat} (hi : i + 6 ≤ Γ.2.2.2.1) (hL : Γ.2.2.2.1 ≤ 3072) {h : q_F} (hA : q_Al 0 155 h) (J : t_J h) (E : h 1 1 = h 139 14) {cl sl : Nat} (hc : cl ≤ 3900) (hs : sl ≤ 39000) (k : y_K Γ i cl sl) : q_R Γ q_K 155 368 y_P (639, y_lo i, [], q_hp q_K 155 h, [], cl, sl) := by
  obtain ⟨S, J⟩ := J
  refine r_aload_n c368_639 rfl rfl ?_
  refine y_arg c368_640 c368_641 c368_643 c368_644 c368_645 rfl rfl rfl hi hL (by decide) ?_
  refine y_arg c368_646 c368_647 c368_649 c368_650 c368_651 rfl rfl rfl hi hL (by decide) ?_
  refine r_aload_n c368_652 rfl rfl ?_
  obtain ⟨v1, g1, e1, J1⟩ := t_L12 (v1 := (Γ.1 (i + 1))) (v2 := (Γ.1 (i + 2))) hA J
  refine y_cs (a := 3) (b := 18) c368_653 rfl rfl (by omega) (by omega) rfl rfl (wn12 hG (hG.1 (i + 1)) (hG.1 (i + 2)) hA e1) ?_
  intro i1 A1
  refine r_istore c368_656 (lo' := [(6, (0, v1)), (5, (0, (i : Int))), (0, (9, 0)), (1, (2, Int.ofNat 0)), (2, (2, Int.ofNat 139)), (3, (2, Int.ofNat 153)), (4, (2, Int.ofNat 154))]) rfl rfl rfl ?_
  refine r_aload_n c368_658 rfl rfl ?_
  refine y_arg c368_659 c368_660 c368_662 c368_663 c368_664 rfl rfl rfl hi hL (by decide) ?_
  refine y_arg c368_665 c368_666 c368_668 c368_669 c368_670 rfl rfl rfl hi hL (by decide) ?_
  obtain ⟨v2, g2, e2, J2⟩ := t_r_jogC (a := (Γ.1 (i + 1))) (v := (Γ.1 (i + 2))) A1 J1
  refine y_cv (a := 0) (b := 0) c368_671 (by decide) rfl rfl rfl rfl (by omega) (by omega) rfl rfl (wn274 hG (hG.1 (i + 1)) (hG.1 (i + 2)) A1 e2) ?_
  intro i2 A2
  refine r_istore c368_674 (lo' := [(7, (0, v2)), (6, (0, v1)), (5, (0, (i : Int))), (0, (9, 0)), (1, (2, Int.ofNat 0)), (2, (2, Int.ofNat 139)), (3, (2, Int.ofNat 153)), (4, (2, Int.ofNat 154))]) rfl rfl rfl ?_
  refine r_goto c368_676 ?_
  refine q_R.wk (ks := [5, 0, 1, 2, 3, 4]) (lo' := y_lo i) rfl ?_
  exact k _ _ _ A2 ⟨⟨_, J2⟩, (j_T_J J2).2⟩ (by omega) (by omega)
theorem y_k13 {Γ : q_Γ} (hG : q_GG Γ) {i : Nat} (hi : i + 6 ≤ Γ.2.2.2.1) (hL : Γ.2.2.2.1 ≤ 3072) {h : q_F} (hA : q_Al 0 155 h) (J : t_J h) (E : h 1 1 = h 139 14) {cl sl : Nat} (hc : cl ≤ 3900) (hs : sl ≤ 39000) (k : y_K Γ i cl sl) : q_R Γ q_K 155 368 y_P (679, y_lo i, [], q_hp q_K 155 h, [], cl, sl) := by
  obtain ⟨S, J⟩ := J
  refine r_aload_n c368_679 rfl rfl ?_
  refine y_arg c368_680 c368_681 c368_683 c368_684 c368_685 rfl rfl rfl hi hL (by decide) ?_
  refine y_arg c368_686 c368_687 c368_689 c368_690 c368_691 rfl rfl rfl hi hL (by decide) ?_
  refine y_arg c368_692 c368_693 c368_695 c368_696 c368_697 rfl rfl rfl hi hL (by decide) ?_
  refine r_aload_n c368_698 rfl rfl ?_
  obtain ⟨v1, g1, e1, J1⟩ := t_L20 (v1 := (Γ.1 (i + 1))) (v2 := (Γ.1 (i + 2))) (v3 := (Γ.1 (i + 3))) hA J
  refine y_cs (a := 5) (b := 30) c368_699 rfl rfl (by omega) (by omega) rfl rfl (wn20 hG (hG.1 (i + 1)) (hG.1 (i + 2)) (hG.1 (i + 3)) hA e1) ?_
  intro i1 A1
  refine r_istore c368_702 (lo' := [(6, (0, v1)), (5, (0, (i : Int))), (0, (9, 0)), (1, (2, Int.ofNat 0)), (2, (2, Int.ofNat 139)), (3, (2, Int.ofNat 153)), (4, (2, Int.ofNat 154))]) rfl rfl rfl ?_
  refine r_aload_n c368_704 rfl rfl ?_
  refine y_arg c368_705 c368_706 c368_708 c368_709 c368_710 rfl rfl rfl hi hL (by decide) ?_
  refine y_arg c368_711 c368_712 c368_714 c368_715 c368_716 rfl rfl rfl hi hL (by decide) ?_
  refine y_arg c368_717 c368_718 c368_720 c368_721 c368_722 rfl rfl rfl hi hL (by decide) ?_
  obtain ⟨v2, g2, e2, J2⟩ := t_r_queueC (x := (Γ.1 (i + 1))) (y := (Γ.1 (i + 2))) (z := (Γ.1 (i + 3))) A1 J1
  refine y_cv (a := 0) (b := 0) c368_723 (by decide) rfl rfl rfl rfl (by omega) (by omega) rfl rfl (wn309 hG (hG.1 (i + 1)) (hG.1 (i + 2)) (hG.1 (i + 3)) A1 e2) ?_
  intro i2 A2
  refine r_istore c368_726 (lo' := [(7, (0, v2)), (6, (0, v1)), (5, (0, (i : Int))), (0, (9, 0)), (1, (2, Int.ofNat 0)), (2, (2, Int.ofNat 139)), (3, (2, Int.ofNat 153)), (4, (2, Int.ofNat 154))]) rfl rfl rfl ?_
  refine r_goto c368_728 ?_
  refine q_R.wk (ks := [5, 0, 1, 2, 3, 4]) (lo' := y_lo i) rfl ?_
  exact k _ _ _ A2 ⟨⟨_, J2⟩, (j_T_J J2).2⟩ (by omega) (by omega)
theorem y_k14 {Γ : q_Γ} (hG : q_GG Γ) {i : Nat} (hi : i + 6 ≤ Γ.2.2.2.1) (hL : Γ.2.2.2.1 ≤ 3072) {h : q_F} (hA : q_Al 0 155 h) (J : t_J h) (E : h 1 1 = h 139 14) {cl sl : Nat} (hc : cl ≤ 3900) (hs : sl ≤ 39000) (k : y_K Γ i cl sl) : q_R Γ q_K 155 368 y_P (731, y_lo i, [], q_hp q_K 155 h, [], cl, sl) := by
  obtain ⟨S, J⟩ := J
  refine r_aload_n c368_731 rfl rfl ?_
  refine r_aload_n c368_732 rfl rfl ?_
  obtain ⟨v1, g1, e1, J1⟩ := t_L37  hA J
  refine y_cs (a := 1) (b := 6) c368_733 rfl rfl (by omega) (by omega) rfl rfl (wn37 hG  hA e1) ?_
  intro i1 A1
  refine r_istore c368_736 (lo' := [(6, (0, v1)), (5, (0, (i : Int))), (0, (9, 0)), (1, (2, Int.ofNat 0)), (2, (2, Int.ofNat 139)), (3, (2, Int.ofNat 153)), (4, (2, Int.ofNat 154))]) rfl rfl rfl ?_
  refine r_aload_n c368_738 rfl rfl ?_
  obtain ⟨v2, g2, e2, J2⟩ := t_r_unqueue  A1 J1
  refine y_cv (a := 0) (b := 0) c368_739 (by decide) rfl rfl rfl rfl (by omega) (by omega) rfl rfl (wn361 hG  A1 e2) ?_
  intro i2 A2
  refine r_istore c368_742 (lo' := [(7, (0, v2)), (6, (0, v1)), (5, (0, (i : Int))), (0, (9, 0)), (1, (2, Int.ofNat 0)), (2, (2, Int.ofNat 139)), (3, (2, Int.ofNat 153)), (4, (2, Int.ofNat 154))]) rfl rfl rfl ?_
  refine r_goto c368_744 ?_
  refine q_R.wk (ks := [5, 0, 1, 2, 3, 4]) (lo' := y_lo i) rfl ?_
  exact k _ _ _ A2 ⟨⟨_, J2⟩, (j_T_J J2).2⟩ (by omega) (by omega)
theorem y_k15 {Γ : q_Γ} (hG : q_GG Γ) {i : Nat} (hi : i + 6 ≤ Γ.2.2.2.1) (hL : Γ.2.2.2.1 ≤ 3072) {h : q_F} (hA : q_Al 0 155 h) (J : t_J h) (E : h 1 1 = h 139 14) {cl sl : Nat} (hc : cl ≤ 3900) (hs : sl ≤ 39000) (k : y_K Γ i cl sl) : q_R Γ q_K 155 368 y_P (747, y_lo i, [], q_hp q_K 155 h, [], cl, sl) := by
  obtain ⟨S, J⟩ := J
  refine r_aload_n c368_747 rfl rfl ?_
  refine y_arg c368_748 c368_749 c368_751 c368_752 c368_753 rfl rfl rfl hi hL (by decide) ?_
  refine r_aload_n c368_754 rfl rfl ?_
  obtain ⟨v1, g1, e1, J1⟩ := t_L24 (v1 := (Γ.1 (i + 1))) hA J
  refine y_cs (a := 1) (b := 6) c368_755 rfl rfl (by omega) (by omega) rfl rfl (wn24 hG (hG.1 (i + 1)) hA e1) ?_
  intro i1 A1
  refine r_istore c368_758 (lo' := [(6, (0, v1)), (5, (0, (i : Int))), (0, (9, 0)), (1, (2, Int.ofNat 0)), (2, (2, Int.ofNat 139)), (3, (2, Int.ofNat 153)), (4, (2, Int.ofNat 154))]) rfl rfl rfl ?_
  refine r_aload_n c368_760 rfl rfl ?_
  refine y_arg c368_761 c368_762 c368_764 c368_765 c368_766 rfl rfl rfl hi hL (by decide) ?_
  obtain ⟨v2, g2, e2, J2⟩ := t_r_runC (n := (Γ.1 (i + 1))) A1 J1
  refine y_cv (a := 0) (b := 0) c368_767 (by decide) rfl rfl rfl rfl (by omega) (by omega) rfl rfl (wn324 hG (hG.1 (i + 1)) A1 e2) ?_
  intro i2 A2
  refine r_istore c368_770 (lo' := [(7, (0, v2)), (6, (0, v1)), (5, (0, (i : Int))), (0, (9, 0)), (1, (2, Int.ofNat 0)), (2, (2, Int.ofNat 139)), (3, (2, Int.ofNat 153)), (4, (2, Int.ofNat 154))]) rfl rfl rfl ?_
  refine r_goto c368_772 ?_
  refine q_R.wk (ks := [5, 0, 1, 2, 3, 4]) (lo' := y_lo i) rfl ?_
  exact k _ _ _ A2 ⟨⟨_, J2⟩, (j_T_J J2).2⟩ (by omega) (by omega)
end -- [99cb.law]
section -- [99cc.law]
/-! Part 99cc: cases of the law. Printed by wip/tools/genlaw.py. -/
theorem y_k16 {Γ : q_Γ} (hG : q_GG Γ) {i : Nat} (hi : i + 6 ≤ Γ.2.2.2.1) (hL : Γ.2.2.2.1 ≤ 3072) {h : q_F} (hA : q_Al 0 155 h) (J : t_J h) (E : h 1 1 = h 139 14) {cl sl : Nat} (hc : cl ≤ 3900) (hs : sl ≤ 39000) (k : y_K Γ i cl sl) : q_R Γ q_K 155 368 y_P (775, y_lo i, [], q_hp q_K 155 h, [], cl, sl) := by
  obtain ⟨S, J⟩ := J
  refine r_aload_n c368_775 rfl rfl ?_
  obtain ⟨v1, g1, e1, J1⟩ := t_c_reset  hA J
  refine y_cv (a := 0) (b := 0) c368_776 (by decide) rfl rfl rfl rfl (by omega) (by omega) rfl rfl (wn205 hG  hA e1) ?_
  intro i1 A1
  refine r_pop c368_779 rfl rfl ?_
  refine r_aload_n c368_780 rfl rfl ?_
  obtain ⟨v2, g2, e2, J2⟩ := t_r_reset  A1 J1
  refine y_cv (a := 0) (b := 0) c368_781 (by decide) rfl rfl rfl rfl (by omega) (by omega) rfl rfl (wn321 hG  A1 e2) ?_
  intro i2 A2
  refine r_pop c368_784 rfl rfl ?_
  refine r_goto c368_785 ?_
  refine q_R.wk (ks := [5, 0, 1, 2, 3, 4]) (lo' := y_lo i) rfl ?_
  exact k _ _ _ A2 ⟨⟨_, J2⟩, (j_T_J J2).2⟩ (by omega) (by omega)
theorem y_k17 {Γ : q_Γ} (hG : q_GG Γ) {i : Nat} (hi : i + 6 ≤ Γ.2.2.2.1) (hL : Γ.2.2.2.1 ≤ 3072) {h : q_F} (hA : q_Al 0 155 h) (J : t_J h) (E : h 1 1 = h 139 14) {cl sl : Nat} (hc : cl ≤ 3900) (hs : sl ≤ 39000) (k : y_K Γ i cl sl) : q_R Γ q_K 155 368 y_P (788, y_lo i, [], q_hp q_K 155 h, [], cl, sl) := by
  obtain ⟨S, J⟩ := J
  refine r_aload_n c368_788 rfl rfl ?_
  refine y_arg c368_789 c368_790 c368_792 c368_793 c368_794 rfl rfl rfl hi hL (by decide) ?_
  refine y_nz c368_795 c368_798 c368_799 c368_802 rfl (hG.1 (i + 1)) ?_
  obtain ⟨v1, g1, e1, J1⟩ := t_c_setC (v := (y_nzv (Γ.1 (i + 1)))) (y_nz01 (Γ.1 (i + 1))) J
  refine y_cv (a := 0) (b := 0) c368_803 (by decide) rfl rfl rfl rfl (by omega) (by omega) rfl rfl (wn210 hG (y_nz01 (Γ.1 (i + 1))) hA e1) ?_
  intro i1 A1
  refine r_pop c368_806 rfl rfl ?_
  refine r_aload_n c368_807 rfl rfl ?_
  refine y_arg c368_808 c368_809 c368_811 c368_812 c368_813 rfl rfl rfl hi hL (by decide) ?_
  refine y_nz c368_814 c368_817 c368_818 c368_821 rfl (hG.1 (i + 1)) ?_
  obtain ⟨v2, g2, e2, J2⟩ := t_r_setC (v := (y_nzv (Γ.1 (i + 1)))) (y_nz01 (Γ.1 (i + 1))) J1
  refine y_cv (a := 0) (b := 0) c368_822 (by decide) rfl rfl rfl rfl (by omega) (by omega) rfl rfl (wn328 hG (y_nz01 (Γ.1 (i + 1))) A1 e2) ?_
  intro i2 A2
  refine r_pop c368_825 rfl rfl ?_
  refine r_goto c368_826 ?_
  refine q_R.wk (ks := [5, 0, 1, 2, 3, 4]) (lo' := y_lo i) rfl ?_
  exact k _ _ _ A2 ⟨⟨_, J2⟩, (j_T_J J2).2⟩ (by omega) (by omega)
theorem y_k18 {Γ : q_Γ} (hG : q_GG Γ) {i : Nat} (hi : i + 6 ≤ Γ.2.2.2.1) (hL : Γ.2.2.2.1 ≤ 3072) {h : q_F} (hA : q_Al 0 155 h) (J : t_J h) (E : h 1 1 = h 139 14) {cl sl : Nat} (hc : cl ≤ 3900) (hs : sl ≤ 39000) (k : y_K Γ i cl sl) : q_R Γ q_K 155 368 y_P (829, y_lo i, [], q_hp q_K 155 h, [], cl, sl) := by
  obtain ⟨S, J⟩ := J
  refine r_aload_n c368_829 rfl rfl ?_
  refine y_arg c368_830 c368_831 c368_833 c368_834 c368_835 rfl rfl rfl hi hL (by decide) ?_
  refine y_nz c368_836 c368_839 c368_840 c368_843 rfl (hG.1 (i + 1)) ?_
  obtain ⟨v1, g1, e1, J1⟩ := t_c_setD (v := (y_nzv (Γ.1 (i + 1)))) (y_nz01 (Γ.1 (i + 1))) J
  refine y_cv (a := 0) (b := 0) c368_844 (by decide) rfl rfl rfl rfl (by omega) (by omega) rfl rfl (wn211 hG (y_nz01 (Γ.1 (i + 1))) hA e1) ?_
  intro i1 A1
  refine r_pop c368_847 rfl rfl ?_
  refine r_aload_n c368_848 rfl rfl ?_
  refine y_arg c368_849 c368_850 c368_852 c368_853 c368_854 rfl rfl rfl hi hL (by decide) ?_
  refine y_nz c368_855 c368_858 c368_859 c368_862 rfl (hG.1 (i + 1)) ?_
  obtain ⟨v2, g2, e2, J2⟩ := t_r_setD (v := (y_nzv (Γ.1 (i + 1)))) (y_nz01 (Γ.1 (i + 1))) J1
  refine y_cv (a := 0) (b := 0) c368_863 (by decide) rfl rfl rfl rfl (by omega) (by omega) rfl rfl (wn329 hG (y_nz01 (Γ.1 (i + 1))) A1 e2) ?_
  intro i2 A2
  refine r_pop c368_866 rfl rfl ?_
  refine r_goto c368_867 ?_
  refine q_R.wk (ks := [5, 0, 1, 2, 3, 4]) (lo' := y_lo i) rfl ?_
  exact k _ _ _ A2 ⟨⟨_, J2⟩, (j_T_J J2).2⟩ (by omega) (by omega)
theorem y_k19 {Γ : q_Γ} (hG : q_GG Γ) {i : Nat} (hi : i + 6 ≤ Γ.2.2.2.1) (hL : Γ.2.2.2.1 ≤ 3072) {h : q_F} (hA : q_Al 0 155 h) (J : t_J h) (E : h 1 1 = h 139 14) {cl sl : Nat} (hc : cl ≤ 3900) (hs : sl ≤ 39000) (k : y_K Γ i cl sl) : q_R Γ q_K 155 368 y_P (870, y_lo i, [], q_hp q_K 155 h, [], cl, sl) := by
  obtain ⟨S, J⟩ := J
  refine r_aload_n c368_870 rfl rfl ?_
  refine y_arg c368_871 c368_872 c368_874 c368_875 c368_876 rfl rfl rfl hi hL (by decide) ?_
  refine y_arg c368_877 c368_878 c368_880 c368_881 c368_882 rfl rfl rfl hi hL (by decide) ?_
  refine r_aload_n c368_883 rfl rfl ?_
  obtain ⟨v1, g1, e1, J1⟩ := t_L26 (v1 := (Γ.1 (i + 1))) (v2 := (Γ.1 (i + 2))) hA J
  refine y_cs (a := 2) (b := 12) c368_884 rfl rfl (by omega) (by omega) rfl rfl (wn26 hG (hG.1 (i + 1)) (hG.1 (i + 2)) hA e1) ?_
  intro i1 A1
  refine r_istore c368_887 (lo' := [(6, (0, v1)), (5, (0, (i : Int))), (0, (9, 0)), (1, (2, Int.ofNat 0)), (2, (2, Int.ofNat 139)), (3, (2, Int.ofNat 153)), (4, (2, Int.ofNat 154))]) rfl rfl rfl ?_
  refine r_aload_n c368_889 rfl rfl ?_
  refine y_arg c368_890 c368_891 c368_893 c368_894 c368_895 rfl rfl rfl hi hL (by decide) ?_
  refine y_arg c368_896 c368_897 c368_899 c368_900 c368_901 rfl rfl rfl hi hL (by decide) ?_
  obtain ⟨v2, g2, e2, J2⟩ := t_r_setStuck (a := (Γ.1 (i + 1))) (v := (Γ.1 (i + 2))) A1 J1
  refine y_cv (a := 0) (b := 0) c368_902 (by decide) rfl rfl rfl rfl (by omega) (by omega) rfl rfl (wn331 hG (hG.1 (i + 1)) (hG.1 (i + 2)) A1 e2) ?_
  intro i2 A2
  refine r_istore c368_905 (lo' := [(7, (0, v2)), (6, (0, v1)), (5, (0, (i : Int))), (0, (9, 0)), (1, (2, Int.ofNat 0)), (2, (2, Int.ofNat 139)), (3, (2, Int.ofNat 153)), (4, (2, Int.ofNat 154))]) rfl rfl rfl ?_
  refine r_goto c368_907 ?_
  refine q_R.wk (ks := [5, 0, 1, 2, 3, 4]) (lo' := y_lo i) rfl ?_
  exact k _ _ _ A2 ⟨⟨_, J2⟩, (j_T_J J2).2⟩ (by omega) (by omega)
theorem y_k20 {Γ : q_Γ} (hG : q_GG Γ) {i : Nat} (hi : i + 6 ≤ Γ.2.2.2.1) (hL : Γ.2.2.2.1 ≤ 3072) {h : q_F} (hA : q_Al 0 155 h) (J : t_J h) (E : h 1 1 = h 139 14) {cl sl : Nat} (hc : cl ≤ 3900) (hs : sl ≤ 39000) (k : y_K Γ i cl sl) : q_R Γ q_K 155 368 y_P (910, y_lo i, [], q_hp q_K 155 h, [], cl, sl) := by
  obtain ⟨S, J⟩ := J
  refine r_aload_n c368_910 rfl rfl ?_
  refine y_arg c368_911 c368_912 c368_914 c368_915 c368_916 rfl rfl rfl hi hL (by decide) ?_
  refine r_aload_n c368_917 rfl rfl ?_
  obtain ⟨v1, g1, e1, J1⟩ := t_L25 (v1 := (Γ.1 (i + 1))) hA J
  refine y_cs (a := 1) (b := 6) c368_918 rfl rfl (by omega) (by omega) rfl rfl (wn25 hG (hG.1 (i + 1)) hA e1) ?_
  intro i1 A1
  refine r_istore c368_921 (lo' := [(6, (0, v1)), (5, (0, (i : Int))), (0, (9, 0)), (1, (2, Int.ofNat 0)), (2, (2, Int.ofNat 139)), (3, (2, Int.ofNat 153)), (4, (2, Int.ofNat 154))]) rfl rfl rfl ?_
  refine r_aload_n c368_923 rfl rfl ?_
  refine y_arg c368_924 c368_925 c368_927 c368_928 c368_929 rfl rfl rfl hi hL (by decide) ?_
  obtain ⟨v2, g2, e2, J2⟩ := t_r_setStart (v := (Γ.1 (i + 1))) A1 J1
  refine y_cv (a := 0) (b := 0) c368_930 (by decide) rfl rfl rfl rfl (by omega) (by omega) rfl rfl (wn330 hG (hG.1 (i + 1)) A1 e2) ?_
  intro i2 A2
  refine r_istore c368_933 (lo' := [(7, (0, v2)), (6, (0, v1)), (5, (0, (i : Int))), (0, (9, 0)), (1, (2, Int.ofNat 0)), (2, (2, Int.ofNat 139)), (3, (2, Int.ofNat 153)), (4, (2, Int.ofNat 154))]) rfl rfl rfl ?_
  refine r_goto c368_935 ?_
  refine q_R.wk (ks := [5, 0, 1, 2, 3, 4]) (lo' := y_lo i) rfl ?_
  exact k _ _ _ A2 ⟨⟨_, J2⟩, (j_T_J J2).2⟩ (by omega) (by omega)
theorem y_k21 {Γ : q_Γ} (hG : q_GG Γ) {i : Nat} (hi : i + 6 ≤ Γ.2.2.2.1) (hL : Γ.2.2.2.1 ≤ 3072) {h : q_F} (hA : q_Al 0 155 h) (J : t_J h) (E : h 1 1 = h 139 14) {cl sl : Nat} (hc : cl ≤ 3900) (hs : sl ≤ 39000) (k : y_K Γ i cl sl) : q_R Γ q_K 155 368 y_P (938, y_lo i, [], q_hp q_K 155 h, [], cl, sl) := by
  obtain ⟨S, J⟩ := J
  refine r_aload_n c368_938 rfl rfl ?_
  refine y_arg c368_939 c368_940 c368_942 c368_943 c368_944 rfl rfl rfl hi hL (by decide) ?_
  refine y_arg c368_945 c368_946 c368_948 c368_949 c368_950 rfl rfl rfl hi hL (by decide) ?_
  refine r_aload_n c368_951 rfl rfl ?_
  obtain ⟨v1, g1, e1, J1⟩ := t_L33 (v1 := (Γ.1 (i + 1))) (v2 := (Γ.1 (i + 2))) hA J
  refine y_cs (a := 2) (b := 12) c368_952 rfl rfl (by omega) (by omega) rfl rfl (wn33 hG (hG.1 (i + 1)) (hG.1 (i + 2)) hA e1) ?_
  intro i1 A1
  refine r_istore c368_955 (lo' := [(6, (0, v1)), (5, (0, (i : Int))), (0, (9, 0)), (1, (2, Int.ofNat 0)), (2, (2, Int.ofNat 139)), (3, (2, Int.ofNat 153)), (4, (2, Int.ofNat 154))]) rfl rfl rfl ?_
  refine r_aload_n c368_957 rfl rfl ?_
  refine y_arg c368_958 c368_959 c368_961 c368_962 c368_963 rfl rfl rfl hi hL (by decide) ?_
  refine y_arg c368_964 c368_965 c368_967 c368_968 c368_969 rfl rfl rfl hi hL (by decide) ?_
  obtain ⟨v2, g2, e2, J2⟩ := t_r_target (m := (Γ.1 (i + 1))) (a := (Γ.1 (i + 2))) A1 J1
  refine y_cv (a := 0) (b := 0) c368_970 (by decide) rfl rfl rfl rfl (by omega) (by omega) rfl rfl (wn350 hG (hG.1 (i + 1)) (hG.1 (i + 2)) A1 e2) ?_
  intro i2 A2
  refine r_istore c368_973 (lo' := [(7, (0, v2)), (6, (0, v1)), (5, (0, (i : Int))), (0, (9, 0)), (1, (2, Int.ofNat 0)), (2, (2, Int.ofNat 139)), (3, (2, Int.ofNat 153)), (4, (2, Int.ofNat 154))]) rfl rfl rfl ?_
  refine r_goto c368_975 ?_
  refine q_R.wk (ks := [5, 0, 1, 2, 3, 4]) (lo' := y_lo i) rfl ?_
  exact k _ _ _ A2 ⟨⟨_, J2⟩, (j_T_J J2).2⟩ (by omega) (by omega)
theorem y_k22 {Γ : q_Γ} (hG : q_GG Γ) {i : Nat} (hi : i + 6 ≤ Γ.2.2.2.1) (hL : Γ.2.2.2.1 ≤ 3072) {h : q_F} (hA : q_Al 0 155 h) (J : t_J h) (E : h 1 1 = h 139 14) {cl sl : Nat} (hc : cl ≤ 3900) (hs : sl ≤ 39000) (k : y_K Γ i cl sl) : q_R Γ q_K 155 368 y_P (978, y_lo i, [], q_hp q_K 155 h, [], cl, sl) := by
  obtain ⟨S, J⟩ := J
  refine r_aload_n c368_978 rfl rfl ?_
  refine y_arg c368_979 c368_980 c368_982 c368_983 c368_984 rfl rfl rfl hi hL (by decide) ?_
  refine y_arg c368_985 c368_986 c368_988 c368_989 c368_990 rfl rfl rfl hi hL (by decide) ?_
  refine r_aload_n c368_991 rfl rfl ?_
  obtain ⟨v1, g1, e1, J1⟩ := t_L17 (v1 := (Γ.1 (i + 1))) (v2 := (Γ.1 (i + 2))) hA J
  refine y_cs (a := 2) (b := 12) c368_992 rfl rfl (by omega) (by omega) rfl rfl (wn17 hG (hG.1 (i + 1)) (hG.1 (i + 2)) hA e1) ?_
  intro i1 A1
  refine r_istore c368_995 (lo' := [(6, (0, v1)), (5, (0, (i : Int))), (0, (9, 0)), (1, (2, Int.ofNat 0)), (2, (2, Int.ofNat 139)), (3, (2, Int.ofNat 153)), (4, (2, Int.ofNat 154))]) rfl rfl rfl ?_
  refine r_aload_n c368_997 rfl rfl ?_
  refine y_arg c368_998 c368_999 c368_1001 c368_1002 c368_1003 rfl rfl rfl hi hL (by decide) ?_
  refine y_arg c368_1004 c368_1005 c368_1007 c368_1008 c368_1009 rfl rfl rfl hi hL (by decide) ?_
  obtain ⟨v2, g2, e2, J2⟩ := t_r_moveC (m := (Γ.1 (i + 1))) (v := (Γ.1 (i + 2))) A1 J1
  refine y_cv (a := 0) (b := 0) c368_1010 (by decide) rfl rfl rfl rfl (by omega) (by omega) rfl rfl (wn294 hG (hG.1 (i + 1)) (hG.1 (i + 2)) A1 e2) ?_
  intro i2 A2
  refine r_istore c368_1013 (lo' := [(7, (0, v2)), (6, (0, v1)), (5, (0, (i : Int))), (0, (9, 0)), (1, (2, Int.ofNat 0)), (2, (2, Int.ofNat 139)), (3, (2, Int.ofNat 153)), (4, (2, Int.ofNat 154))]) rfl rfl rfl ?_
  refine r_goto c368_1015 ?_
  refine q_R.wk (ks := [5, 0, 1, 2, 3, 4]) (lo' := y_lo i) rfl ?_
  exact k _ _ _ A2 ⟨⟨_, J2⟩, (j_T_J J2).2⟩ (by omega) (by omega)
theorem y_k23 {Γ : q_Γ} (hG : q_GG Γ) {i : Nat} (hi : i + 6 ≤ Γ.2.2.2.1) (hL : Γ.2.2.2.1 ≤ 3072) {h : q_F} (hA : q_Al 0 155 h) (J : t_J h) (E : h 1 1 = h 139 14) {cl sl : Nat} (hc : cl ≤ 3900) (hs : sl ≤ 39000) (k : y_K Γ i cl sl) : q_R Γ q_K 155 368 y_P (1018, y_lo i, [], q_hp q_K 155 h, [], cl, sl) := by
  obtain ⟨S, J⟩ := J
  refine r_aload_n c368_1018 rfl rfl ?_
  refine y_arg c368_1019 c368_1020 c368_1022 c368_1023 c368_1024 rfl rfl rfl hi hL (by decide) ?_
  refine y_arg c368_1025 c368_1026 c368_1028 c368_1029 c368_1030 rfl rfl rfl hi hL (by decide) ?_
  refine r_aload_n c368_1031 rfl rfl ?_
  obtain ⟨v1, g1, e1, J1⟩ := t_L29 (v1 := (Γ.1 (i + 1))) (v2 := (Γ.1 (i + 2))) hA J
  refine y_cs (a := 2) (b := 12) c368_1032 rfl rfl (by omega) (by omega) rfl rfl (wn29 hG (hG.1 (i + 1)) (hG.1 (i + 2)) hA e1) ?_
  intro i1 A1
  refine r_istore c368_1035 (lo' := [(6, (0, v1)), (5, (0, (i : Int))), (0, (9, 0)), (1, (2, Int.ofNat 0)), (2, (2, Int.ofNat 139)), (3, (2, Int.ofNat 153)), (4, (2, Int.ofNat 154))]) rfl rfl rfl ?_
  refine r_aload_n c368_1037 rfl rfl ?_
  refine y_arg c368_1038 c368_1039 c368_1041 c368_1042 c368_1043 rfl rfl rfl hi hL (by decide) ?_
  refine y_arg c368_1044 c368_1045 c368_1047 c368_1048 c368_1049 rfl rfl rfl hi hL (by decide) ?_
  obtain ⟨v2, g2, e2, J2⟩ := t_r_speed (m := (Γ.1 (i + 1))) (k := (Γ.1 (i + 2))) A1 J1
  refine y_cv (a := 0) (b := 0) c368_1050 (by decide) rfl rfl rfl rfl (by omega) (by omega) rfl rfl (wn337 hG (hG.1 (i + 1)) (hG.1 (i + 2)) A1 e2) ?_
  intro i2 A2
  refine r_istore c368_1053 (lo' := [(7, (0, v2)), (6, (0, v1)), (5, (0, (i : Int))), (0, (9, 0)), (1, (2, Int.ofNat 0)), (2, (2, Int.ofNat 139)), (3, (2, Int.ofNat 153)), (4, (2, Int.ofNat 154))]) rfl rfl rfl ?_
  refine r_goto c368_1055 ?_
  refine q_R.wk (ks := [5, 0, 1, 2, 3, 4]) (lo' := y_lo i) rfl ?_
  exact k _ _ _ A2 ⟨⟨_, J2⟩, (j_T_J J2).2⟩ (by omega) (by omega)
end -- [99cc.law]
section -- [99cd.law]
/-! Part 99cd: cases of the law. Printed by wip/tools/genlaw.py. -/
theorem y_k24 {Γ : q_Γ} (hG : q_GG Γ) {i : Nat} (hi : i + 6 ≤ Γ.2.2.2.1) (hL : Γ.2.2.2.1 ≤ 3072) {h : q_F} (hA : q_Al 0 155 h) (J : t_J h) (E : h 1 1 = h 139 14) {cl sl : Nat} (hc : cl ≤ 3900) (hs : sl ≤ 39000) (k : y_K Γ i cl sl) : q_R Γ q_K 155 368 y_P (1058, y_lo i, [], q_hp q_K 155 h, [], cl, sl) := by
  obtain ⟨S, J⟩ := J
  refine r_aload_n c368_1058 rfl rfl ?_
  refine y_arg c368_1059 c368_1060 c368_1062 c368_1063 c368_1064 rfl rfl rfl hi hL (by decide) ?_
  refine y_arg c368_1065 c368_1066 c368_1068 c368_1069 c368_1070 rfl rfl rfl hi hL (by decide) ?_
  refine y_arg c368_1071 c368_1072 c368_1074 c368_1075 c368_1076 rfl rfl rfl hi hL (by decide) ?_
  refine r_aload_n c368_1077 rfl rfl ?_
  obtain ⟨v1, g1, e1, J1⟩ := t_L30 (v1 := (Γ.1 (i + 1))) (v2 := (Γ.1 (i + 2))) (v3 := (Γ.1 (i + 3))) hA J
  refine y_cs (a := 3) (b := 18) c368_1078 rfl rfl (by omega) (by omega) rfl rfl (wn30 hG (hG.1 (i + 1)) (hG.1 (i + 2)) (hG.1 (i + 3)) hA e1) ?_
  intro i1 A1
  refine r_istore c368_1081 (lo' := [(6, (0, v1)), (5, (0, (i : Int))), (0, (9, 0)), (1, (2, Int.ofNat 0)), (2, (2, Int.ofNat 139)), (3, (2, Int.ofNat 153)), (4, (2, Int.ofNat 154))]) rfl rfl rfl ?_
  refine r_aload_n c368_1083 rfl rfl ?_
  refine y_arg c368_1084 c368_1085 c368_1087 c368_1088 c368_1089 rfl rfl rfl hi hL (by decide) ?_
  refine y_arg c368_1090 c368_1091 c368_1093 c368_1094 c368_1095 rfl rfl rfl hi hL (by decide) ?_
  refine y_arg c368_1096 c368_1097 c368_1099 c368_1100 c368_1101 rfl rfl rfl hi hL (by decide) ?_
  obtain ⟨v2, g2, e2, J2⟩ := t_r_behind (m := (Γ.1 (i + 1))) (a := (Γ.1 (i + 2))) (k := (Γ.1 (i + 3))) A1 J1
  refine y_cv (a := 0) (b := 0) c368_1102 (by decide) rfl rfl rfl rfl (by omega) (by omega) rfl rfl (wn341 hG (hG.1 (i + 1)) (hG.1 (i + 2)) (hG.1 (i + 3)) A1 e2) ?_
  intro i2 A2
  refine r_istore c368_1105 (lo' := [(7, (0, v2)), (6, (0, v1)), (5, (0, (i : Int))), (0, (9, 0)), (1, (2, Int.ofNat 0)), (2, (2, Int.ofNat 139)), (3, (2, Int.ofNat 153)), (4, (2, Int.ofNat 154))]) rfl rfl rfl ?_
  refine r_goto c368_1107 ?_
  refine q_R.wk (ks := [5, 0, 1, 2, 3, 4]) (lo' := y_lo i) rfl ?_
  exact k _ _ _ A2 ⟨⟨_, J2⟩, (j_T_J J2).2⟩ (by omega) (by omega)
theorem y_k25 {Γ : q_Γ} (hG : q_GG Γ) {i : Nat} (hi : i + 6 ≤ Γ.2.2.2.1) (hL : Γ.2.2.2.1 ≤ 3072) {h : q_F} (hA : q_Al 0 155 h) (J : t_J h) (E : h 1 1 = h 139 14) {cl sl : Nat} (hc : cl ≤ 3900) (hs : sl ≤ 39000) (k : y_K Γ i cl sl) : q_R Γ q_K 155 368 y_P (1110, y_lo i, [], q_hp q_K 155 h, [], cl, sl) := by
  obtain ⟨S, J⟩ := J
  refine r_aload_n c368_1110 rfl rfl ?_
  refine y_arg c368_1111 c368_1112 c368_1114 c368_1115 c368_1116 rfl rfl rfl hi hL (by decide) ?_
  refine r_aload c368_1117 rfl rfl ?_
  obtain ⟨v1, g1, e1, J1⟩ := t_L6 (v1 := (Γ.1 (i + 1))) hA J
  refine y_cs (a := 1) (b := 6) c368_1119 rfl rfl (by omega) (by omega) rfl rfl (wn6 hG (hG.1 (i + 1)) hA e1) ?_
  intro i1 A1
  refine r_istore c368_1122 (lo' := [(6, (0, v1)), (5, (0, (i : Int))), (0, (9, 0)), (1, (2, Int.ofNat 0)), (2, (2, Int.ofNat 139)), (3, (2, Int.ofNat 153)), (4, (2, Int.ofNat 154))]) rfl rfl rfl ?_
  refine r_aload_n c368_1124 rfl rfl ?_
  refine y_arg c368_1125 c368_1126 c368_1128 c368_1129 c368_1130 rfl rfl rfl hi hL (by decide) ?_
  obtain ⟨v2, g2, e2, J2⟩ := t_r_dev (m := (Γ.1 (i + 1))) A1 J1
  refine y_cv (a := 0) (b := 0) c368_1131 (by decide) rfl rfl rfl rfl (by omega) (by omega) rfl rfl (wn251 hG (hG.1 (i + 1)) A1 e2) ?_
  intro i2 A2
  refine r_fstore c368_1134 (lo' := [(7, (4, v2)), (6, (0, v1)), (5, (0, (i : Int))), (0, (9, 0)), (1, (2, Int.ofNat 0)), (2, (2, Int.ofNat 139)), (3, (2, Int.ofNat 153)), (4, (2, Int.ofNat 154))]) rfl rfl rfl ?_
  refine r_goto c368_1136 ?_
  refine q_R.wk (ks := [5, 0, 1, 2, 3, 4]) (lo' := y_lo i) rfl ?_
  exact k _ _ _ A2 ⟨⟨_, J2⟩, (j_T_J J2).2⟩ (by omega) (by omega)
theorem y_k26 {Γ : q_Γ} (hG : q_GG Γ) {i : Nat} (hi : i + 6 ≤ Γ.2.2.2.1) (hL : Γ.2.2.2.1 ≤ 3072) {h : q_F} (hA : q_Al 0 155 h) (J : t_J h) (E : h 1 1 = h 139 14) {cl sl : Nat} (hc : cl ≤ 3900) (hs : sl ≤ 39000) (k : y_K Γ i cl sl) : q_R Γ q_K 155 368 y_P (1139, y_lo i, [], q_hp q_K 155 h, [], cl, sl) := by
  obtain ⟨S, J⟩ := J
  refine r_aload_n c368_1139 rfl rfl ?_
  refine r_aload_n c368_1140 rfl rfl ?_
  obtain ⟨v1, g1, e1, J1⟩ := t_L10  hA J
  refine y_cs (a := 2) (b := 12) c368_1141 rfl rfl (by omega) (by omega) rfl rfl (wn10 hG  hA e1) ?_
  intro i1 A1
  refine r_istore c368_1144 (lo' := [(6, (0, v1)), (5, (0, (i : Int))), (0, (9, 0)), (1, (2, Int.ofNat 0)), (2, (2, Int.ofNat 139)), (3, (2, Int.ofNat 153)), (4, (2, Int.ofNat 154))]) rfl rfl rfl ?_
  refine r_aload_n c368_1146 rfl rfl ?_
  obtain ⟨v2, g2, e2, J2⟩ := t_r_homeAllC  A1 J1
  refine y_cv (a := 0) (b := 0) c368_1147 (by decide) rfl rfl rfl rfl (by omega) (by omega) rfl rfl (wn264 hG  A1 e2) ?_
  intro i2 A2
  refine r_istore c368_1150 (lo' := [(7, (0, v2)), (6, (0, v1)), (5, (0, (i : Int))), (0, (9, 0)), (1, (2, Int.ofNat 0)), (2, (2, Int.ofNat 139)), (3, (2, Int.ofNat 153)), (4, (2, Int.ofNat 154))]) rfl rfl rfl ?_
  refine r_goto c368_1152 ?_
  refine q_R.wk (ks := [5, 0, 1, 2, 3, 4]) (lo' := y_lo i) rfl ?_
  exact k _ _ _ A2 ⟨⟨_, J2⟩, (j_T_J J2).2⟩ (by omega) (by omega)
theorem y_k27 {Γ : q_Γ} (hG : q_GG Γ) {i : Nat} (hi : i + 6 ≤ Γ.2.2.2.1) (hL : Γ.2.2.2.1 ≤ 3072) {h : q_F} (hA : q_Al 0 155 h) (J : t_J h) (E : h 1 1 = h 139 14) {cl sl : Nat} (hc : cl ≤ 3900) (hs : sl ≤ 39000) (k : y_K Γ i cl sl) : q_R Γ q_K 155 368 y_P (1155, y_lo i, [], q_hp q_K 155 h, [], cl, sl) := by
  obtain ⟨S, J⟩ := J
  refine r_aload_n c368_1155 rfl rfl ?_
  obtain ⟨v1, g1, e1, J1⟩ := t_c_runAll  hA J
  refine y_cv (a := 0) (b := 0) c368_1156 (by decide) rfl rfl rfl rfl (by omega) (by omega) rfl rfl (wn208 hG  hA e1) ?_
  intro i1 A1
  refine r_pop c368_1159 rfl rfl ?_
  refine r_aload_n c368_1160 rfl rfl ?_
  obtain ⟨v2, g2, e2, J2⟩ := t_r_runAll  A1 J1
  refine y_cv (a := 0) (b := 0) c368_1161 (by decide) rfl rfl rfl rfl (by omega) (by omega) rfl rfl (wn325 hG  A1 e2) ?_
  intro i2 A2
  refine r_pop c368_1164 rfl rfl ?_
  refine r_goto c368_1165 ?_
  refine q_R.wk (ks := [5, 0, 1, 2, 3, 4]) (lo' := y_lo i) rfl ?_
  exact k _ _ _ A2 ⟨⟨_, J2⟩, (j_T_J J2).2⟩ (by omega) (by omega)
theorem y_k28 {Γ : q_Γ} (hG : q_GG Γ) {i : Nat} (hi : i + 6 ≤ Γ.2.2.2.1) (hL : Γ.2.2.2.1 ≤ 3072) {h : q_F} (hA : q_Al 0 155 h) (J : t_J h) (E : h 1 1 = h 139 14) {cl sl : Nat} (hc : cl ≤ 3900) (hs : sl ≤ 39000) (k : y_K Γ i cl sl) : q_R Γ q_K 155 368 y_P (1168, y_lo i, [], q_hp q_K 155 h, [], cl, sl) := by
  obtain ⟨S, J⟩ := J
  refine r_aload_n c368_1168 rfl rfl ?_
  refine y_arg c368_1169 c368_1170 c368_1172 c368_1173 c368_1174 rfl rfl rfl hi hL (by decide) ?_
  refine y_arg c368_1175 c368_1176 c368_1178 c368_1179 c368_1180 rfl rfl rfl hi hL (by decide) ?_
  refine y_arg c368_1181 c368_1182 c368_1184 c368_1185 c368_1186 rfl rfl rfl hi hL (by decide) ?_
  refine y_arg c368_1187 c368_1188 c368_1190 c368_1191 c368_1192 rfl rfl rfl hi hL (by decide) ?_
  refine r_aload_n c368_1193 rfl rfl ?_
  obtain ⟨v1, g1, e1, J1⟩ := t_L11 (v1 := (Γ.1 (i + 1))) (v2 := (Γ.1 (i + 2))) (v3 := (Γ.1 (i + 3))) (v4 := (Γ.1 (i + 4))) hA J
  refine y_cs (a := 6) (b := 36) c368_1194 rfl rfl (by omega) (by omega) rfl rfl (wn11 hG (hG.1 (i + 1)) (hG.1 (i + 2)) (hG.1 (i + 3)) (hG.1 (i + 4)) hA e1) ?_
  intro i1 A1
  refine r_istore c368_1197 (lo' := [(6, (0, v1)), (5, (0, (i : Int))), (0, (9, 0)), (1, (2, Int.ofNat 0)), (2, (2, Int.ofNat 139)), (3, (2, Int.ofNat 153)), (4, (2, Int.ofNat 154))]) rfl rfl rfl ?_
  refine r_aload_n c368_1199 rfl rfl ?_
  refine y_arg c368_1200 c368_1201 c368_1203 c368_1204 c368_1205 rfl rfl rfl hi hL (by decide) ?_
  refine y_arg c368_1206 c368_1207 c368_1209 c368_1210 c368_1211 rfl rfl rfl hi hL (by decide) ?_
  refine y_arg c368_1212 c368_1213 c368_1215 c368_1216 c368_1217 rfl rfl rfl hi hL (by decide) ?_
  refine y_arg c368_1218 c368_1219 c368_1221 c368_1222 c368_1223 rfl rfl rfl hi hL (by decide) ?_
  obtain ⟨v2, g2, e2, J2⟩ := t_r_insertC (i := (Γ.1 (i + 1))) (x := (Γ.1 (i + 2))) (y := (Γ.1 (i + 3))) (z := (Γ.1 (i + 4))) A1 J1
  refine y_cv (a := 0) (b := 0) c368_1224 (by decide) rfl rfl rfl rfl (by omega) (by omega) rfl rfl (wn269 hG (hG.1 (i + 1)) (hG.1 (i + 2)) (hG.1 (i + 3)) (hG.1 (i + 4)) A1 e2) ?_
  intro i2 A2
  refine r_istore c368_1227 (lo' := [(7, (0, v2)), (6, (0, v1)), (5, (0, (i : Int))), (0, (9, 0)), (1, (2, Int.ofNat 0)), (2, (2, Int.ofNat 139)), (3, (2, Int.ofNat 153)), (4, (2, Int.ofNat 154))]) rfl rfl rfl ?_
  refine r_goto c368_1229 ?_
  refine q_R.wk (ks := [5, 0, 1, 2, 3, 4]) (lo' := y_lo i) rfl ?_
  exact k _ _ _ A2 ⟨⟨_, J2⟩, (j_T_J J2).2⟩ (by omega) (by omega)
theorem y_k29 {Γ : q_Γ} (hG : q_GG Γ) {i : Nat} (hi : i + 6 ≤ Γ.2.2.2.1) (hL : Γ.2.2.2.1 ≤ 3072) {h : q_F} (hA : q_Al 0 155 h) (J : t_J h) (E : h 1 1 = h 139 14) {cl sl : Nat} (hc : cl ≤ 3900) (hs : sl ≤ 39000) (k : y_K Γ i cl sl) : q_R Γ q_K 155 368 y_P (1232, y_lo i, [], q_hp q_K 155 h, [], cl, sl) := by
  obtain ⟨S, J⟩ := J
  refine r_aload_n c368_1232 rfl rfl ?_
  refine y_arg c368_1233 c368_1234 c368_1236 c368_1237 c368_1238 rfl rfl rfl hi hL (by decide) ?_
  refine r_aload_n c368_1239 rfl rfl ?_
  obtain ⟨v1, g1, e1, J1⟩ := t_L7 (v1 := (Γ.1 (i + 1))) hA J
  refine y_cs (a := 2) (b := 12) c368_1240 rfl rfl (by omega) (by omega) rfl rfl (wn7 hG (hG.1 (i + 1)) hA e1) ?_
  intro i1 A1
  refine r_istore c368_1243 (lo' := [(6, (0, v1)), (5, (0, (i : Int))), (0, (9, 0)), (1, (2, Int.ofNat 0)), (2, (2, Int.ofNat 139)), (3, (2, Int.ofNat 153)), (4, (2, Int.ofNat 154))]) rfl rfl rfl ?_
  refine r_aload_n c368_1245 rfl rfl ?_
  refine y_arg c368_1246 c368_1247 c368_1249 c368_1250 c368_1251 rfl rfl rfl hi hL (by decide) ?_
  obtain ⟨v2, g2, e2, J2⟩ := t_r_dropC (m := (Γ.1 (i + 1))) A1 J1
  refine y_cv (a := 0) (b := 0) c368_1252 (by decide) rfl rfl rfl rfl (by omega) (by omega) rfl rfl (wn252 hG (hG.1 (i + 1)) A1 e2) ?_
  intro i2 A2
  refine r_istore c368_1255 (lo' := [(7, (0, v2)), (6, (0, v1)), (5, (0, (i : Int))), (0, (9, 0)), (1, (2, Int.ofNat 0)), (2, (2, Int.ofNat 139)), (3, (2, Int.ofNat 153)), (4, (2, Int.ofNat 154))]) rfl rfl rfl ?_
  refine r_goto c368_1257 ?_
  refine q_R.wk (ks := [5, 0, 1, 2, 3, 4]) (lo' := y_lo i) rfl ?_
  exact k _ _ _ A2 ⟨⟨_, J2⟩, (j_T_J J2).2⟩ (by omega) (by omega)
theorem y_k30 {Γ : q_Γ} (hG : q_GG Γ) {i : Nat} (hi : i + 6 ≤ Γ.2.2.2.1) (hL : Γ.2.2.2.1 ≤ 3072) {h : q_F} (hA : q_Al 0 155 h) (J : t_J h) (E : h 1 1 = h 139 14) {cl sl : Nat} (hc : cl ≤ 3900) (hs : sl ≤ 39000) (k : y_K Γ i cl sl) : q_R Γ q_K 155 368 y_P (1260, y_lo i, [], q_hp q_K 155 h, [], cl, sl) := by
  obtain ⟨S, J⟩ := J
  refine r_aload_n c368_1260 rfl rfl ?_
  refine y_arg c368_1261 c368_1262 c368_1264 c368_1265 c368_1266 rfl rfl rfl hi hL (by decide) ?_
  refine y_arg c368_1267 c368_1268 c368_1270 c368_1271 c368_1272 rfl rfl rfl hi hL (by decide) ?_
  refine r_aload_n c368_1273 rfl rfl ?_
  obtain ⟨v1, g1, e1, J1⟩ := t_L32 (v1 := (Γ.1 (i + 1))) (v2 := (Γ.1 (i + 2))) hA J
  refine y_cs (a := 3) (b := 18) c368_1274 rfl rfl (by omega) (by omega) rfl rfl (wn32 hG (hG.1 (i + 1)) (hG.1 (i + 2)) hA e1) ?_
  intro i1 A1
  refine r_istore c368_1277 (lo' := [(6, (0, v1)), (5, (0, (i : Int))), (0, (9, 0)), (1, (2, Int.ofNat 0)), (2, (2, Int.ofNat 139)), (3, (2, Int.ofNat 153)), (4, (2, Int.ofNat 154))]) rfl rfl rfl ?_
  refine r_aload_n c368_1279 rfl rfl ?_
  refine y_arg c368_1280 c368_1281 c368_1283 c368_1284 c368_1285 rfl rfl rfl hi hL (by decide) ?_
  refine y_arg c368_1286 c368_1287 c368_1289 c368_1290 c368_1291 rfl rfl rfl hi hL (by decide) ?_
  obtain ⟨v2, g2, e2, J2⟩ := t_r_swapC (m := (Γ.1 (i + 1))) (o := (Γ.1 (i + 2))) A1 J1
  refine y_cv (a := 0) (b := 0) c368_1292 (by decide) rfl rfl rfl rfl (by omega) (by omega) rfl rfl (wn346 hG (hG.1 (i + 1)) (hG.1 (i + 2)) A1 e2) ?_
  intro i2 A2
  refine r_istore c368_1295 (lo' := [(7, (0, v2)), (6, (0, v1)), (5, (0, (i : Int))), (0, (9, 0)), (1, (2, Int.ofNat 0)), (2, (2, Int.ofNat 139)), (3, (2, Int.ofNat 153)), (4, (2, Int.ofNat 154))]) rfl rfl rfl ?_
  refine r_goto c368_1297 ?_
  refine q_R.wk (ks := [5, 0, 1, 2, 3, 4]) (lo' := y_lo i) rfl ?_
  exact k _ _ _ A2 ⟨⟨_, J2⟩, (j_T_J J2).2⟩ (by omega) (by omega)
theorem y_k31 {Γ : q_Γ} (hG : q_GG Γ) {i : Nat} (hi : i + 6 ≤ Γ.2.2.2.1) (hL : Γ.2.2.2.1 ≤ 3072) {h : q_F} (hA : q_Al 0 155 h) (J : t_J h) (E : h 1 1 = h 139 14) {cl sl : Nat} (hc : cl ≤ 3900) (hs : sl ≤ 39000) (k : y_K Γ i cl sl) : q_R Γ q_K 155 368 y_P (1300, y_lo i, [], q_hp q_K 155 h, [], cl, sl) := by
  obtain ⟨S, J⟩ := J
  refine r_aload_n c368_1300 rfl rfl ?_
  refine y_arg c368_1301 c368_1302 c368_1304 c368_1305 c368_1306 rfl rfl rfl hi hL (by decide) ?_
  refine y_arg c368_1307 c368_1308 c368_1310 c368_1311 c368_1312 rfl rfl rfl hi hL (by decide) ?_
  refine y_arg c368_1313 c368_1314 c368_1316 c368_1317 c368_1318 rfl rfl rfl hi hL (by decide) ?_
  refine r_aload_n c368_1319 rfl rfl ?_
  obtain ⟨v1, g1, e1, J1⟩ := t_L19 (v1 := (Γ.1 (i + 1))) (v2 := (Γ.1 (i + 2))) (v3 := (Γ.1 (i + 3))) hA J
  refine y_cs (a := 3) (b := 18) c368_1320 rfl rfl (by omega) (by omega) rfl rfl (wn19 hG (hG.1 (i + 1)) (hG.1 (i + 2)) (hG.1 (i + 3)) hA e1) ?_
  intro i1 A1
  refine r_istore c368_1323 (lo' := [(6, (0, v1)), (5, (0, (i : Int))), (0, (9, 0)), (1, (2, Int.ofNat 0)), (2, (2, Int.ofNat 139)), (3, (2, Int.ofNat 153)), (4, (2, Int.ofNat 154))]) rfl rfl rfl ?_
  refine r_aload_n c368_1325 rfl rfl ?_
  refine y_arg c368_1326 c368_1327 c368_1329 c368_1330 c368_1331 rfl rfl rfl hi hL (by decide) ?_
  refine y_arg c368_1332 c368_1333 c368_1335 c368_1336 c368_1337 rfl rfl rfl hi hL (by decide) ?_
  refine y_arg c368_1338 c368_1339 c368_1341 c368_1342 c368_1343 rfl rfl rfl hi hL (by decide) ?_
  obtain ⟨v2, g2, e2, J2⟩ := t_r_pointAt (m := (Γ.1 (i + 1))) (a := (Γ.1 (i + 2))) (k := (Γ.1 (i + 3))) A1 J1
  refine y_cv (a := 0) (b := 0) c368_1344 (by decide) rfl rfl rfl rfl (by omega) (by omega) rfl rfl (wn306 hG (hG.1 (i + 1)) (hG.1 (i + 2)) (hG.1 (i + 3)) A1 e2) ?_
  intro i2 A2
  refine r_istore c368_1347 (lo' := [(7, (0, v2)), (6, (0, v1)), (5, (0, (i : Int))), (0, (9, 0)), (1, (2, Int.ofNat 0)), (2, (2, Int.ofNat 139)), (3, (2, Int.ofNat 153)), (4, (2, Int.ofNat 154))]) rfl rfl rfl ?_
  refine r_goto c368_1349 ?_
  refine q_R.wk (ks := [5, 0, 1, 2, 3, 4]) (lo' := y_lo i) rfl ?_
  exact k _ _ _ A2 ⟨⟨_, J2⟩, (j_T_J J2).2⟩ (by omega) (by omega)
end -- [99cd.law]
section -- [99ce.law]
/-! Part 99ce: cases of the law. Printed by wip/tools/genlaw.py. -/
theorem y_k32 {Γ : q_Γ} (hG : q_GG Γ) {i : Nat} (hi : i + 6 ≤ Γ.2.2.2.1) (hL : Γ.2.2.2.1 ≤ 3072) {h : q_F} (hA : q_Al 0 155 h) (J : t_J h) (E : h 1 1 = h 139 14) {cl sl : Nat} (hc : cl ≤ 3900) (hs : sl ≤ 39000) (k : y_K Γ i cl sl) : q_R Γ q_K 155 368 y_P (1352, y_lo i, [], q_hp q_K 155 h, [], cl, sl) := by
  obtain ⟨S, J⟩ := J
  refine r_aload_n c368_1352 rfl rfl ?_
  refine y_arg c368_1353 c368_1354 c368_1356 c368_1357 c368_1358 rfl rfl rfl hi hL (by decide) ?_
  refine y_arg c368_1359 c368_1360 c368_1362 c368_1363 c368_1364 rfl rfl rfl hi hL (by decide) ?_
  refine y_nz c368_1365 c368_1368 c368_1369 c368_1372 rfl (hG.1 (i + 2)) ?_
  refine r_aload_n c368_1373 rfl rfl ?_
  obtain ⟨v1, g1, e1, J1⟩ := t_L21 (v1 := (Γ.1 (i + 1))) (v2 := (y_nzv (Γ.1 (i + 2)))) hA J
  refine y_cs (a := 1) (b := 6) c368_1374 rfl rfl (by omega) (by omega) rfl rfl (wn21 hG (hG.1 (i + 1)) (y_nz01 (Γ.1 (i + 2))) hA e1) ?_
  intro i1 A1
  refine r_istore c368_1377 (lo' := [(6, (0, v1)), (5, (0, (i : Int))), (0, (9, 0)), (1, (2, Int.ofNat 0)), (2, (2, Int.ofNat 139)), (3, (2, Int.ofNat 153)), (4, (2, Int.ofNat 154))]) rfl rfl rfl ?_
  refine r_aload_n c368_1379 rfl rfl ?_
  refine y_arg c368_1380 c368_1381 c368_1383 c368_1384 c368_1385 rfl rfl rfl hi hL (by decide) ?_
  refine y_arg c368_1386 c368_1387 c368_1389 c368_1390 c368_1391 rfl rfl rfl hi hL (by decide) ?_
  refine y_nz c368_1392 c368_1395 c368_1396 c368_1399 rfl (hG.1 (i + 2)) ?_
  obtain ⟨v2, g2, e2, J2⟩ := t_r_ramp (m := (Γ.1 (i + 1))) (v := (y_nzv (Γ.1 (i + 2)))) A1 J1
  refine y_cv (a := 0) (b := 0) c368_1400 (by decide) rfl rfl rfl rfl (by omega) (by omega) rfl rfl (wn313 hG (hG.1 (i + 1)) (y_nz01 (Γ.1 (i + 2))) A1 e2) ?_
  intro i2 A2
  refine r_istore c368_1403 (lo' := [(7, (0, v2)), (6, (0, v1)), (5, (0, (i : Int))), (0, (9, 0)), (1, (2, Int.ofNat 0)), (2, (2, Int.ofNat 139)), (3, (2, Int.ofNat 153)), (4, (2, Int.ofNat 154))]) rfl rfl rfl ?_
  refine r_goto c368_1405 ?_
  refine q_R.wk (ks := [5, 0, 1, 2, 3, 4]) (lo' := y_lo i) rfl ?_
  exact k _ _ _ A2 ⟨⟨_, J2⟩, (j_T_J J2).2⟩ (by omega) (by omega)
theorem y_k33 {Γ : q_Γ} (hG : q_GG Γ) {i : Nat} (hi : i + 6 ≤ Γ.2.2.2.1) (hL : Γ.2.2.2.1 ≤ 3072) {h : q_F} (hA : q_Al 0 155 h) (J : t_J h) (E : h 1 1 = h 139 14) {cl sl : Nat} (hc : cl ≤ 3900) (hs : sl ≤ 39000) (k : y_K Γ i cl sl) : q_R Γ q_K 155 368 y_P (1408, y_lo i, [], q_hp q_K 155 h, [], cl, sl) := by
  obtain ⟨S, J⟩ := J
  refine r_aload_n c368_1408 rfl rfl ?_
  refine y_arg c368_1409 c368_1410 c368_1412 c368_1413 c368_1414 rfl rfl rfl hi hL (by decide) ?_
  refine r_aload_n c368_1415 rfl rfl ?_
  obtain ⟨v1, g1, e1, J1⟩ := t_L28 (v1 := (Γ.1 (i + 1))) hA J
  refine y_cs (a := 1) (b := 6) c368_1416 rfl rfl (by omega) (by omega) rfl rfl (wn28 hG (hG.1 (i + 1)) hA e1) ?_
  intro i1 A1
  refine r_istore c368_1419 (lo' := [(6, (0, v1)), (5, (0, (i : Int))), (0, (9, 0)), (1, (2, Int.ofNat 0)), (2, (2, Int.ofNat 139)), (3, (2, Int.ofNat 153)), (4, (2, Int.ofNat 154))]) rfl rfl rfl ?_
  refine r_aload_n c368_1421 rfl rfl ?_
  refine y_arg c368_1422 c368_1423 c368_1425 c368_1426 c368_1427 rfl rfl rfl hi hL (by decide) ?_
  obtain ⟨v2, g2, e2, J2⟩ := t_r_slowest (m := (Γ.1 (i + 1))) A1 J1
  refine y_cv (a := 0) (b := 0) c368_1428 (by decide) rfl rfl rfl rfl (by omega) (by omega) rfl rfl (wn336 hG (hG.1 (i + 1)) A1 e2) ?_
  intro i2 A2
  refine r_istore c368_1431 (lo' := [(7, (0, v2)), (6, (0, v1)), (5, (0, (i : Int))), (0, (9, 0)), (1, (2, Int.ofNat 0)), (2, (2, Int.ofNat 139)), (3, (2, Int.ofNat 153)), (4, (2, Int.ofNat 154))]) rfl rfl rfl ?_
  refine r_goto c368_1433 ?_
  refine q_R.wk (ks := [5, 0, 1, 2, 3, 4]) (lo' := y_lo i) rfl ?_
  exact k _ _ _ A2 ⟨⟨_, J2⟩, (j_T_J J2).2⟩ (by omega) (by omega)
theorem y_k34 {Γ : q_Γ} (hG : q_GG Γ) {i : Nat} (hi : i + 6 ≤ Γ.2.2.2.1) (hL : Γ.2.2.2.1 ≤ 3072) {h : q_F} (hA : q_Al 0 155 h) (J : t_J h) (E : h 1 1 = h 139 14) {cl sl : Nat} (hc : cl ≤ 3900) (hs : sl ≤ 39000) (k : y_K Γ i cl sl) : q_R Γ q_K 155 368 y_P (1436, y_lo i, [], q_hp q_K 155 h, [], cl, sl) := by
  obtain ⟨S, J⟩ := J
  refine r_aload_n c368_1436 rfl rfl ?_
  obtain ⟨v1, g1, e1, J1⟩ := t_c_pairs  hA J
  refine y_cv (a := 0) (b := 0) c368_1437 (by decide) rfl rfl rfl rfl (by omega) (by omega) rfl rfl (wn218 hG  hA e1) ?_
  intro i1 A1
  refine r_pop c368_1440 rfl rfl ?_
  refine r_aload_n c368_1441 rfl rfl ?_
  obtain ⟨v2, g2, e2, J2⟩ := t_r_pairs  A1 J1
  refine y_cv (a := 0) (b := 0) c368_1442 (by decide) rfl rfl rfl rfl (by omega) (by omega) rfl rfl (wn344 hG  A1 e2) ?_
  intro i2 A2
  refine r_pop c368_1445 rfl rfl ?_
  refine r_goto c368_1446 ?_
  refine q_R.wk (ks := [5, 0, 1, 2, 3, 4]) (lo' := y_lo i) rfl ?_
  exact k _ _ _ A2 ⟨⟨_, J2⟩, (j_T_J J2).2⟩ (by omega) (by omega)
theorem y_k35 {Γ : q_Γ} (hG : q_GG Γ) {i : Nat} (hi : i + 6 ≤ Γ.2.2.2.1) (hL : Γ.2.2.2.1 ≤ 3072) {h : q_F} (hA : q_Al 0 155 h) (J : t_J h) (E : h 1 1 = h 139 14) {cl sl : Nat} (hc : cl ≤ 3900) (hs : sl ≤ 39000) (k : y_K Γ i cl sl) : q_R Γ q_K 155 368 y_P (1449, y_lo i, [], q_hp q_K 155 h, [], cl, sl) := by
  obtain ⟨S, J⟩ := J
  refine r_aload_n c368_1449 rfl rfl ?_
  refine y_arg c368_1450 c368_1451 c368_1453 c368_1454 c368_1455 rfl rfl rfl hi hL (by decide) ?_
  refine y_arg c368_1456 c368_1457 c368_1459 c368_1460 c368_1461 rfl rfl rfl hi hL (by decide) ?_
  refine y_nz c368_1462 c368_1465 c368_1466 c368_1469 rfl (hG.1 (i + 2)) ?_
  refine r_aload_n c368_1470 rfl rfl ?_
  obtain ⟨v1, g1, e1, J1⟩ := t_L3 (v1 := (Γ.1 (i + 1))) (v2 := (y_nzv (Γ.1 (i + 2)))) hA J
  refine y_cs (a := 2) (b := 12) c368_1471 rfl rfl (by omega) (by omega) rfl rfl (wn3 hG (hG.1 (i + 1)) (y_nz01 (Γ.1 (i + 2))) hA e1) ?_
  intro i1 A1
  refine r_istore c368_1474 (lo' := [(6, (0, v1)), (5, (0, (i : Int))), (0, (9, 0)), (1, (2, Int.ofNat 0)), (2, (2, Int.ofNat 139)), (3, (2, Int.ofNat 153)), (4, (2, Int.ofNat 154))]) rfl rfl rfl ?_
  refine r_aload_n c368_1476 rfl rfl ?_
  refine y_arg c368_1477 c368_1478 c368_1480 c368_1481 c368_1482 rfl rfl rfl hi hL (by decide) ?_
  refine y_arg c368_1483 c368_1484 c368_1486 c368_1487 c368_1488 rfl rfl rfl hi hL (by decide) ?_
  refine y_nz c368_1489 c368_1492 c368_1493 c368_1496 rfl (hG.1 (i + 2)) ?_
  obtain ⟨v2, g2, e2, J2⟩ := t_r_bound (a := (Γ.1 (i + 1))) (u := (y_nzv (Γ.1 (i + 2)))) A1 J1
  refine y_cv (a := 0) (b := 0) c368_1497 (by decide) rfl rfl rfl rfl (by omega) (by omega) rfl rfl (wn244 hG (hG.1 (i + 1)) (y_nz01 (Γ.1 (i + 2))) A1 e2) ?_
  intro i2 A2
  refine r_istore c368_1500 (lo' := [(7, (0, v2)), (6, (0, v1)), (5, (0, (i : Int))), (0, (9, 0)), (1, (2, Int.ofNat 0)), (2, (2, Int.ofNat 139)), (3, (2, Int.ofNat 153)), (4, (2, Int.ofNat 154))]) rfl rfl rfl ?_
  refine r_goto c368_1502 ?_
  refine q_R.wk (ks := [5, 0, 1, 2, 3, 4]) (lo' := y_lo i) rfl ?_
  exact k _ _ _ A2 ⟨⟨_, J2⟩, (j_T_J J2).2⟩ (by omega) (by omega)
theorem y_k36 {Γ : q_Γ} (hG : q_GG Γ) {i : Nat} (hi : i + 6 ≤ Γ.2.2.2.1) (hL : Γ.2.2.2.1 ≤ 3072) {h : q_F} (hA : q_Al 0 155 h) (J : t_J h) (E : h 1 1 = h 139 14) {cl sl : Nat} (hc : cl ≤ 3900) (hs : sl ≤ 39000) (k : y_K Γ i cl sl) : q_R Γ q_K 155 368 y_P (1505, y_lo i, [], q_hp q_K 155 h, [], cl, sl) := by
  obtain ⟨S, J⟩ := J
  refine r_aload_n c368_1505 rfl rfl ?_
  refine y_arg c368_1506 c368_1507 c368_1509 c368_1510 c368_1511 rfl rfl rfl hi hL (by decide) ?_
  refine y_arg c368_1512 c368_1513 c368_1515 c368_1516 c368_1517 rfl rfl rfl hi hL (by decide) ?_
  refine y_arg c368_1518 c368_1519 c368_1521 c368_1522 c368_1523 rfl rfl rfl hi hL (by decide) ?_
  obtain ⟨S1, hm1, hI1⟩ := ((j_T_J J).1).1
  obtain ⟨v1, e1⟩ := c_nearest (x := (Γ.1 (i + 1))) (y := (Γ.1 (i + 2))) (z := (Γ.1 (i + 3))) hI1 hm1
  refine y_cp (a := 0) (b := 0) c368_1524 (by decide) rfl rfl rfl rfl (by omega) (by omega) rfl rfl (wn192 hG (hG.1 (i + 1)) (hG.1 (i + 2)) (hG.1 (i + 3)) hA e1) ?_
  intro i1
  refine r_pop c368_1527 rfl rfl ?_
  refine r_aload_n c368_1528 rfl rfl ?_
  refine y_arg c368_1529 c368_1530 c368_1532 c368_1533 c368_1534 rfl rfl rfl hi hL (by decide) ?_
  refine y_arg c368_1535 c368_1536 c368_1538 c368_1539 c368_1540 rfl rfl rfl hi hL (by decide) ?_
  refine y_arg c368_1541 c368_1542 c368_1544 c368_1545 c368_1546 rfl rfl rfl hi hL (by decide) ?_
  obtain ⟨v2, g2, e2, J2⟩ := t_r_nearest (x := (Γ.1 (i + 1))) (y := (Γ.1 (i + 2))) (z := (Γ.1 (i + 3))) hA J
  refine y_cv (a := 0) (b := 0) c368_1547 (by decide) rfl rfl rfl rfl (by omega) (by omega) rfl rfl (wn295 hG (hG.1 (i + 1)) (hG.1 (i + 2)) (hG.1 (i + 3)) hA e2) ?_
  intro i2 A2
  refine r_pop c368_1550 rfl rfl ?_
  refine r_goto c368_1551 ?_
  refine q_R.wk (ks := [5, 0, 1, 2, 3, 4]) (lo' := y_lo i) rfl ?_
  exact k _ _ _ A2 ⟨⟨_, J2⟩, (j_T_J J2).2⟩ (by omega) (by omega)
theorem y_k37 {Γ : q_Γ} (hG : q_GG Γ) {i : Nat} (hi : i + 6 ≤ Γ.2.2.2.1) (hL : Γ.2.2.2.1 ≤ 3072) {h : q_F} (hA : q_Al 0 155 h) (J : t_J h) (E : h 1 1 = h 139 14) {cl sl : Nat} (hc : cl ≤ 3900) (hs : sl ≤ 39000) (k : y_K Γ i cl sl) : q_R Γ q_K 155 368 y_P (1554, y_lo i, [], q_hp q_K 155 h, [], cl, sl) := by
  obtain ⟨S, J⟩ := J
  refine r_aload_n c368_1554 rfl rfl ?_
  refine y_arg c368_1555 c368_1556 c368_1558 c368_1559 c368_1560 rfl rfl rfl hi hL (by decide) ?_
  refine r_aload_n c368_1561 rfl rfl ?_
  obtain ⟨v1, g1, e1, J1⟩ := t_L18 (v1 := (Γ.1 (i + 1))) hA J
  refine y_cs (a := 1) (b := 6) c368_1562 rfl rfl (by omega) (by omega) rfl rfl (wn18 hG (hG.1 (i + 1)) hA e1) ?_
  intro i1 A1
  refine r_istore c368_1565 (lo' := [(6, (0, v1)), (5, (0, (i : Int))), (0, (9, 0)), (1, (2, Int.ofNat 0)), (2, (2, Int.ofNat 139)), (3, (2, Int.ofNat 153)), (4, (2, Int.ofNat 154))]) rfl rfl rfl ?_
  refine r_aload_n c368_1567 rfl rfl ?_
  refine y_arg c368_1568 c368_1569 c368_1571 c368_1572 c368_1573 rfl rfl rfl hi hL (by decide) ?_
  obtain ⟨v2, g2, e2, J2⟩ := t_r_nord (i := (Γ.1 (i + 1))) A1 J1
  refine y_cv (a := 0) (b := 0) c368_1574 (by decide) rfl rfl rfl rfl (by omega) (by omega) rfl rfl (wn297 hG (hG.1 (i + 1)) A1 e2) ?_
  intro i2 A2
  refine r_istore c368_1577 (lo' := [(7, (0, v2)), (6, (0, v1)), (5, (0, (i : Int))), (0, (9, 0)), (1, (2, Int.ofNat 0)), (2, (2, Int.ofNat 139)), (3, (2, Int.ofNat 153)), (4, (2, Int.ofNat 154))]) rfl rfl rfl ?_
  refine r_goto c368_1579 ?_
  refine q_R.wk (ks := [5, 0, 1, 2, 3, 4]) (lo' := y_lo i) rfl ?_
  exact k _ _ _ A2 ⟨⟨_, J2⟩, (j_T_J J2).2⟩ (by omega) (by omega)
theorem y_k38 {Γ : q_Γ} (hG : q_GG Γ) {i : Nat} (hi : i + 6 ≤ Γ.2.2.2.1) (hL : Γ.2.2.2.1 ≤ 3072) {h : q_F} (hA : q_Al 0 155 h) (J : t_J h) (E : h 1 1 = h 139 14) {cl sl : Nat} (hc : cl ≤ 3900) (hs : sl ≤ 39000) (k : y_K Γ i cl sl) : q_R Γ q_K 155 368 y_P (1582, y_lo i, [], q_hp q_K 155 h, [], cl, sl) := by
  obtain ⟨S, J⟩ := J
  refine r_aload_n c368_1582 rfl rfl ?_
  refine y_arg c368_1583 c368_1584 c368_1586 c368_1587 c368_1588 rfl rfl rfl hi hL (by decide) ?_
  refine r_aload_n c368_1589 rfl rfl ?_
  obtain ⟨v1, g1, e1, J1⟩ := t_L13 (v1 := (Γ.1 (i + 1))) hA J
  refine y_cs (a := 1) (b := 6) c368_1590 rfl rfl (by omega) (by omega) rfl rfl (wn13 hG (hG.1 (i + 1)) hA e1) ?_
  intro i1 A1
  refine r_istore c368_1593 (lo' := [(6, (0, v1)), (5, (0, (i : Int))), (0, (9, 0)), (1, (2, Int.ofNat 0)), (2, (2, Int.ofNat 139)), (3, (2, Int.ofNat 153)), (4, (2, Int.ofNat 154))]) rfl rfl rfl ?_
  refine r_aload_n c368_1595 rfl rfl ?_
  refine y_arg c368_1596 c368_1597 c368_1599 c368_1600 c368_1601 rfl rfl rfl hi hL (by decide) ?_
  obtain ⟨v2, g2, e2, J2⟩ := t_r_lasts (m := (Γ.1 (i + 1))) A1 J1
  refine y_cv (a := 0) (b := 0) c368_1602 (by decide) rfl rfl rfl rfl (by omega) (by omega) rfl rfl (wn276 hG (hG.1 (i + 1)) A1 e2) ?_
  intro i2 A2
  refine r_lstore c368_1605 (lo' := [(7, (1, v2)), (6, (0, v1)), (5, (0, (i : Int))), (0, (9, 0)), (1, (2, Int.ofNat 0)), (2, (2, Int.ofNat 139)), (3, (2, Int.ofNat 153)), (4, (2, Int.ofNat 154))]) rfl rfl rfl ?_
  refine r_goto c368_1607 ?_
  refine q_R.wk (ks := [5, 0, 1, 2, 3, 4]) (lo' := y_lo i) rfl ?_
  exact k _ _ _ A2 ⟨⟨_, J2⟩, (j_T_J J2).2⟩ (by omega) (by omega)
theorem y_k39 {Γ : q_Γ} (hG : q_GG Γ) {i : Nat} (hi : i + 6 ≤ Γ.2.2.2.1) (hL : Γ.2.2.2.1 ≤ 3072) {h : q_F} (hA : q_Al 0 155 h) (J : t_J h) (E : h 1 1 = h 139 14) {cl sl : Nat} (hc : cl ≤ 3900) (hs : sl ≤ 39000) (k : y_K Γ i cl sl) : q_R Γ q_K 155 368 y_P (1610, y_lo i, [], q_hp q_K 155 h, [], cl, sl) := by
  obtain ⟨S, J⟩ := J
  refine r_aload_n c368_1610 rfl rfl ?_
  refine y_arg c368_1611 c368_1612 c368_1614 c368_1615 c368_1616 rfl rfl rfl hi hL (by decide) ?_
  refine y_arg c368_1617 c368_1618 c368_1620 c368_1621 c368_1622 rfl rfl rfl hi hL (by decide) ?_
  refine r_aload_n c368_1623 rfl rfl ?_
  obtain ⟨v1, g1, e1, J1⟩ := t_L38 (v1 := (Γ.1 (i + 1))) (v2 := (Γ.1 (i + 2))) hA J
  refine y_cs (a := 3) (b := 18) c368_1624 rfl rfl (by omega) (by omega) rfl rfl (wn38 hG (hG.1 (i + 1)) (hG.1 (i + 2)) hA e1) ?_
  intro i1 A1
  refine r_istore c368_1627 (lo' := [(6, (0, v1)), (5, (0, (i : Int))), (0, (9, 0)), (1, (2, Int.ofNat 0)), (2, (2, Int.ofNat 139)), (3, (2, Int.ofNat 153)), (4, (2, Int.ofNat 154))]) rfl rfl rfl ?_
  refine r_aload_n c368_1629 rfl rfl ?_
  refine y_arg c368_1630 c368_1631 c368_1633 c368_1634 c368_1635 rfl rfl rfl hi hL (by decide) ?_
  refine y_arg c368_1636 c368_1637 c368_1639 c368_1640 c368_1641 rfl rfl rfl hi hL (by decide) ?_
  obtain ⟨v2, g2, e2, J2⟩ := t_r_where (a := (Γ.1 (i + 1))) (t := (Γ.1 (i + 2))) A1 J1
  refine y_cv (a := 0) (b := 0) c368_1642 (by decide) rfl rfl rfl rfl (by omega) (by omega) rfl rfl (wn362 hG (hG.1 (i + 1)) (hG.1 (i + 2)) A1 e2) ?_
  intro i2 A2
  refine r_istore c368_1645 (lo' := [(7, (0, v2)), (6, (0, v1)), (5, (0, (i : Int))), (0, (9, 0)), (1, (2, Int.ofNat 0)), (2, (2, Int.ofNat 139)), (3, (2, Int.ofNat 153)), (4, (2, Int.ofNat 154))]) rfl rfl rfl ?_
  refine r_goto c368_1647 ?_
  refine q_R.wk (ks := [5, 0, 1, 2, 3, 4]) (lo' := y_lo i) rfl ?_
  exact k _ _ _ A2 ⟨⟨_, J2⟩, (j_T_J J2).2⟩ (by omega) (by omega)
end -- [99ce.law]
section -- [99cf.law]
/-! Part 99cf: cases of the law. Printed by wip/tools/genlaw.py. -/
theorem y_k40 {Γ : q_Γ} (hG : q_GG Γ) {i : Nat} (hi : i + 6 ≤ Γ.2.2.2.1) (hL : Γ.2.2.2.1 ≤ 3072) {h : q_F} (hA : q_Al 0 155 h) (J : t_J h) (E : h 1 1 = h 139 14) {cl sl : Nat} (hc : cl ≤ 3900) (hs : sl ≤ 39000) (k : y_K Γ i cl sl) : q_R Γ q_K 155 368 y_P (1650, y_lo i, [], q_hp q_K 155 h, [], cl, sl) := by
  obtain ⟨S, J⟩ := J
  refine r_aload_n c368_1650 rfl rfl ?_
  refine y_arg c368_1651 c368_1652 c368_1654 c368_1655 c368_1656 rfl rfl rfl hi hL (by decide) ?_
  refine r_aload_n c368_1657 rfl rfl ?_
  obtain ⟨v1, g1, e1, J1⟩ := t_L35 (v1 := (Γ.1 (i + 1))) hA J
  refine y_cs (a := 1) (b := 6) c368_1658 rfl rfl (by omega) (by omega) rfl rfl (wn35 hG (hG.1 (i + 1)) hA e1) ?_
  intro i1 A1
  refine r_istore c368_1661 (lo' := [(6, (0, v1)), (5, (0, (i : Int))), (0, (9, 0)), (1, (2, Int.ofNat 0)), (2, (2, Int.ofNat 139)), (3, (2, Int.ofNat 153)), (4, (2, Int.ofNat 154))]) rfl rfl rfl ?_
  refine r_aload_n c368_1663 rfl rfl ?_
  refine y_arg c368_1664 c368_1665 c368_1667 c368_1668 c368_1669 rfl rfl rfl hi hL (by decide) ?_
  obtain ⟨v2, g2, e2, J2⟩ := t_r_trueB (a := (Γ.1 (i + 1))) A1 J1
  refine y_cv (a := 0) (b := 0) c368_1670 (by decide) rfl rfl rfl rfl (by omega) (by omega) rfl rfl (wn357 hG (hG.1 (i + 1)) A1 e2) ?_
  intro i2 A2
  refine r_istore c368_1673 (lo' := [(7, (0, v2)), (6, (0, v1)), (5, (0, (i : Int))), (0, (9, 0)), (1, (2, Int.ofNat 0)), (2, (2, Int.ofNat 139)), (3, (2, Int.ofNat 153)), (4, (2, Int.ofNat 154))]) rfl rfl rfl ?_
  refine r_goto c368_1675 ?_
  refine q_R.wk (ks := [5, 0, 1, 2, 3, 4]) (lo' := y_lo i) rfl ?_
  exact k _ _ _ A2 ⟨⟨_, J2⟩, (j_T_J J2).2⟩ (by omega) (by omega)
theorem y_k41 {Γ : q_Γ} (hG : q_GG Γ) {i : Nat} (hi : i + 6 ≤ Γ.2.2.2.1) (hL : Γ.2.2.2.1 ≤ 3072) {h : q_F} (hA : q_Al 0 155 h) (J : t_J h) (E : h 1 1 = h 139 14) {cl sl : Nat} (hc : cl ≤ 3900) (hs : sl ≤ 39000) (k : y_K Γ i cl sl) : q_R Γ q_K 155 368 y_P (1678, y_lo i, [], q_hp q_K 155 h, [], cl, sl) := by
  obtain ⟨S, J⟩ := J
  refine r_aload_n c368_1678 rfl rfl ?_
  refine y_arg c368_1679 c368_1680 c368_1682 c368_1683 c368_1684 rfl rfl rfl hi hL (by decide) ?_
  refine r_aload c368_1685 rfl rfl ?_
  obtain ⟨v1, g1, e1, J1⟩ := t_L14 (v1 := (Γ.1 (i + 1))) hA J
  refine y_cs (a := 1) (b := 6) c368_1687 rfl rfl (by omega) (by omega) rfl rfl (wn14 hG (hG.1 (i + 1)) hA e1) ?_
  intro i1 A1
  refine r_istore c368_1690 (lo' := [(6, (0, v1)), (5, (0, (i : Int))), (0, (9, 0)), (1, (2, Int.ofNat 0)), (2, (2, Int.ofNat 139)), (3, (2, Int.ofNat 153)), (4, (2, Int.ofNat 154))]) rfl rfl rfl ?_
  refine r_aload_n c368_1692 rfl rfl ?_
  refine y_arg c368_1693 c368_1694 c368_1696 c368_1697 c368_1698 rfl rfl rfl hi hL (by decide) ?_
  obtain ⟨v2, g2, e2, J2⟩ := t_r_line (m := (Γ.1 (i + 1))) A1 J1
  refine y_cv (a := 0) (b := 0) c368_1699 (by decide) rfl rfl rfl rfl (by omega) (by omega) rfl rfl (wn281 hG (hG.1 (i + 1)) A1 e2) ?_
  intro i2 A2
  refine r_dstore c368_1702 (lo' := [(7, (5, v2)), (6, (0, v1)), (5, (0, (i : Int))), (0, (9, 0)), (1, (2, Int.ofNat 0)), (2, (2, Int.ofNat 139)), (3, (2, Int.ofNat 153)), (4, (2, Int.ofNat 154))]) rfl rfl rfl ?_
  refine r_goto c368_1704 ?_
  refine q_R.wk (ks := [5, 0, 1, 2, 3, 4]) (lo' := y_lo i) rfl ?_
  exact k _ _ _ A2 ⟨⟨_, J2⟩, (j_T_J J2).2⟩ (by omega) (by omega)
theorem y_k42 {Γ : q_Γ} (hG : q_GG Γ) {i : Nat} (hi : i + 6 ≤ Γ.2.2.2.1) (hL : Γ.2.2.2.1 ≤ 3072) {h : q_F} (hA : q_Al 0 155 h) (J : t_J h) (E : h 1 1 = h 139 14) {cl sl : Nat} (hc : cl ≤ 3900) (hs : sl ≤ 39000) (k : y_K Γ i cl sl) : q_R Γ q_K 155 368 y_P (1707, y_lo i, [], q_hp q_K 155 h, [], cl, sl) := by
  obtain ⟨S, J⟩ := J
  refine r_aload_n c368_1707 rfl rfl ?_
  obtain ⟨v1, g1, e1, J1⟩ := t_c_qlen  hA J
  refine y_cv (a := 0) (b := 0) c368_1708 (by decide) rfl rfl rfl rfl (by omega) (by omega) rfl rfl (wn199 hG  hA e1) ?_
  intro i1 A1
  refine r_dstore c368_1711 (lo' := [(6, (5, v1)), (5, (0, (i : Int))), (0, (9, 0)), (1, (2, Int.ofNat 0)), (2, (2, Int.ofNat 139)), (3, (2, Int.ofNat 153)), (4, (2, Int.ofNat 154))]) rfl rfl rfl ?_
  refine r_aload_n c368_1713 rfl rfl ?_
  obtain ⟨v2, g2, e2, J2⟩ := t_r_qlen  A1 J1
  refine y_cv (a := 0) (b := 0) c368_1714 (by decide) rfl rfl rfl rfl (by omega) (by omega) rfl rfl (wn310 hG  A1 e2) ?_
  intro i2 A2
  refine r_dstore c368_1717 (lo' := [(8, (5, v2)), (6, (5, v1)), (5, (0, (i : Int))), (0, (9, 0)), (1, (2, Int.ofNat 0)), (2, (2, Int.ofNat 139)), (3, (2, Int.ofNat 153)), (4, (2, Int.ofNat 154))]) rfl rfl rfl ?_
  refine r_goto c368_1719 ?_
  refine q_R.wk (ks := [5, 0, 1, 2, 3, 4]) (lo' := y_lo i) rfl ?_
  exact k _ _ _ A2 ⟨⟨_, J2⟩, (j_T_J J2).2⟩ (by omega) (by omega)
theorem y_k43 {Γ : q_Γ} (hG : q_GG Γ) {i : Nat} (hi : i + 6 ≤ Γ.2.2.2.1) (hL : Γ.2.2.2.1 ≤ 3072) {h : q_F} (hA : q_Al 0 155 h) (J : t_J h) (E : h 1 1 = h 139 14) {cl sl : Nat} (hc : cl ≤ 3900) (hs : sl ≤ 39000) (k : y_K Γ i cl sl) : q_R Γ q_K 155 368 y_P (1722, y_lo i, [], q_hp q_K 155 h, [], cl, sl) := by
  obtain ⟨S, J⟩ := J
  refine r_aload_n c368_1722 rfl rfl ?_
  refine y_arg c368_1723 c368_1724 c368_1726 c368_1727 c368_1728 rfl rfl rfl hi hL (by decide) ?_
  refine r_aload c368_1729 rfl rfl ?_
  obtain ⟨v1, g1, e1, J1⟩ := t_L16 (v1 := (Γ.1 (i + 1))) hA J
  refine y_cs (a := 1) (b := 6) c368_1731 rfl rfl (by omega) (by omega) rfl rfl (wn16 hG (hG.1 (i + 1)) hA e1) ?_
  intro i1 A1
  refine r_istore c368_1734 (lo' := [(6, (0, v1)), (5, (0, (i : Int))), (0, (9, 0)), (1, (2, Int.ofNat 0)), (2, (2, Int.ofNat 139)), (3, (2, Int.ofNat 153)), (4, (2, Int.ofNat 154))]) rfl rfl rfl ?_
  refine r_aload_n c368_1736 rfl rfl ?_
  refine y_arg c368_1737 c368_1738 c368_1740 c368_1741 c368_1742 rfl rfl rfl hi hL (by decide) ?_
  obtain ⟨v2, g2, e2, J2⟩ := t_r_msp (m := (Γ.1 (i + 1))) A1 J1
  refine y_cv (a := 0) (b := 0) c368_1743 (by decide) rfl rfl rfl rfl (by omega) (by omega) rfl rfl (wn293 hG (hG.1 (i + 1)) A1 e2) ?_
  intro i2 A2
  refine r_dstore c368_1746 (lo' := [(7, (5, v2)), (6, (0, v1)), (5, (0, (i : Int))), (0, (9, 0)), (1, (2, Int.ofNat 0)), (2, (2, Int.ofNat 139)), (3, (2, Int.ofNat 153)), (4, (2, Int.ofNat 154))]) rfl rfl rfl ?_
  refine r_goto c368_1748 ?_
  refine q_R.wk (ks := [5, 0, 1, 2, 3, 4]) (lo' := y_lo i) rfl ?_
  exact k _ _ _ A2 ⟨⟨_, J2⟩, (j_T_J J2).2⟩ (by omega) (by omega)
theorem y_k44 {Γ : q_Γ} (hG : q_GG Γ) {i : Nat} (hi : i + 6 ≤ Γ.2.2.2.1) (hL : Γ.2.2.2.1 ≤ 3072) {h : q_F} (hA : q_Al 0 155 h) (J : t_J h) (E : h 1 1 = h 139 14) {cl sl : Nat} (hc : cl ≤ 3900) (hs : sl ≤ 39000) (k : y_K Γ i cl sl) : q_R Γ q_K 155 368 y_P (1751, y_lo i, [], q_hp q_K 155 h, [], cl, sl) := by
  obtain ⟨S, J⟩ := J
  refine r_aload_n c368_1751 rfl rfl ?_
  refine y_arg c368_1752 c368_1753 c368_1755 c368_1756 c368_1757 rfl rfl rfl hi hL (by decide) ?_
  refine r_aload_n c368_1758 rfl rfl ?_
  obtain ⟨v1, g1, e1, J1⟩ := t_L34 (v1 := (Γ.1 (i + 1))) hA J
  refine y_cs (a := 1) (b := 6) c368_1759 rfl rfl (by omega) (by omega) rfl rfl (wn34 hG (hG.1 (i + 1)) hA e1) ?_
  intro i1 A1
  refine r_istore c368_1762 (lo' := [(6, (0, v1)), (5, (0, (i : Int))), (0, (9, 0)), (1, (2, Int.ofNat 0)), (2, (2, Int.ofNat 139)), (3, (2, Int.ofNat 153)), (4, (2, Int.ofNat 154))]) rfl rfl rfl ?_
  refine r_aload_n c368_1764 rfl rfl ?_
  refine y_arg c368_1765 c368_1766 c368_1768 c368_1769 c368_1770 rfl rfl rfl hi hL (by decide) ?_
  obtain ⟨v2, g2, e2, J2⟩ := t_r_travel (a := (Γ.1 (i + 1))) A1 J1
  refine y_cv (a := 0) (b := 0) c368_1771 (by decide) rfl rfl rfl rfl (by omega) (by omega) rfl rfl (wn356 hG (hG.1 (i + 1)) A1 e2) ?_
  intro i2 A2
  refine r_istore c368_1774 (lo' := [(7, (0, v2)), (6, (0, v1)), (5, (0, (i : Int))), (0, (9, 0)), (1, (2, Int.ofNat 0)), (2, (2, Int.ofNat 139)), (3, (2, Int.ofNat 153)), (4, (2, Int.ofNat 154))]) rfl rfl rfl ?_
  refine r_goto c368_1776 ?_
  refine q_R.wk (ks := [5, 0, 1, 2, 3, 4]) (lo' := y_lo i) rfl ?_
  exact k _ _ _ A2 ⟨⟨_, J2⟩, (j_T_J J2).2⟩ (by omega) (by omega)
theorem y_k45 {Γ : q_Γ} (hG : q_GG Γ) {i : Nat} (hi : i + 6 ≤ Γ.2.2.2.1) (hL : Γ.2.2.2.1 ≤ 3072) {h : q_F} (hA : q_Al 0 155 h) (J : t_J h) (E : h 1 1 = h 139 14) {cl sl : Nat} (hc : cl ≤ 3900) (hs : sl ≤ 39000) (k : y_K Γ i cl sl) : q_R Γ q_K 155 368 y_P (1779, y_lo i, [], q_hp q_K 155 h, [], cl, sl) := by
  obtain ⟨S, J⟩ := J
  refine r_aload_n c368_1779 rfl rfl ?_
  refine y_arg c368_1780 c368_1781 c368_1783 c368_1784 c368_1785 rfl rfl rfl hi hL (by decide) ?_
  refine r_aload_n c368_1786 rfl rfl ?_
  obtain ⟨v1, g1, e1, J1⟩ := t_L36 (v1 := (Γ.1 (i + 1))) hA J
  refine y_cs (a := 1) (b := 6) c368_1787 rfl rfl (by omega) (by omega) rfl rfl (wn36 hG (hG.1 (i + 1)) hA e1) ?_
  intro i1 A1
  refine r_istore c368_1790 (lo' := [(6, (0, v1)), (5, (0, (i : Int))), (0, (9, 0)), (1, (2, Int.ofNat 0)), (2, (2, Int.ofNat 139)), (3, (2, Int.ofNat 153)), (4, (2, Int.ofNat 154))]) rfl rfl rfl ?_
  refine r_aload_n c368_1792 rfl rfl ?_
  refine y_arg c368_1793 c368_1794 c368_1796 c368_1797 c368_1798 rfl rfl rfl hi hL (by decide) ?_
  obtain ⟨v2, g2, e2, J2⟩ := t_r_turns (a := (Γ.1 (i + 1))) A1 J1
  refine y_cv (a := 0) (b := 0) c368_1799 (by decide) rfl rfl rfl rfl (by omega) (by omega) rfl rfl (wn359 hG (hG.1 (i + 1)) A1 e2) ?_
  intro i2 A2
  refine r_istore c368_1802 (lo' := [(7, (0, v2)), (6, (0, v1)), (5, (0, (i : Int))), (0, (9, 0)), (1, (2, Int.ofNat 0)), (2, (2, Int.ofNat 139)), (3, (2, Int.ofNat 153)), (4, (2, Int.ofNat 154))]) rfl rfl rfl ?_
  refine r_goto c368_1804 ?_
  refine q_R.wk (ks := [5, 0, 1, 2, 3, 4]) (lo' := y_lo i) rfl ?_
  exact k _ _ _ A2 ⟨⟨_, J2⟩, (j_T_J J2).2⟩ (by omega) (by omega)
theorem y_k46 {Γ : q_Γ} (hG : q_GG Γ) {i : Nat} (hi : i + 6 ≤ Γ.2.2.2.1) (hL : Γ.2.2.2.1 ≤ 3072) {h : q_F} (hA : q_Al 0 155 h) (J : t_J h) (E : h 1 1 = h 139 14) {cl sl : Nat} (hc : cl ≤ 3900) (hs : sl ≤ 39000) (k : y_K Γ i cl sl) : q_R Γ q_K 155 368 y_P (1807, y_lo i, [], q_hp q_K 155 h, [], cl, sl) := by
  obtain ⟨S, J⟩ := J
  refine r_aload_n c368_1807 rfl rfl ?_
  obtain ⟨v1, g1, e1, J1⟩ := t_c_queueTime  hA J
  refine y_cv (a := 0) (b := 0) c368_1808 (by decide) rfl rfl rfl rfl (by omega) (by omega) rfl rfl (wn200 hG  hA e1) ?_
  intro i1 A1
  refine r_pop2 c368_1811 rfl rfl ?_
  refine r_aload_n c368_1812 rfl rfl ?_
  obtain ⟨v2, g2, e2, J2⟩ := t_r_queueTime  A1 J1
  refine y_cv (a := 0) (b := 0) c368_1813 (by decide) rfl rfl rfl rfl (by omega) (by omega) rfl rfl (wn311 hG  A1 e2) ?_
  intro i2 A2
  refine r_pop2 c368_1816 rfl rfl ?_
  refine r_goto c368_1817 ?_
  refine q_R.wk (ks := [5, 0, 1, 2, 3, 4]) (lo' := y_lo i) rfl ?_
  exact k _ _ _ A2 ⟨⟨_, J2⟩, (j_T_J J2).2⟩ (by omega) (by omega)
theorem y_k47 {Γ : q_Γ} (hG : q_GG Γ) {i : Nat} (hi : i + 6 ≤ Γ.2.2.2.1) (hL : Γ.2.2.2.1 ≤ 3072) {h : q_F} (hA : q_Al 0 155 h) (J : t_J h) (E : h 1 1 = h 139 14) {cl sl : Nat} (hc : cl ≤ 3900) (hs : sl ≤ 39000) (k : y_K Γ i cl sl) : q_R Γ q_K 155 368 y_P (1820, y_lo i, [], q_hp q_K 155 h, [], cl, sl) := by
  obtain ⟨S, J⟩ := J
  refine r_aload_n c368_1820 rfl rfl ?_
  refine y_arg c368_1821 c368_1822 c368_1824 c368_1825 c368_1826 rfl rfl rfl hi hL (by decide) ?_
  refine y_arg c368_1827 c368_1828 c368_1830 c368_1831 c368_1832 rfl rfl rfl hi hL (by decide) ?_
  refine y_arg c368_1833 c368_1834 c368_1836 c368_1837 c368_1838 rfl rfl rfl hi hL (by decide) ?_
  refine r_aload_n c368_1839 rfl rfl ?_
  obtain ⟨v1, g1, e1, J1⟩ := t_L31 (v1 := (Γ.1 (i + 1))) (v2 := (Γ.1 (i + 2))) (v3 := (Γ.1 (i + 3))) hA J
  refine y_cs (a := 2) (b := 12) c368_1840 rfl rfl (by omega) (by omega) rfl rfl (wn31 hG (hG.1 (i + 1)) (hG.1 (i + 2)) (hG.1 (i + 3)) hA e1) ?_
  intro i1 A1
  refine r_istore c368_1843 (lo' := [(6, (0, v1)), (5, (0, (i : Int))), (0, (9, 0)), (1, (2, Int.ofNat 0)), (2, (2, Int.ofNat 139)), (3, (2, Int.ofNat 153)), (4, (2, Int.ofNat 154))]) rfl rfl rfl ?_
  refine r_aload_n c368_1845 rfl rfl ?_
  refine y_arg c368_1846 c368_1847 c368_1849 c368_1850 c368_1851 rfl rfl rfl hi hL (by decide) ?_
  refine y_arg c368_1852 c368_1853 c368_1855 c368_1856 c368_1857 rfl rfl rfl hi hL (by decide) ?_
  refine y_arg c368_1858 c368_1859 c368_1861 c368_1862 c368_1863 rfl rfl rfl hi hL (by decide) ?_
  obtain ⟨v2, g2, e2, J2⟩ := t_r_stTime (x := (Γ.1 (i + 1))) (y := (Γ.1 (i + 2))) (z := (Γ.1 (i + 3))) A1 J1
  refine y_cv (a := 0) (b := 0) c368_1864 (by decide) rfl rfl rfl rfl (by omega) (by omega) rfl rfl (wn345 hG (hG.1 (i + 1)) (hG.1 (i + 2)) (hG.1 (i + 3)) A1 e2) ?_
  intro i2 A2
  refine r_lstore c368_1867 (lo' := [(7, (1, v2)), (6, (0, v1)), (5, (0, (i : Int))), (0, (9, 0)), (1, (2, Int.ofNat 0)), (2, (2, Int.ofNat 139)), (3, (2, Int.ofNat 153)), (4, (2, Int.ofNat 154))]) rfl rfl rfl ?_
  refine r_goto c368_1869 ?_
  refine q_R.wk (ks := [5, 0, 1, 2, 3, 4]) (lo' := y_lo i) rfl ?_
  exact k _ _ _ A2 ⟨⟨_, J2⟩, (j_T_J J2).2⟩ (by omega) (by omega)
end -- [99cf.law]
section -- [99cg.law]
/-! Part 99cg: cases of the law. Printed by wip/tools/genlaw.py. -/
theorem y_k48 {Γ : q_Γ} (hG : q_GG Γ) {i : Nat} (hi : i + 6 ≤ Γ.2.2.2.1) (hL : Γ.2.2.2.1 ≤ 3072) {h : q_F} (hA : q_Al 0 155 h) (J : t_J h) (E : h 1 1 = h 139 14) {cl sl : Nat} (hc : cl ≤ 3900) (hs : sl ≤ 39000) (k : y_K Γ i cl sl) : q_R Γ q_K 155 368 y_P (1872, y_lo i, [], q_hp q_K 155 h, [], cl, sl) := by
  obtain ⟨S, J⟩ := J
  refine r_aload_n c368_1872 rfl rfl ?_
  obtain ⟨v1, g1, e1, J1⟩ := t_c_wLose  hA J
  refine y_cv (a := 0) (b := 0) c368_1873 (by decide) rfl rfl rfl rfl (by omega) (by omega) rfl rfl (wn233 hG  hA e1) ?_
  intro i1 A1
  refine r_pop c368_1876 rfl rfl ?_
  refine r_aload_n c368_1877 rfl rfl ?_
  obtain ⟨v2, g2, e2, J2⟩ := t_r_wLose  A1 J1
  refine y_cv (a := 0) (b := 0) c368_1878 (by decide) rfl rfl rfl rfl (by omega) (by omega) rfl rfl (wn365 hG  A1 e2) ?_
  intro i2 A2
  refine r_pop c368_1881 rfl rfl ?_
  refine r_goto c368_1882 ?_
  refine q_R.wk (ks := [5, 0, 1, 2, 3, 4]) (lo' := y_lo i) rfl ?_
  exact k _ _ _ A2 ⟨⟨_, J2⟩, (j_T_J J2).2⟩ (by omega) (by omega)
theorem y_k49 {Γ : q_Γ} (hG : q_GG Γ) {i : Nat} (hi : i + 6 ≤ Γ.2.2.2.1) (hL : Γ.2.2.2.1 ≤ 3072) {h : q_F} (hA : q_Al 0 155 h) (J : t_J h) (E : h 1 1 = h 139 14) {cl sl : Nat} (hc : cl ≤ 3900) (hs : sl ≤ 39000) (k : y_K Γ i cl sl) : q_R Γ q_K 155 368 y_P (1885, y_lo i, [], q_hp q_K 155 h, [], cl, sl) := by
  obtain ⟨S, J⟩ := J
  refine r_aload_n c368_1885 rfl rfl ?_
  refine y_arg c368_1886 c368_1887 c368_1889 c368_1890 c368_1891 rfl rfl rfl hi hL (by decide) ?_
  refine r_aload_n c368_1892 rfl rfl ?_
  obtain ⟨v1, g1, e1, J1⟩ := t_L39 (v1 := (Γ.1 (i + 1))) hA J
  refine y_cs (a := 2) (b := 12) c368_1893 rfl rfl (by omega) (by omega) rfl rfl (wn39 hG (hG.1 (i + 1)) hA e1) ?_
  intro i1 A1
  refine r_istore c368_1896 (lo' := [(6, (0, v1)), (5, (0, (i : Int))), (0, (9, 0)), (1, (2, Int.ofNat 0)), (2, (2, Int.ofNat 139)), (3, (2, Int.ofNat 153)), (4, (2, Int.ofNat 154))]) rfl rfl rfl ?_
  refine r_aload_n c368_1898 rfl rfl ?_
  refine y_arg c368_1899 c368_1900 c368_1902 c368_1903 c368_1904 rfl rfl rfl hi hL (by decide) ?_
  obtain ⟨v2, g2, e2, J2⟩ := t_r_wErr (a := (Γ.1 (i + 1))) A1 J1
  refine y_cv (a := 0) (b := 0) c368_1905 (by decide) rfl rfl rfl rfl (by omega) (by omega) rfl rfl (wn363 hG (hG.1 (i + 1)) A1 e2) ?_
  intro i2 A2
  refine r_istore c368_1908 (lo' := [(7, (0, v2)), (6, (0, v1)), (5, (0, (i : Int))), (0, (9, 0)), (1, (2, Int.ofNat 0)), (2, (2, Int.ofNat 139)), (3, (2, Int.ofNat 153)), (4, (2, Int.ofNat 154))]) rfl rfl rfl ?_
  refine r_goto c368_1910 ?_
  refine q_R.wk (ks := [5, 0, 1, 2, 3, 4]) (lo' := y_lo i) rfl ?_
  exact k _ _ _ A2 ⟨⟨_, J2⟩, (j_T_J J2).2⟩ (by omega) (by omega)
theorem y_k50 {Γ : q_Γ} (hG : q_GG Γ) {i : Nat} (hi : i + 6 ≤ Γ.2.2.2.1) (hL : Γ.2.2.2.1 ≤ 3072) {h : q_F} (hA : q_Al 0 155 h) (J : t_J h) (E : h 1 1 = h 139 14) {cl sl : Nat} (hc : cl ≤ 3900) (hs : sl ≤ 39000) (k : y_K Γ i cl sl) : q_R Γ q_K 155 368 y_P (1913, y_lo i, [], q_hp q_K 155 h, [], cl, sl) := by
  obtain ⟨S, J⟩ := J
  refine r_aload_n c368_1913 rfl rfl ?_
  refine y_arg c368_1914 c368_1915 c368_1917 c368_1918 c368_1919 rfl rfl rfl hi hL (by decide) ?_
  refine r_aload_n c368_1920 rfl rfl ?_
  obtain ⟨v1, g1, e1, J1⟩ := t_L40 (v1 := (Γ.1 (i + 1))) hA J
  refine y_cs (a := 1) (b := 6) c368_1921 rfl rfl (by omega) (by omega) rfl rfl (wn40 hG (hG.1 (i + 1)) hA e1) ?_
  intro i1 A1
  refine r_istore c368_1924 (lo' := [(6, (0, v1)), (5, (0, (i : Int))), (0, (9, 0)), (1, (2, Int.ofNat 0)), (2, (2, Int.ofNat 139)), (3, (2, Int.ofNat 153)), (4, (2, Int.ofNat 154))]) rfl rfl rfl ?_
  refine r_aload_n c368_1926 rfl rfl ?_
  refine y_arg c368_1927 c368_1928 c368_1930 c368_1931 c368_1932 rfl rfl rfl hi hL (by decide) ?_
  obtain ⟨v2, g2, e2, J2⟩ := t_r_wHome (a := (Γ.1 (i + 1))) A1 J1
  refine y_cv (a := 0) (b := 0) c368_1933 (by decide) rfl rfl rfl rfl (by omega) (by omega) rfl rfl (wn364 hG (hG.1 (i + 1)) A1 e2) ?_
  intro i2 A2
  refine r_istore c368_1936 (lo' := [(7, (0, v2)), (6, (0, v1)), (5, (0, (i : Int))), (0, (9, 0)), (1, (2, Int.ofNat 0)), (2, (2, Int.ofNat 139)), (3, (2, Int.ofNat 153)), (4, (2, Int.ofNat 154))]) rfl rfl rfl ?_
  refine r_goto c368_1938 ?_
  refine q_R.wk (ks := [5, 0, 1, 2, 3, 4]) (lo' := y_lo i) rfl ?_
  exact k _ _ _ A2 ⟨⟨_, J2⟩, (j_T_J J2).2⟩ (by omega) (by omega)
theorem y_k51 {Γ : q_Γ} (hG : q_GG Γ) {i : Nat} (hi : i + 6 ≤ Γ.2.2.2.1) (hL : Γ.2.2.2.1 ≤ 3072) {h : q_F} (hA : q_Al 0 155 h) (J : t_J h) (E : h 1 1 = h 139 14) {cl sl : Nat} (hc : cl ≤ 3900) (hs : sl ≤ 39000) (k : y_K Γ i cl sl) : q_R Γ q_K 155 368 y_P (1941, y_lo i, [], q_hp q_K 155 h, [], cl, sl) := by
  obtain ⟨S, J⟩ := J
  refine r_aload_n c368_1941 rfl rfl ?_
  obtain ⟨v1, g1, e1, J1⟩ := t_c_bestF  hA J
  refine y_cv (a := 0) (b := 0) c368_1942 (by decide) rfl rfl rfl rfl (by omega) (by omega) rfl rfl (wn158 hG  hA e1) ?_
  intro i1 A1
  refine r_pop c368_1945 rfl rfl ?_
  refine r_aload_n c368_1946 rfl rfl ?_
  obtain ⟨v2, g2, e2, J2⟩ := t_r_bestF  A1 J1
  refine y_cv (a := 0) (b := 0) c368_1947 (by decide) rfl rfl rfl rfl (by omega) (by omega) rfl rfl (wn242 hG  A1 e2) ?_
  intro i2 A2
  refine r_pop c368_1950 rfl rfl ?_
  refine r_goto c368_1951 ?_
  refine q_R.wk (ks := [5, 0, 1, 2, 3, 4]) (lo' := y_lo i) rfl ?_
  exact k _ _ _ A2 ⟨⟨_, J2⟩, (j_T_J J2).2⟩ (by omega) (by omega)
theorem y_k52 {Γ : q_Γ} (hG : q_GG Γ) {i : Nat} (hi : i + 6 ≤ Γ.2.2.2.1) (hL : Γ.2.2.2.1 ≤ 3072) {h : q_F} (hA : q_Al 0 155 h) (J : t_J h) (E : h 1 1 = h 139 14) {cl sl : Nat} (hc : cl ≤ 3900) (hs : sl ≤ 39000) (k : y_K Γ i cl sl) : q_R Γ q_K 155 368 y_P (1954, y_lo i, [], q_hp q_K 155 h, [], cl, sl) := by
  obtain ⟨S, J⟩ := J
  refine r_aload_n c368_1954 rfl rfl ?_
  refine r_aload_n c368_1955 rfl rfl ?_
  obtain ⟨v1, g1, e1, J1⟩ := t_L2  hA J
  refine y_cs (a := 1) (b := 6) c368_1956 rfl rfl (by omega) (by omega) rfl rfl (wn2 hG  hA e1) ?_
  intro i1 A1
  refine r_istore c368_1959 (lo' := [(6, (0, v1)), (5, (0, (i : Int))), (0, (9, 0)), (1, (2, Int.ofNat 0)), (2, (2, Int.ofNat 139)), (3, (2, Int.ofNat 153)), (4, (2, Int.ofNat 154))]) rfl rfl rfl ?_
  refine r_aload_n c368_1961 rfl rfl ?_
  obtain ⟨v2, g2, e2, J2⟩ := t_r_bestS  A1 J1
  refine y_cv (a := 0) (b := 0) c368_1962 (by decide) rfl rfl rfl rfl (by omega) (by omega) rfl rfl (wn243 hG  A1 e2) ?_
  intro i2 A2
  refine r_istore c368_1965 (lo' := [(7, (0, v2)), (6, (0, v1)), (5, (0, (i : Int))), (0, (9, 0)), (1, (2, Int.ofNat 0)), (2, (2, Int.ofNat 139)), (3, (2, Int.ofNat 153)), (4, (2, Int.ofNat 154))]) rfl rfl rfl ?_
  refine r_goto c368_1967 ?_
  refine q_R.wk (ks := [5, 0, 1, 2, 3, 4]) (lo' := y_lo i) rfl ?_
  exact k _ _ _ A2 ⟨⟨_, J2⟩, (j_T_J J2).2⟩ (by omega) (by omega)
theorem y_k53 {Γ : q_Γ} (hG : q_GG Γ) {i : Nat} (hi : i + 6 ≤ Γ.2.2.2.1) (hL : Γ.2.2.2.1 ≤ 3072) {h : q_F} (hA : q_Al 0 155 h) (J : t_J h) (E : h 1 1 = h 139 14) {cl sl : Nat} (hc : cl ≤ 3900) (hs : sl ≤ 39000) (k : y_K Γ i cl sl) : q_R Γ q_K 155 368 y_P (1970, y_lo i, [], q_hp q_K 155 h, [], cl, sl) := by
  obtain ⟨S, J⟩ := J
  refine r_aload_n c368_1970 rfl rfl ?_
  refine y_arg c368_1971 c368_1972 c368_1974 c368_1975 c368_1976 rfl rfl rfl hi hL (by decide) ?_
  refine y_arg c368_1977 c368_1978 c368_1980 c368_1981 c368_1982 rfl rfl rfl hi hL (by decide) ?_
  refine y_nz c368_1983 c368_1986 c368_1987 c368_1990 rfl (hG.1 (i + 2)) ?_
  refine r_aload_n c368_1991 rfl rfl ?_
  obtain ⟨v1, g1, e1, J1⟩ := t_L27 (v1 := (Γ.1 (i + 1))) (v2 := (y_nzv (Γ.1 (i + 2)))) hA J
  refine y_cs (a := 1) (b := 6) c368_1992 rfl rfl (by omega) (by omega) rfl rfl (wn27 hG (hG.1 (i + 1)) (y_nz01 (Γ.1 (i + 2))) hA e1) ?_
  intro i1 A1
  refine r_istore c368_1995 (lo' := [(6, (0, v1)), (5, (0, (i : Int))), (0, (9, 0)), (1, (2, Int.ofNat 0)), (2, (2, Int.ofNat 139)), (3, (2, Int.ofNat 153)), (4, (2, Int.ofNat 154))]) rfl rfl rfl ?_
  refine r_aload_n c368_1997 rfl rfl ?_
  refine y_arg c368_1998 c368_1999 c368_2001 c368_2002 c368_2003 rfl rfl rfl hi hL (by decide) ?_
  refine y_arg c368_2004 c368_2005 c368_2007 c368_2008 c368_2009 rfl rfl rfl hi hL (by decide) ?_
  refine y_nz c368_2010 c368_2013 c368_2014 c368_2017 rfl (hG.1 (i + 2)) ?_
  obtain ⟨v2, g2, e2, J2⟩ := t_r_slack (a := (Γ.1 (i + 1))) (v := (y_nzv (Γ.1 (i + 2)))) A1 J1
  refine y_cv (a := 0) (b := 0) c368_2018 (by decide) rfl rfl rfl rfl (by omega) (by omega) rfl rfl (wn334 hG (hG.1 (i + 1)) (y_nz01 (Γ.1 (i + 2))) A1 e2) ?_
  intro i2 A2
  refine r_istore c368_2021 (lo' := [(7, (0, v2)), (6, (0, v1)), (5, (0, (i : Int))), (0, (9, 0)), (1, (2, Int.ofNat 0)), (2, (2, Int.ofNat 139)), (3, (2, Int.ofNat 153)), (4, (2, Int.ofNat 154))]) rfl rfl rfl ?_
  refine r_goto c368_2023 ?_
  refine q_R.wk (ks := [5, 0, 1, 2, 3, 4]) (lo' := y_lo i) rfl ?_
  exact k _ _ _ A2 ⟨⟨_, J2⟩, (j_T_J J2).2⟩ (by omega) (by omega)
theorem y_k54 {Γ : q_Γ} (hG : q_GG Γ) {i : Nat} (hi : i + 6 ≤ Γ.2.2.2.1) (hL : Γ.2.2.2.1 ≤ 3072) {h : q_F} (hA : q_Al 0 155 h) (J : t_J h) (E : h 1 1 = h 139 14) {cl sl : Nat} (hc : cl ≤ 3900) (hs : sl ≤ 39000) (k : y_K Γ i cl sl) : q_R Γ q_K 155 368 y_P (2026, y_lo i, [], q_hp q_K 155 h, [], cl, sl) := by
  obtain ⟨S, J⟩ := J
  refine r_aload_n c368_2026 rfl rfl ?_
  refine y_arg c368_2027 c368_2028 c368_2030 c368_2031 c368_2032 rfl rfl rfl hi hL (by decide) ?_
  refine y_arg c368_2033 c368_2034 c368_2036 c368_2037 c368_2038 rfl rfl rfl hi hL (by decide) ?_
  refine r_aload_n c368_2039 rfl rfl ?_
  obtain ⟨v1, g1, e1, J1⟩ := t_L0 (v1 := (Γ.1 (i + 1))) (v2 := (Γ.1 (i + 2))) hA J
  refine y_cs (a := 2) (b := 12) c368_2040 rfl rfl (by omega) (by omega) rfl rfl (wn0 hG (hG.1 (i + 1)) (hG.1 (i + 2)) hA e1) ?_
  intro i1 A1
  refine r_istore c368_2043 (lo' := [(6, (0, v1)), (5, (0, (i : Int))), (0, (9, 0)), (1, (2, Int.ofNat 0)), (2, (2, Int.ofNat 139)), (3, (2, Int.ofNat 153)), (4, (2, Int.ofNat 154))]) rfl rfl rfl ?_
  refine r_aload_n c368_2045 rfl rfl ?_
  refine y_arg c368_2046 c368_2047 c368_2049 c368_2050 c368_2051 rfl rfl rfl hi hL (by decide) ?_
  refine y_arg c368_2052 c368_2053 c368_2055 c368_2056 c368_2057 rfl rfl rfl hi hL (by decide) ?_
  obtain ⟨v2, g2, e2, J2⟩ := t_r_account (a := (Γ.1 (i + 1))) (v := (Γ.1 (i + 2))) A1 J1
  refine y_cv (a := 0) (b := 0) c368_2058 (by decide) rfl rfl rfl rfl (by omega) (by omega) rfl rfl (wn234 hG (hG.1 (i + 1)) (hG.1 (i + 2)) A1 e2) ?_
  intro i2 A2
  refine r_istore c368_2061 (lo' := [(7, (0, v2)), (6, (0, v1)), (5, (0, (i : Int))), (0, (9, 0)), (1, (2, Int.ofNat 0)), (2, (2, Int.ofNat 139)), (3, (2, Int.ofNat 153)), (4, (2, Int.ofNat 154))]) rfl rfl rfl ?_
  refine r_goto c368_2063 ?_
  refine q_R.wk (ks := [5, 0, 1, 2, 3, 4]) (lo' := y_lo i) rfl ?_
  exact k _ _ _ A2 ⟨⟨_, J2⟩, (j_T_J J2).2⟩ (by omega) (by omega)
theorem y_k55 {Γ : q_Γ} (hG : q_GG Γ) {i : Nat} (hi : i + 6 ≤ Γ.2.2.2.1) (hL : Γ.2.2.2.1 ≤ 3072) {h : q_F} (hA : q_Al 0 155 h) (J : t_J h) (E : h 1 1 = h 139 14) {cl sl : Nat} (hc : cl ≤ 3900) (hs : sl ≤ 39000) (k : y_K Γ i cl sl) : q_R Γ q_K 155 368 y_P (2066, y_lo i, [], q_hp q_K 155 h, [], cl, sl) := by
  obtain ⟨S, J⟩ := J
  refine r_aload_n c368_2066 rfl rfl ?_
  obtain ⟨v1, e1⟩ := c_mdur (h := h) (q_al1 hA rfl (by decide) (by decide)) (q_al1 hA rfl (by decide) (by decide))
  refine y_cp (a := 0) (b := 0) c368_2067 (by decide) rfl rfl rfl rfl (by omega) (by omega) rfl rfl (wn189 hG  hA e1) ?_
  intro i1
  refine r_dstore c368_2070 (lo' := [(6, (5, v1)), (5, (0, (i : Int))), (0, (9, 0)), (1, (2, Int.ofNat 0)), (2, (2, Int.ofNat 139)), (3, (2, Int.ofNat 153)), (4, (2, Int.ofNat 154))]) rfl rfl rfl ?_
  refine r_aload_n c368_2072 rfl rfl ?_
  obtain ⟨v2, g2, e2, J2⟩ := t_r_mdur  hA J
  refine y_cv (a := 0) (b := 0) c368_2073 (by decide) rfl rfl rfl rfl (by omega) (by omega) rfl rfl (wn292 hG  hA e2) ?_
  intro i2 A2
  refine r_dstore c368_2076 (lo' := [(8, (5, v2)), (6, (5, v1)), (5, (0, (i : Int))), (0, (9, 0)), (1, (2, Int.ofNat 0)), (2, (2, Int.ofNat 139)), (3, (2, Int.ofNat 153)), (4, (2, Int.ofNat 154))]) rfl rfl rfl ?_
  refine r_goto c368_2078 ?_
  refine q_R.wk (ks := [5, 0, 1, 2, 3, 4]) (lo' := y_lo i) rfl ?_
  exact k _ _ _ A2 ⟨⟨_, J2⟩, (j_T_J J2).2⟩ (by omega) (by omega)
end -- [99cg.law]
section -- [99ch.law]
/-! Part 99ch: cases of the law. Printed by wip/tools/genlaw.py. -/
theorem y_k56 {Γ : q_Γ} (hG : q_GG Γ) {i : Nat} (hi : i + 6 ≤ Γ.2.2.2.1) (hL : Γ.2.2.2.1 ≤ 3072) {h : q_F} (hA : q_Al 0 155 h) (J : t_J h) (E : h 1 1 = h 139 14) {cl sl : Nat} (hc : cl ≤ 3900) (hs : sl ≤ 39000) (k : y_K Γ i cl sl) : q_R Γ q_K 155 368 y_P (2081, y_lo i, [], q_hp q_K 155 h, [], cl, sl) := by
  obtain ⟨S, J⟩ := J
  refine r_aload_n c368_2081 rfl rfl ?_
  refine y_arg c368_2082 c368_2083 c368_2085 c368_2086 c368_2087 rfl rfl rfl hi hL (by decide) ?_
  refine r_aload c368_2088 rfl rfl ?_
  obtain ⟨v1, g1, e1, J1⟩ := t_L15 (v1 := (Γ.1 (i + 1))) hA J
  refine y_cs (a := 1) (b := 6) c368_2090 rfl rfl (by omega) (by omega) rfl rfl (wn15 hG (hG.1 (i + 1)) hA e1) ?_
  intro i1 A1
  refine r_istore c368_2093 (lo' := [(6, (0, v1)), (5, (0, (i : Int))), (0, (9, 0)), (1, (2, Int.ofNat 0)), (2, (2, Int.ofNat 139)), (3, (2, Int.ofNat 153)), (4, (2, Int.ofNat 154))]) rfl rfl rfl ?_
  refine r_aload_n c368_2095 rfl rfl ?_
  refine y_arg c368_2096 c368_2097 c368_2099 c368_2100 c368_2101 rfl rfl rfl hi hL (by decide) ?_
  obtain ⟨v2, g2, e2, J2⟩ := t_r_lost2 (a := (Γ.1 (i + 1))) A1 J1
  refine y_cv (a := 0) (b := 0) c368_2102 (by decide) rfl rfl rfl rfl (by omega) (by omega) rfl rfl (wn285 hG (hG.1 (i + 1)) A1 e2) ?_
  intro i2 A2
  refine r_fstore c368_2105 (lo' := [(7, (4, v2)), (6, (0, v1)), (5, (0, (i : Int))), (0, (9, 0)), (1, (2, Int.ofNat 0)), (2, (2, Int.ofNat 139)), (3, (2, Int.ofNat 153)), (4, (2, Int.ofNat 154))]) rfl rfl rfl ?_
  refine r_goto c368_2107 ?_
  refine q_R.wk (ks := [5, 0, 1, 2, 3, 4]) (lo' := y_lo i) rfl ?_
  exact k _ _ _ A2 ⟨⟨_, J2⟩, (j_T_J J2).2⟩ (by omega) (by omega)
theorem y_k57 {Γ : q_Γ} (hG : q_GG Γ) {i : Nat} (hi : i + 6 ≤ Γ.2.2.2.1) (hL : Γ.2.2.2.1 ≤ 3072) {h : q_F} (hA : q_Al 0 155 h) (J : t_J h) (E : h 1 1 = h 139 14) {cl sl : Nat} (hc : cl ≤ 3900) (hs : sl ≤ 39000) (k : y_K Γ i cl sl) : q_R Γ q_K 155 368 y_P (2110, y_lo i, [], q_hp q_K 155 h, [], cl, sl) := by
  obtain ⟨S, J⟩ := J
  refine r_aload_n c368_2110 rfl rfl ?_
  obtain ⟨v1, g1, e1, J1⟩ := t_c_print  hA J
  refine y_cv (a := 0) (b := 0) c368_2111 (by decide) rfl rfl rfl rfl (by omega) (by omega) rfl rfl (wn197 hG  hA e1) ?_
  intro i1 A1
  refine r_pop c368_2114 rfl rfl ?_
  refine r_aload_n c368_2115 rfl rfl ?_
  obtain ⟨v2, g2, e2, J2⟩ := t_print   J1
  refine y_cv (a := 0) (b := 0) c368_2116 (by decide) rfl rfl rfl rfl (by omega) (by omega) rfl rfl (wn307 hG  A1 e2) ?_
  intro i2 A2
  refine r_pop c368_2119 rfl rfl ?_
  refine r_goto c368_2120 ?_
  refine q_R.wk (ks := [5, 0, 1, 2, 3, 4]) (lo' := y_lo i) rfl ?_
  exact k _ _ _ A2 ⟨⟨_, J2⟩, (j_T_J J2).2⟩ (by omega) (by omega)
theorem y_k58 {Γ : q_Γ} (hG : q_GG Γ) {i : Nat} (hi : i + 6 ≤ Γ.2.2.2.1) (hL : Γ.2.2.2.1 ≤ 3072) {h : q_F} (hA : q_Al 0 155 h) (J : t_J h) (E : h 1 1 = h 139 14) {cl sl : Nat} (hc : cl ≤ 3900) (hs : sl ≤ 39000) (k : y_K Γ i cl sl) : q_R Γ q_K 155 368 y_P (2123, y_lo i, [], q_hp q_K 155 h, [], cl, sl) := by
  obtain ⟨S, J⟩ := J
  refine r_aload_n c368_2123 rfl rfl ?_
  refine y_arg c368_2124 c368_2125 c368_2127 c368_2128 c368_2129 rfl rfl rfl hi hL (by decide) ?_
  obtain ⟨v1, e1⟩ := c_outByte (Γ.1 (i + 1)) h
  refine y_cp (a := 0) (b := 0) c368_2130 (by decide) rfl rfl rfl rfl (by omega) (by omega) rfl rfl (wn194 hG (hG.1 (i + 1)) hA e1) ?_
  intro i1
  refine r_pop c368_2133 rfl rfl ?_
  refine r_aload_n c368_2134 rfl rfl ?_
  refine y_arg c368_2135 c368_2136 c368_2138 c368_2139 c368_2140 rfl rfl rfl hi hL (by decide) ?_
  obtain ⟨v2, g2, e2, J2⟩ := t_r_outByte (v := (Γ.1 (i + 1))) hA J
  refine y_cv (a := 0) (b := 0) c368_2141 (by decide) rfl rfl rfl rfl (by omega) (by omega) rfl rfl (wn304 hG (hG.1 (i + 1)) hA e2) ?_
  intro i2 A2
  refine r_pop c368_2144 rfl rfl ?_
  refine r_goto c368_2145 ?_
  refine q_R.wk (ks := [5, 0, 1, 2, 3, 4]) (lo' := y_lo i) rfl ?_
  exact k _ _ _ A2 ⟨⟨_, J2⟩, (j_T_J J2).2⟩ (by omega) (by omega)
theorem y_k59 {Γ : q_Γ} (hG : q_GG Γ) {i : Nat} (hi : i + 6 ≤ Γ.2.2.2.1) (hL : Γ.2.2.2.1 ≤ 3072) {h : q_F} (hA : q_Al 0 155 h) (J : t_J h) (E : h 1 1 = h 139 14) {cl sl : Nat} (hc : cl ≤ 3900) (hs : sl ≤ 39000) (k : y_K Γ i cl sl) : q_R Γ q_K 155 368 y_P (2148, y_lo i, [], q_hp q_K 155 h, [], cl, sl) := by
  obtain ⟨S, J⟩ := J
  refine r_aload_n c368_2148 rfl rfl ?_
  obtain ⟨v1, g1, e1, J1⟩ := t_c_undo  hA J
  refine y_cv (a := 0) (b := 0) c368_2149 (by decide) rfl rfl rfl rfl (by omega) (by omega) rfl rfl (wn228 hG  hA e1) ?_
  intro i1 A1
  refine r_pop c368_2152 rfl rfl ?_
  refine r_aload_n c368_2153 rfl rfl ?_
  obtain ⟨v2, g2, e2, J2⟩ := t_r_undo  A1 J1
  refine y_cv (a := 0) (b := 0) c368_2154 (by decide) rfl rfl rfl rfl (by omega) (by omega) rfl rfl (wn360 hG  A1 e2) ?_
  intro i2 A2
  refine r_pop c368_2157 rfl rfl ?_
  refine r_goto c368_2158 ?_
  refine q_R.wk (ks := [5, 0, 1, 2, 3, 4]) (lo' := y_lo i) rfl ?_
  exact k _ _ _ A2 ⟨⟨_, J2⟩, (j_T_J J2).2⟩ (by omega) (by omega)
theorem y_k60 {Γ : q_Γ} (hG : q_GG Γ) {i : Nat} (hi : i + 6 ≤ Γ.2.2.2.1) (hL : Γ.2.2.2.1 ≤ 3072) {h : q_F} (hA : q_Al 0 155 h) (J : t_J h) (E : h 1 1 = h 139 14) {cl sl : Nat} (hc : cl ≤ 3900) (hs : sl ≤ 39000) (k : y_K Γ i cl sl) : q_R Γ q_K 155 368 y_P (2161, y_lo i, [], q_hp q_K 155 h, [], cl, sl) := by
  obtain ⟨S, J⟩ := J
  refine r_aload_n c368_2161 rfl rfl ?_
  obtain ⟨v1, g1, e1, J1⟩ := t_c_save  hA J
  refine y_cv (a := 0) (b := 0) c368_2162 (by decide) rfl rfl rfl rfl (by omega) (by omega) rfl rfl (wn209 hG  hA e1) ?_
  intro i1 A1
  refine r_pop c368_2165 rfl rfl ?_
  refine r_aload_n c368_2166 rfl rfl ?_
  obtain ⟨v2, g2, e2, J2⟩ := t_r_save  A1 J1
  refine y_cv (a := 0) (b := 0) c368_2167 (by decide) rfl rfl rfl rfl (by omega) (by omega) rfl rfl (wn326 hG  A1 e2) ?_
  intro i2 A2
  refine r_pop c368_2170 rfl rfl ?_
  refine r_goto c368_2171 ?_
  refine q_R.wk (ks := [5, 0, 1, 2, 3, 4]) (lo' := y_lo i) rfl ?_
  exact k _ _ _ A2 ⟨⟨_, J2⟩, (j_T_J J2).2⟩ (by omega) (by omega)
theorem y_k61 {Γ : q_Γ} (hG : q_GG Γ) {i : Nat} (hi : i + 6 ≤ Γ.2.2.2.1) (hL : Γ.2.2.2.1 ≤ 3072) {h : q_F} (hA : q_Al 0 155 h) (J : t_J h) (E : h 1 1 = h 139 14) {cl sl : Nat} (hc : cl ≤ 3900) (hs : sl ≤ 39000) (k : y_K Γ i cl sl) : q_R Γ q_K 155 368 y_P (2174, y_lo i, [], q_hp q_K 155 h, [], cl, sl) := by
  obtain ⟨S, J⟩ := J
  refine r_aload_n c368_2174 rfl rfl ?_
  refine r_aload_n c368_2175 rfl rfl ?_
  obtain ⟨v1, g1, e1, J1⟩ := t_L23  hA J
  refine y_cs (a := 1) (b := 6) c368_2176 rfl rfl (by omega) (by omega) rfl rfl (wn23 hG  hA e1) ?_
  intro i1 A1
  refine r_istore c368_2179 (lo' := [(6, (0, v1)), (5, (0, (i : Int))), (0, (9, 0)), (1, (2, Int.ofNat 0)), (2, (2, Int.ofNat 139)), (3, (2, Int.ofNat 153)), (4, (2, Int.ofNat 154))]) rfl rfl rfl ?_
  refine r_aload_n c368_2181 rfl rfl ?_
  obtain ⟨v2, g2, e2, J2⟩ := t_r_rest  A1 J1
  refine y_cv (a := 0) (b := 0) c368_2182 (by decide) rfl rfl rfl rfl (by omega) (by omega) rfl rfl (wn322 hG  A1 e2) ?_
  intro i2 A2
  refine r_istore c368_2185 (lo' := [(7, (0, v2)), (6, (0, v1)), (5, (0, (i : Int))), (0, (9, 0)), (1, (2, Int.ofNat 0)), (2, (2, Int.ofNat 139)), (3, (2, Int.ofNat 153)), (4, (2, Int.ofNat 154))]) rfl rfl rfl ?_
  refine r_goto c368_2187 ?_
  refine q_R.wk (ks := [5, 0, 1, 2, 3, 4]) (lo' := y_lo i) rfl ?_
  exact k _ _ _ A2 ⟨⟨_, J2⟩, (j_T_J J2).2⟩ (by omega) (by omega)
end -- [99ch.law]
section -- [99e.switch]
/-! Part 99e: the law's switch. Printed by wip/tools/genlaw.py. -/
def y_offs : Array Int := #[263, 336, 361, 374, 387, 400, 428, 468, 496, 524, 552, 566, 594, 634, 686, 702, 730, 743, 784, 825, 865, 893, 933, 973, 1013, 1065, 1094, 1110, 1123, 1187, 1215, 1255, 1307, 1363, 1391, 1404, 1460, 1509, 1537, 1565, 1605, 1633, 1662, 1677, 1706, 1734, 1762, 1775, 1827, 1840, 1868, 1896, 1909, 1925, 1981, 2021, 2036, 2065, 2078, 2103, 2116, 2129]
theorem y_sw {Γ : q_Γ} (hG : q_GG Γ) {i : Nat} (hi : i + 6 ≤ Γ.2.2.2.1) (hL : Γ.2.2.2.1 ≤ 3072) {h : q_F} (hA : q_Al 0 155 h) (J : t_J h) (E : h 1 1 = h 139 14) {cl sl : Nat} (hc : cl ≤ 3900) (hs : sl ≤ 39000) (kk : y_K Γ i cl sl) {d lo9 hi9 : Int} {offs : Array Int} (hd : d = 2145) (hl : lo9 = 0) (hh : hi9 = 61) (ho : offs = y_offs) (z : Int) (z0 : 0 ≤ z) (z1 : z ≤ 61) : ∃ t, q_tgt 45 d lo9 hi9 offs z = some t ∧ q_R Γ q_K 155 368 y_P (t, y_lo i, [], q_hp q_K 155 h, [], cl, sl) := by
  subst hd; subst hl; subst hh; subst ho
  by_cases c0_61 : z ≤ 30
  · by_cases c0_30 : z ≤ 15
    · by_cases c0_15 : z ≤ 7
      · by_cases c0_7 : z ≤ 3
        · by_cases c0_3 : z ≤ 1
          · by_cases c0_1 : z ≤ 0
            · have e9 : z = 0 := by omega
              subst e9
              exact ⟨308, rfl, y_k0 hG hi hL hA J E (by omega) (by omega) kk⟩
            · have e9 : z = 1 := by omega
              subst e9
              exact ⟨381, rfl, y_k1 hG hi hL hA J E (by omega) (by omega) kk⟩
          · by_cases c2_3 : z ≤ 2
            · have e9 : z = 2 := by omega
              subst e9
              exact ⟨406, rfl, y_k2 hG hi hL hA J E (by omega) (by omega) kk⟩
            · have e9 : z = 3 := by omega
              subst e9
              exact ⟨419, rfl, y_k3 hG hi hL hA J E (by omega) (by omega) kk⟩
        · by_cases c4_7 : z ≤ 5
          · by_cases c4_5 : z ≤ 4
            · have e9 : z = 4 := by omega
              subst e9
              exact ⟨432, rfl, y_k4 hG hi hL hA J E (by omega) (by omega) kk⟩
            · have e9 : z = 5 := by omega
              subst e9
              exact ⟨445, rfl, y_k5 hG hi hL hA J E (by omega) (by omega) kk⟩
          · by_cases c6_7 : z ≤ 6
            · have e9 : z = 6 := by omega
              subst e9
              exact ⟨473, rfl, y_k6 hG hi hL hA J E (by omega) (by omega) kk⟩
            · have e9 : z = 7 := by omega
              subst e9
              exact ⟨513, rfl, y_k7 hG hi hL hA J E (by omega) (by omega) kk⟩
      · by_cases c8_15 : z ≤ 11
        · by_cases c8_11 : z ≤ 9
          · by_cases c8_9 : z ≤ 8
            · have e9 : z = 8 := by omega
              subst e9
              exact ⟨541, rfl, y_k8 hG hi hL hA J E (by omega) (by omega) kk⟩
            · have e9 : z = 9 := by omega
              subst e9
              exact ⟨569, rfl, y_k9 hG hi hL hA J E (by omega) (by omega) kk⟩
          · by_cases c10_11 : z ≤ 10
            · have e9 : z = 10 := by omega
              subst e9
              exact ⟨597, rfl, y_k10 hG hi hL hA J E (by omega) (by omega) kk⟩
            · have e9 : z = 11 := by omega
              subst e9
              exact ⟨611, rfl, y_k11 hG hi hL hA J E (by omega) (by omega) kk⟩
        · by_cases c12_15 : z ≤ 13
          · by_cases c12_13 : z ≤ 12
            · have e9 : z = 12 := by omega
              subst e9
              exact ⟨639, rfl, y_k12 hG hi hL hA J E (by omega) (by omega) kk⟩
            · have e9 : z = 13 := by omega
              subst e9
              exact ⟨679, rfl, y_k13 hG hi hL hA J E (by omega) (by omega) kk⟩
          · by_cases c14_15 : z ≤ 14
            · have e9 : z = 14 := by omega
              subst e9
              exact ⟨731, rfl, y_k14 hG hi hL hA J E (by omega) (by omega) kk⟩
            · have e9 : z = 15 := by omega
              subst e9
              exact ⟨747, rfl, y_k15 hG hi hL hA J E (by omega) (by omega) kk⟩
    · by_cases c16_30 : z ≤ 23
      · by_cases c16_23 : z ≤ 19
        · by_cases c16_19 : z ≤ 17
          · by_cases c16_17 : z ≤ 16
            · have e9 : z = 16 := by omega
              subst e9
              exact ⟨775, rfl, y_k16 hG hi hL hA J E (by omega) (by omega) kk⟩
            · have e9 : z = 17 := by omega
              subst e9
              exact ⟨788, rfl, y_k17 hG hi hL hA J E (by omega) (by omega) kk⟩
          · by_cases c18_19 : z ≤ 18
            · have e9 : z = 18 := by omega
              subst e9
              exact ⟨829, rfl, y_k18 hG hi hL hA J E (by omega) (by omega) kk⟩
            · have e9 : z = 19 := by omega
              subst e9
              exact ⟨870, rfl, y_k19 hG hi hL hA J E (by omega) (by omega) kk⟩
        · by_cases c20_23 : z ≤ 21
          · by_cases c20_21 : z ≤ 20
            · have e9 : z = 20 := by omega
              subst e9
              exact ⟨910, rfl, y_k20 hG hi hL hA J E (by omega) (by omega) kk⟩
            · have e9 : z = 21 := by omega
              subst e9
              exact ⟨938, rfl, y_k21 hG hi hL hA J E (by omega) (by omega) kk⟩
          · by_cases c22_23 : z ≤ 22
            · have e9 : z = 22 := by omega
              subst e9
              exact ⟨978, rfl, y_k22 hG hi hL hA J E (by omega) (by omega) kk⟩
            · have e9 : z = 23 := by omega
              subst e9
              exact ⟨1018, rfl, y_k23 hG hi hL hA J E (by omega) (by omega) kk⟩
      · by_cases c24_30 : z ≤ 27
        · by_cases c24_27 : z ≤ 25
          · by_cases c24_25 : z ≤ 24
            · have e9 : z = 24 := by omega
              subst e9
              exact ⟨1058, rfl, y_k24 hG hi hL hA J E (by omega) (by omega) kk⟩
            · have e9 : z = 25 := by omega
              subst e9
              exact ⟨1110, rfl, y_k25 hG hi hL hA J E (by omega) (by omega) kk⟩
          · by_cases c26_27 : z ≤ 26
            · have e9 : z = 26 := by omega
              subst e9
              exact ⟨1139, rfl, y_k26 hG hi hL hA J E (by omega) (by omega) kk⟩
            · have e9 : z = 27 := by omega
              subst e9
              exact ⟨1155, rfl, y_k27 hG hi hL hA J E (by omega) (by omega) kk⟩
        · by_cases c28_30 : z ≤ 29
          · by_cases c28_29 : z ≤ 28
            · have e9 : z = 28 := by omega
              subst e9
              exact ⟨1168, rfl, y_k28 hG hi hL hA J E (by omega) (by omega) kk⟩
            · have e9 : z = 29 := by omega
              subst e9
              exact ⟨1232, rfl, y_k29 hG hi hL hA J E (by omega) (by omega) kk⟩
          · have e9 : z = 30 := by omega
            subst e9
            exact ⟨1260, rfl, y_k30 hG hi hL hA J E (by omega) (by omega) kk⟩
  · by_cases c31_61 : z ≤ 46
    · by_cases c31_46 : z ≤ 38
      · by_cases c31_38 : z ≤ 34
        · by_cases c31_34 : z ≤ 32
          · by_cases c31_32 : z ≤ 31
            · have e9 : z = 31 := by omega
              subst e9
              exact ⟨1300, rfl, y_k31 hG hi hL hA J E (by omega) (by omega) kk⟩
            · have e9 : z = 32 := by omega
              subst e9
              exact ⟨1352, rfl, y_k32 hG hi hL hA J E (by omega) (by omega) kk⟩
          · by_cases c33_34 : z ≤ 33
            · have e9 : z = 33 := by omega
              subst e9
              exact ⟨1408, rfl, y_k33 hG hi hL hA J E (by omega) (by omega) kk⟩
            · have e9 : z = 34 := by omega
              subst e9
              exact ⟨1436, rfl, y_k34 hG hi hL hA J E (by omega) (by omega) kk⟩
        · by_cases c35_38 : z ≤ 36
          · by_cases c35_36 : z ≤ 35
            · have e9 : z = 35 := by omega
              subst e9
              exact ⟨1449, rfl, y_k35 hG hi hL hA J E (by omega) (by omega) kk⟩
            · have e9 : z = 36 := by omega
              subst e9
              exact ⟨1505, rfl, y_k36 hG hi hL hA J E (by omega) (by omega) kk⟩
          · by_cases c37_38 : z ≤ 37
            · have e9 : z = 37 := by omega
              subst e9
              exact ⟨1554, rfl, y_k37 hG hi hL hA J E (by omega) (by omega) kk⟩
            · have e9 : z = 38 := by omega
              subst e9
              exact ⟨1582, rfl, y_k38 hG hi hL hA J E (by omega) (by omega) kk⟩
      · by_cases c39_46 : z ≤ 42
        · by_cases c39_42 : z ≤ 40
          · by_cases c39_40 : z ≤ 39
            · have e9 : z = 39 := by omega
              subst e9
              exact ⟨1610, rfl, y_k39 hG hi hL hA J E (by omega) (by omega) kk⟩
            · have e9 : z = 40 := by omega
              subst e9
              exact ⟨1650, rfl, y_k40 hG hi hL hA J E (by omega) (by omega) kk⟩
          · by_cases c41_42 : z ≤ 41
            · have e9 : z = 41 := by omega
              subst e9
              exact ⟨1678, rfl, y_k41 hG hi hL hA J E (by omega) (by omega) kk⟩
            · have e9 : z = 42 := by omega
              subst e9
              exact ⟨1707, rfl, y_k42 hG hi hL hA J E (by omega) (by omega) kk⟩
        · by_cases c43_46 : z ≤ 44
          · by_cases c43_44 : z ≤ 43
            · have e9 : z = 43 := by omega
              subst e9
              exact ⟨1722, rfl, y_k43 hG hi hL hA J E (by omega) (by omega) kk⟩
            · have e9 : z = 44 := by omega
              subst e9
              exact ⟨1751, rfl, y_k44 hG hi hL hA J E (by omega) (by omega) kk⟩
          · by_cases c45_46 : z ≤ 45
            · have e9 : z = 45 := by omega
              subst e9
              exact ⟨1779, rfl, y_k45 hG hi hL hA J E (by omega) (by omega) kk⟩
            · have e9 : z = 46 := by omega
              subst e9
              exact ⟨1807, rfl, y_k46 hG hi hL hA J E (by omega) (by omega) kk⟩
    · by_cases c47_61 : z ≤ 54
      · by_cases c47_54 : z ≤ 50
        · by_cases c47_50 : z ≤ 48
          · by_cases c47_48 : z ≤ 47
            · have e9 : z = 47 := by omega
              subst e9
              exact ⟨1820, rfl, y_k47 hG hi hL hA J E (by omega) (by omega) kk⟩
            · have e9 : z = 48 := by omega
              subst e9
              exact ⟨1872, rfl, y_k48 hG hi hL hA J E (by omega) (by omega) kk⟩
          · by_cases c49_50 : z ≤ 49
            · have e9 : z = 49 := by omega
              subst e9
              exact ⟨1885, rfl, y_k49 hG hi hL hA J E (by omega) (by omega) kk⟩
            · have e9 : z = 50 := by omega
              subst e9
              exact ⟨1913, rfl, y_k50 hG hi hL hA J E (by omega) (by omega) kk⟩
        · by_cases c51_54 : z ≤ 52
          · by_cases c51_52 : z ≤ 51
            · have e9 : z = 51 := by omega
              subst e9
              exact ⟨1941, rfl, y_k51 hG hi hL hA J E (by omega) (by omega) kk⟩
            · have e9 : z = 52 := by omega
              subst e9
              exact ⟨1954, rfl, y_k52 hG hi hL hA J E (by omega) (by omega) kk⟩
          · by_cases c53_54 : z ≤ 53
            · have e9 : z = 53 := by omega
              subst e9
              exact ⟨1970, rfl, y_k53 hG hi hL hA J E (by omega) (by omega) kk⟩
            · have e9 : z = 54 := by omega
              subst e9
              exact ⟨2026, rfl, y_k54 hG hi hL hA J E (by omega) (by omega) kk⟩
      · by_cases c55_61 : z ≤ 58
        · by_cases c55_58 : z ≤ 56
          · by_cases c55_56 : z ≤ 55
            · have e9 : z = 55 := by omega
              subst e9
              exact ⟨2066, rfl, y_k55 hG hi hL hA J E (by omega) (by omega) kk⟩
            · have e9 : z = 56 := by omega
              subst e9
              exact ⟨2081, rfl, y_k56 hG hi hL hA J E (by omega) (by omega) kk⟩
          · by_cases c57_58 : z ≤ 57
            · have e9 : z = 57 := by omega
              subst e9
              exact ⟨2110, rfl, y_k57 hG hi hL hA J E (by omega) (by omega) kk⟩
            · have e9 : z = 58 := by omega
              subst e9
              exact ⟨2123, rfl, y_k58 hG hi hL hA J E (by omega) (by omega) kk⟩
        · by_cases c59_61 : z ≤ 60
          · by_cases c59_60 : z ≤ 59
            · have e9 : z = 59 := by omega
              subst e9
              exact ⟨2148, rfl, y_k59 hG hi hL hA J E (by omega) (by omega) kk⟩
            · have e9 : z = 60 := by omega
              subst e9
              exact ⟨2161, rfl, y_k60 hG hi hL hA J E (by omega) (by omega) kk⟩
          · have e9 : z = 61 := by omega
            subst e9
            exact ⟨2174, rfl, y_k61 hG hi hL hA J E (by omega) (by omega) kk⟩
end -- [99e.switch]
