section -- [99ca.law]
/-! Part 99ca: cases of the law. Printed by wip/tools/genlaw.py. -/
theorem y_k0 {Γ : q_Γ} (hG : q_GG Γ) {i : Nat} (hi : i + 6 ≤ Γ.2.2.2.1) (hL : Γ.2.2.2.1 ≤ 3072) {h : q_F} (hA : q_Al 0 155 h) (J : t_J h) (E : h 1 1 = h 139 14) {cl sl : Nat} (hc : cl ≤ 3900) (hs : sl ≤ 39000) (k : y_K Γ i cl sl) : q_R Γ q_K 155 368 y_P (308, y_lo i, [], q_hp q_K 155 h, [], cl, sl) := by
  obtain ⟨S, J⟩ := J
  refine r_aload_n c368_308 rfl rfl ?_
  refine y_arg c368_309 c368_310 c368_312 c368_313 c368_314 rfl rfl rfl hi hL (by decide) ?_
  refine y_arg c368_315 c368_316 c368_318 c368_319 c368_320 rfl rfl rfl hi hL (by decide) ?_
  refine y_arg c368_321 c368_322 c368_324 c368_325 c368_326 rfl rfl rfl hi hL (by decide) ?_
  refine y_arg c368_327 c368_328 c368_330 c368_331 c368_332 rfl rfl rfl hi hL (by decide) ?_
  refine y_arg c368_333 c368_334 c368_336 c368_337 c368_338 rfl rfl rfl hi hL (by decide) ?_
  obtain ⟨v1, g1, g2, S2, e1, e2, J2⟩ := t_app (a := (Γ.1 (i + 1))) (b := (Γ.1 (i + 2))) (c := (Γ.1 (i + 3))) (d := (Γ.1 (i + 4))) (e := (Γ.1 (i + 5))) J
  refine y_cv (a := 0) (b := 0) c368_339 (by decide) rfl rfl rfl rfl (by omega) (by omega) rfl rfl (wn156 hG (hG.1 (i + 1)) (hG.1 (i + 2)) (hG.1 (i + 3)) (hG.1 (i + 4)) (hG.1 (i + 5)) hA e1) ?_
  intro i1 A1
  refine r_pop c368_342 rfl rfl ?_
  refine r_aload_n c368_343 rfl rfl ?_
  refine y_arg c368_344 c368_345 c368_347 c368_348 c368_349 rfl rfl rfl hi hL (by decide) ?_
  refine y_arg c368_350 c368_351 c368_353 c368_354 c368_355 rfl rfl rfl hi hL (by decide) ?_
  refine y_arg c368_356 c368_357 c368_359 c368_360 c368_361 rfl rfl rfl hi hL (by decide) ?_
  refine y_arg c368_362 c368_363 c368_365 c368_366 c368_367 rfl rfl rfl hi hL (by decide) ?_
  refine y_arg c368_368 c368_369 c368_371 c368_372 c368_373 rfl rfl rfl hi hL (by decide) ?_
  refine y_cv (a := 0) (b := 0) c368_374 (by decide) rfl rfl rfl rfl (by omega) (by omega) rfl rfl (wn237 hG (hG.1 (i + 1)) (hG.1 (i + 2)) (hG.1 (i + 3)) (hG.1 (i + 4)) (hG.1 (i + 5)) A1 e2) ?_
  intro i2 A2
  refine r_pop c368_377 rfl rfl ?_
  refine r_goto c368_378 ?_
  refine q_R.wk (ks := [5, 0, 1, 2, 3, 4]) (lo' := y_lo i) rfl ?_
  exact k _ _ _ A2 ⟨⟨_, J2⟩, (j_T_J J2).2⟩ (by omega) (by omega)
theorem y_k1 {Γ : q_Γ} (hG : q_GG Γ) {i : Nat} (hi : i + 6 ≤ Γ.2.2.2.1) (hL : Γ.2.2.2.1 ≤ 3072) {h : q_F} (hA : q_Al 0 155 h) (J : t_J h) (E : h 1 1 = h 139 14) {cl sl : Nat} (hc : cl ≤ 3900) (hs : sl ≤ 39000) (k : y_K Γ i cl sl) : q_R Γ q_K 155 368 y_P (381, y_lo i, [], q_hp q_K 155 h, [], cl, sl) := by
  obtain ⟨S, J⟩ := J
  refine r_aload_n c368_381 rfl rfl ?_
  refine y_arg c368_382 c368_383 c368_385 c368_386 c368_387 rfl rfl rfl hi hL (by decide) ?_
  obtain ⟨v1, g1, g2, S2, e1, e2, J2⟩ := t_tru (v := (Γ.1 (i + 1))) J
  refine y_cv (a := 0) (b := 0) c368_388 (by decide) rfl rfl rfl rfl (by omega) (by omega) rfl rfl (wn226 hG (hG.1 (i + 1)) hA e1) ?_
  intro i1 A1
  refine r_pop c368_391 rfl rfl ?_
  refine r_aload_n c368_392 rfl rfl ?_
  refine y_arg c368_393 c368_394 c368_396 c368_397 c368_398 rfl rfl rfl hi hL (by decide) ?_
  refine y_cv (a := 0) (b := 0) c368_399 (by decide) rfl rfl rfl rfl (by omega) (by omega) rfl rfl (wn358 hG (hG.1 (i + 1)) A1 e2) ?_
  intro i2 A2
  refine r_pop c368_402 rfl rfl ?_
  refine r_goto c368_403 ?_
  refine q_R.wk (ks := [5, 0, 1, 2, 3, 4]) (lo' := y_lo i) rfl ?_
  exact k _ _ _ A2 ⟨⟨_, J2⟩, (j_T_J J2).2⟩ (by omega) (by omega)
theorem y_k2 {Γ : q_Γ} (hG : q_GG Γ) {i : Nat} (hi : i + 6 ≤ Γ.2.2.2.1) (hL : Γ.2.2.2.1 ≤ 3072) {h : q_F} (hA : q_Al 0 155 h) (J : t_J h) (E : h 1 1 = h 139 14) {cl sl : Nat} (hc : cl ≤ 3900) (hs : sl ≤ 39000) (k : y_K Γ i cl sl) : q_R Γ q_K 155 368 y_P (406, y_lo i, [], q_hp q_K 155 h, [], cl, sl) := by
  obtain ⟨S, J⟩ := J
  refine r_aload_n c368_406 rfl rfl ?_
  obtain ⟨v1, g1, g2, S2, e1, e2, J2⟩ := t_load  J
  refine y_cv (a := 0) (b := 0) c368_407 (by decide) rfl rfl rfl rfl (by omega) (by omega) rfl rfl (wn187 hG  hA e1) ?_
  intro i1 A1
  refine r_pop c368_410 rfl rfl ?_
  refine r_aload_n c368_411 rfl rfl ?_
  refine y_cv (a := 0) (b := 0) c368_412 (by decide) rfl rfl rfl rfl (by omega) (by omega) rfl rfl (wn283 hG  A1 e2) ?_
  intro i2 A2
  refine r_pop c368_415 rfl rfl ?_
  refine r_goto c368_416 ?_
  refine q_R.wk (ks := [5, 0, 1, 2, 3, 4]) (lo' := y_lo i) rfl ?_
  exact k _ _ _ A2 ⟨⟨_, J2⟩, (j_T_J J2).2⟩ (by omega) (by omega)
theorem y_k3 {Γ : q_Γ} (hG : q_GG Γ) {i : Nat} (hi : i + 6 ≤ Γ.2.2.2.1) (hL : Γ.2.2.2.1 ≤ 3072) {h : q_F} (hA : q_Al 0 155 h) (J : t_J h) (E : h 1 1 = h 139 14) {cl sl : Nat} (hc : cl ≤ 3900) (hs : sl ≤ 39000) (k : y_K Γ i cl sl) : q_R Γ q_K 155 368 y_P (419, y_lo i, [], q_hp q_K 155 h, [], cl, sl) := by
  obtain ⟨S, J⟩ := J
  refine r_aload_n c368_419 rfl rfl ?_
  obtain ⟨v1, e1⟩ := c_errCode h
  refine y_cp (a := 0) (b := 0) c368_420 (by decide) rfl rfl rfl rfl (by omega) (by omega) rfl rfl (wn177 hG  hA e1) ?_
  intro i1
  refine r_pop c368_423 rfl rfl ?_
  refine r_aload_n c368_424 rfl rfl ?_
  obtain ⟨v2, g2, e2, J2⟩ := t_r_errCode  hA J
  refine y_cv (a := 0) (b := 0) c368_425 (by decide) rfl rfl rfl rfl (by omega) (by omega) rfl rfl (wn255 hG  hA e2) ?_
  intro i2 A2
  refine r_pop c368_428 rfl rfl ?_
  refine r_goto c368_429 ?_
  refine q_R.wk (ks := [5, 0, 1, 2, 3, 4]) (lo' := y_lo i) rfl ?_
  exact k _ _ _ A2 ⟨⟨_, J2⟩, (j_T_J J2).2⟩ (by omega) (by omega)
theorem y_k4 {Γ : q_Γ} (hG : q_GG Γ) {i : Nat} (hi : i + 6 ≤ Γ.2.2.2.1) (hL : Γ.2.2.2.1 ≤ 3072) {h : q_F} (hA : q_Al 0 155 h) (J : t_J h) (E : h 1 1 = h 139 14) {cl sl : Nat} (hc : cl ≤ 3900) (hs : sl ≤ 39000) (k : y_K Γ i cl sl) : q_R Γ q_K 155 368 y_P (432, y_lo i, [], q_hp q_K 155 h, [], cl, sl) := by
  obtain ⟨S, J⟩ := J
  refine r_aload_n c368_432 rfl rfl ?_
  obtain ⟨v1, e1⟩ := c_errOff h
  refine y_cp (a := 0) (b := 0) c368_433 (by decide) rfl rfl rfl rfl (by omega) (by omega) rfl rfl (wn178 hG  hA e1) ?_
  intro i1
  refine r_pop c368_436 rfl rfl ?_
  refine r_aload_n c368_437 rfl rfl ?_
  obtain ⟨v2, g2, e2, J2⟩ := t_r_errOff  hA J
  refine y_cv (a := 0) (b := 0) c368_438 (by decide) rfl rfl rfl rfl (by omega) (by omega) rfl rfl (wn257 hG  hA e2) ?_
  intro i2 A2
  refine r_pop c368_441 rfl rfl ?_
  refine r_goto c368_442 ?_
  refine q_R.wk (ks := [5, 0, 1, 2, 3, 4]) (lo' := y_lo i) rfl ?_
  exact k _ _ _ A2 ⟨⟨_, J2⟩, (j_T_J J2).2⟩ (by omega) (by omega)
theorem y_k5 {Γ : q_Γ} (hG : q_GG Γ) {i : Nat} (hi : i + 6 ≤ Γ.2.2.2.1) (hL : Γ.2.2.2.1 ≤ 3072) {h : q_F} (hA : q_Al 0 155 h) (J : t_J h) (E : h 1 1 = h 139 14) {cl sl : Nat} (hc : cl ≤ 3900) (hs : sl ≤ 39000) (k : y_K Γ i cl sl) : q_R Γ q_K 155 368 y_P (445, y_lo i, [], q_hp q_K 155 h, [], cl, sl) := by
  obtain ⟨S, J⟩ := J
  refine r_aload_n c368_445 rfl rfl ?_
  refine y_arg c368_446 c368_447 c368_449 c368_450 c368_451 rfl rfl rfl hi hL (by decide) ?_
  refine r_aload_n c368_452 rfl rfl ?_
  obtain ⟨v1, g1, e1, J1⟩ := t_L5 (v1 := (Γ.1 (i + 1))) hA J
  refine y_cs (a := 1) (b := 6) c368_453 rfl rfl (by omega) (by omega) rfl rfl (wn5 hG (hG.1 (i + 1)) hA e1) ?_
  intro i1 A1
  refine r_istore c368_456 (lo' := [(6, (0, v1)), (5, (0, (i : Int))), (0, (9, 0)), (1, (2, Int.ofNat 0)), (2, (2, Int.ofNat 139)), (3, (2, Int.ofNat 153)), (4, (2, Int.ofNat 154))]) rfl rfl rfl ?_
  refine r_aload_n c368_458 rfl rfl ?_
  refine y_arg c368_459 c368_460 c368_462 c368_463 c368_464 rfl rfl rfl hi hL (by decide) ?_
  obtain ⟨v2, g2, e2, J2⟩ := t_r_count (v := (Γ.1 (i + 1))) A1 J1
  refine y_cv (a := 0) (b := 0) c368_465 (by decide) rfl rfl rfl rfl (by omega) (by omega) rfl rfl (wn250 hG (hG.1 (i + 1)) A1 e2) ?_
  intro i2 A2
  refine r_istore c368_468 (lo' := [(7, (0, v2)), (6, (0, v1)), (5, (0, (i : Int))), (0, (9, 0)), (1, (2, Int.ofNat 0)), (2, (2, Int.ofNat 139)), (3, (2, Int.ofNat 153)), (4, (2, Int.ofNat 154))]) rfl rfl rfl ?_
  refine r_goto c368_470 ?_
  refine q_R.wk (ks := [5, 0, 1, 2, 3, 4]) (lo' := y_lo i) rfl ?_
  exact k _ _ _ A2 ⟨⟨_, J2⟩, (j_T_J J2).2⟩ (by omega) (by omega)
theorem y_k6 {Γ : q_Γ} (hG : q_GG Γ) {i : Nat} (hi : i + 6 ≤ Γ.2.2.2.1) (hL : Γ.2.2.2.1 ≤ 3072) {h : q_F} (hA : q_Al 0 155 h) (J : t_J h) (E : h 1 1 = h 139 14) {cl sl : Nat} (hc : cl ≤ 3900) (hs : sl ≤ 39000) (k : y_K Γ i cl sl) : q_R Γ q_K 155 368 y_P (473, y_lo i, [], q_hp q_K 155 h, [], cl, sl) := by
  obtain ⟨S, J⟩ := J
  refine r_aload_n c368_473 rfl rfl ?_
  refine y_arg c368_474 c368_475 c368_477 c368_478 c368_479 rfl rfl rfl hi hL (by decide) ?_
  refine y_arg c368_480 c368_481 c368_483 c368_484 c368_485 rfl rfl rfl hi hL (by decide) ?_
  refine r_aload_n c368_486 rfl rfl ?_
  obtain ⟨v1, g1, e1, J1⟩ := t_L1 (v1 := (Γ.1 (i + 1))) (v2 := (Γ.1 (i + 2))) hA J
  refine y_cs (a := 2) (b := 12) c368_487 rfl rfl (by omega) (by omega) rfl rfl (wn1 hG (hG.1 (i + 1)) (hG.1 (i + 2)) hA e1) ?_
  intro i1 A1
  refine r_istore c368_490 (lo' := [(6, (0, v1)), (5, (0, (i : Int))), (0, (9, 0)), (1, (2, Int.ofNat 0)), (2, (2, Int.ofNat 139)), (3, (2, Int.ofNat 153)), (4, (2, Int.ofNat 154))]) rfl rfl rfl ?_
  refine r_aload_n c368_492 rfl rfl ?_
  refine y_arg c368_493 c368_494 c368_496 c368_497 c368_498 rfl rfl rfl hi hL (by decide) ?_
  refine y_arg c368_499 c368_500 c368_502 c368_503 c368_504 rfl rfl rfl hi hL (by decide) ?_
  obtain ⟨v2, g2, e2, J2⟩ := t_r_axisC (a := (Γ.1 (i + 1))) (v := (Γ.1 (i + 2))) A1 J1
  refine y_cv (a := 0) (b := 0) c368_505 (by decide) rfl rfl rfl rfl (by omega) (by omega) rfl rfl (wn239 hG (hG.1 (i + 1)) (hG.1 (i + 2)) A1 e2) ?_
  intro i2 A2
  refine r_istore c368_508 (lo' := [(7, (0, v2)), (6, (0, v1)), (5, (0, (i : Int))), (0, (9, 0)), (1, (2, Int.ofNat 0)), (2, (2, Int.ofNat 139)), (3, (2, Int.ofNat 153)), (4, (2, Int.ofNat 154))]) rfl rfl rfl ?_
  refine r_goto c368_510 ?_
  refine q_R.wk (ks := [5, 0, 1, 2, 3, 4]) (lo' := y_lo i) rfl ?_
  exact k _ _ _ A2 ⟨⟨_, J2⟩, (j_T_J J2).2⟩ (by omega) (by omega)
theorem y_k7 {Γ : q_Γ} (hG : q_GG Γ) {i : Nat} (hi : i + 6 ≤ Γ.2.2.2.1) (hL : Γ.2.2.2.1 ≤ 3072) {h : q_F} (hA : q_Al 0 155 h) (J : t_J h) (E : h 1 1 = h 139 14) {cl sl : Nat} (hc : cl ≤ 3900) (hs : sl ≤ 39000) (k : y_K Γ i cl sl) : q_R Γ q_K 155 368 y_P (513, y_lo i, [], q_hp q_K 155 h, [], cl, sl) := by
  obtain ⟨S, J⟩ := J
  refine r_aload_n c368_513 rfl rfl ?_
  refine y_arg c368_514 c368_515 c368_517 c368_518 c368_519 rfl rfl rfl hi hL (by decide) ?_
  refine r_aload_n c368_520 rfl rfl ?_
  obtain ⟨v1, g1, e1, J1⟩ := t_L4 (v1 := (Γ.1 (i + 1))) hA J
  refine y_cs (a := 2) (b := 12) c368_521 rfl rfl (by omega) (by omega) rfl rfl (wn4 hG (hG.1 (i + 1)) hA e1) ?_
  intro i1 A1
  refine r_istore c368_524 (lo' := [(6, (0, v1)), (5, (0, (i : Int))), (0, (9, 0)), (1, (2, Int.ofNat 0)), (2, (2, Int.ofNat 139)), (3, (2, Int.ofNat 153)), (4, (2, Int.ofNat 154))]) rfl rfl rfl ?_
  refine r_aload_n c368_526 rfl rfl ?_
  refine y_arg c368_527 c368_528 c368_530 c368_531 c368_532 rfl rfl rfl hi hL (by decide) ?_
  obtain ⟨v2, g2, e2, J2⟩ := t_r_coordinate (a := (Γ.1 (i + 1))) A1 J1
  refine y_cv (a := 0) (b := 0) c368_533 (by decide) rfl rfl rfl rfl (by omega) (by omega) rfl rfl (wn248 hG (hG.1 (i + 1)) A1 e2) ?_
  intro i2 A2
  refine r_istore c368_536 (lo' := [(7, (0, v2)), (6, (0, v1)), (5, (0, (i : Int))), (0, (9, 0)), (1, (2, Int.ofNat 0)), (2, (2, Int.ofNat 139)), (3, (2, Int.ofNat 153)), (4, (2, Int.ofNat 154))]) rfl rfl rfl ?_
  refine r_goto c368_538 ?_
  refine q_R.wk (ks := [5, 0, 1, 2, 3, 4]) (lo' := y_lo i) rfl ?_
  exact k _ _ _ A2 ⟨⟨_, J2⟩, (j_T_J J2).2⟩ (by omega) (by omega)
end -- [99ca.law]
section -- [99cb.law]
/-! Part 99cb: cases of the law. Printed by wip/tools/genlaw.py. -/
theorem y_k8 {Γ : q_Γ} (hG : q_GG Γ) {i : Nat} (hi : i + 6 ≤ Γ.2.2.2.1) (hL : Γ.2.2.2.1 ≤ 3072) {h : q_F} (hA : q_Al 0 155 h) (J : t_J h) (E : h 1 1 = h 139 14) {cl sl : Nat} (hc : cl ≤ 3900) (hs : sl ≤ 39000) (k : y_K Γ i cl sl) : q_R Γ q_K 155 368 y_P (541, y_lo i, [], q_hp q_K 155 h, [], cl, sl) := by
  obtain ⟨S, J⟩ := J
  refine r_aload_n c368_541 rfl rfl ?_
  refine y_arg c368_542 c368_543 c368_545 c368_546 c368_547 rfl rfl rfl hi hL (by decide) ?_
  refine r_aload_n c368_548 rfl rfl ?_
  obtain ⟨v1, g1, e1, J1⟩ := t_L8 (v1 := (Γ.1 (i + 1))) hA J
  refine y_cs (a := 2) (b := 12) c368_549 rfl rfl (by omega) (by omega) rfl rfl (wn8 hG (hG.1 (i + 1)) hA e1) ?_
  intro i1 A1
  refine r_istore c368_552 (lo' := [(6, (0, v1)), (5, (0, (i : Int))), (0, (9, 0)), (1, (2, Int.ofNat 0)), (2, (2, Int.ofNat 139)), (3, (2, Int.ofNat 153)), (4, (2, Int.ofNat 154))]) rfl rfl rfl ?_
  refine r_aload_n c368_554 rfl rfl ?_
  refine y_arg c368_555 c368_556 c368_558 c368_559 c368_560 rfl rfl rfl hi hL (by decide) ?_
  obtain ⟨v2, g2, e2, J2⟩ := t_r_errorC (a := (Γ.1 (i + 1))) A1 J1
  refine y_cv (a := 0) (b := 0) c368_561 (by decide) rfl rfl rfl rfl (by omega) (by omega) rfl rfl (wn254 hG (hG.1 (i + 1)) A1 e2) ?_
  intro i2 A2
  refine r_istore c368_564 (lo' := [(7, (0, v2)), (6, (0, v1)), (5, (0, (i : Int))), (0, (9, 0)), (1, (2, Int.ofNat 0)), (2, (2, Int.ofNat 139)), (3, (2, Int.ofNat 153)), (4, (2, Int.ofNat 154))]) rfl rfl rfl ?_
  refine r_goto c368_566 ?_
  refine q_R.wk (ks := [5, 0, 1, 2, 3, 4]) (lo' := y_lo i) rfl ?_
  exact k _ _ _ A2 ⟨⟨_, J2⟩, (j_T_J J2).2⟩ (by omega) (by omega)
theorem y_k9 {Γ : q_Γ} (hG : q_GG Γ) {i : Nat} (hi : i + 6 ≤ Γ.2.2.2.1) (hL : Γ.2.2.2.1 ≤ 3072) {h : q_F} (hA : q_Al 0 155 h) (J : t_J h) (E : h 1 1 = h 139 14) {cl sl : Nat} (hc : cl ≤ 3900) (hs : sl ≤ 39000) (k : y_K Γ i cl sl) : q_R Γ q_K 155 368 y_P (569, y_lo i, [], q_hp q_K 155 h, [], cl, sl) := by
  obtain ⟨S, J⟩ := J
  refine r_aload_n c368_569 rfl rfl ?_
  refine y_arg c368_570 c368_571 c368_573 c368_574 c368_575 rfl rfl rfl hi hL (by decide) ?_
  refine r_aload_n c368_576 rfl rfl ?_
  obtain ⟨v1, g1, e1, J1⟩ := t_L22 (v1 := (Γ.1 (i + 1))) hA J
  refine y_cs (a := 1) (b := 6) c368_577 rfl rfl (by omega) (by omega) rfl rfl (wn22 hG (hG.1 (i + 1)) hA e1) ?_
  intro i1 A1
  refine r_istore c368_580 (lo' := [(6, (0, v1)), (5, (0, (i : Int))), (0, (9, 0)), (1, (2, Int.ofNat 0)), (2, (2, Int.ofNat 139)), (3, (2, Int.ofNat 153)), (4, (2, Int.ofNat 154))]) rfl rfl rfl ?_
  refine r_aload_n c368_582 rfl rfl ?_
  refine y_arg c368_583 c368_584 c368_586 c368_587 c368_588 rfl rfl rfl hi hL (by decide) ?_
  obtain ⟨v2, g2, e2, J2⟩ := t_r_readsC (a := (Γ.1 (i + 1))) A1 J1
  refine y_cv (a := 0) (b := 0) c368_589 (by decide) rfl rfl rfl rfl (by omega) (by omega) rfl rfl (wn319 hG (hG.1 (i + 1)) A1 e2) ?_
  intro i2 A2
  refine r_istore c368_592 (lo' := [(7, (0, v2)), (6, (0, v1)), (5, (0, (i : Int))), (0, (9, 0)), (1, (2, Int.ofNat 0)), (2, (2, Int.ofNat 139)), (3, (2, Int.ofNat 153)), (4, (2, Int.ofNat 154))]) rfl rfl rfl ?_
  refine r_goto c368_594 ?_
  refine q_R.wk (ks := [5, 0, 1, 2, 3, 4]) (lo' := y_lo i) rfl ?_
  exact k _ _ _ A2 ⟨⟨_, J2⟩, (j_T_J J2).2⟩ (by omega) (by omega)
theorem y_k10 {Γ : q_Γ} (hG : q_GG Γ) {i : Nat} (hi : i + 6 ≤ Γ.2.2.2.1) (hL : Γ.2.2.2.1 ≤ 3072) {h : q_F} (hA : q_Al 0 155 h) (J : t_J h) (E : h 1 1 = h 139 14) {cl sl : Nat} (hc : cl ≤ 3900) (hs : sl ≤ 39000) (k : y_K Γ i cl sl) : q_R Γ q_K 155 368 y_P (597, y_lo i, [], q_hp q_K 155 h, [], cl, sl) := by
  obtain ⟨S, J⟩ := J
  refine r_aload_n c368_597 rfl rfl ?_
  obtain ⟨v1, e1⟩ := c_time h
  refine y_cp (a := 0) (b := 0) c368_598 (by decide) rfl rfl rfl rfl (by omega) (by omega) rfl rfl (wn223 hG  hA e1) ?_
  intro i1
  refine r_pop2 c368_601 rfl rfl ?_
  refine r_aload_n c368_602 rfl rfl ?_
  obtain ⟨v2, g2, e2, J2⟩ := t_r_time  hA J
  refine y_cv (a := 0) (b := 0) c368_603 (by decide) rfl rfl rfl rfl (by omega) (by omega) rfl rfl (wn352 hG  hA e2) ?_
  intro i2 A2
  refine r_pop2 c368_606 rfl rfl ?_
  refine r_goto c368_607 ?_
  refine q_R.wk (ks := [5, 0, 1, 2, 3, 4]) (lo' := y_lo i) rfl ?_
  exact k _ _ _ A2 ⟨⟨_, J2⟩, (j_T_J J2).2⟩ (by omega) (by omega)
theorem y_k11 {Γ : q_Γ} (hG : q_GG Γ) {i : Nat} (hi : i + 6 ≤ Γ.2.2.2.1) (hL : Γ.2.2.2.1 ≤ 3072) {h : q_F} (hA : q_Al 0 155 h) (J : t_J h) (E : h 1 1 = h 139 14) {cl sl : Nat} (hc : cl ≤ 3900) (hs : sl ≤ 39000) (k : y_K Γ i cl sl) : q_R Γ q_K 155 368 y_P (610, y_lo i, [], q_hp q_K 155 h, [], cl, sl) := by
  obtain ⟨S, J⟩ := J
  refine r_aload_n c368_610 rfl rfl ?_
  refine y_arg c368_611 c368_612 c368_614 c368_615 c368_616 rfl rfl rfl hi hL (by decide) ?_
  refine r_aload_n c368_617 rfl rfl ?_
  obtain ⟨v1, g1, e1, J1⟩ := t_L9 (v1 := (Γ.1 (i + 1))) hA J
  refine y_cs (a := 3) (b := 18) c368_618 rfl rfl (by omega) (by omega) rfl rfl (wn9 hG (hG.1 (i + 1)) hA e1) ?_
  intro i1 A1
  refine r_istore c368_621 (lo' := [(6, (0, v1)), (5, (0, (i : Int))), (0, (9, 0)), (1, (2, Int.ofNat 0)), (2, (2, Int.ofNat 139)), (3, (2, Int.ofNat 153)), (4, (2, Int.ofNat 154))]) rfl rfl rfl ?_
  refine r_aload_n c368_623 rfl rfl ?_
  refine y_arg c368_624 c368_625 c368_627 c368_628 c368_629 rfl rfl rfl hi hL (by decide) ?_
  obtain ⟨v2, g2, e2, J2⟩ := t_r_homeC (a := (Γ.1 (i + 1))) A1 J1
  refine y_cv (a := 0) (b := 0) c368_630 (by decide) rfl rfl rfl rfl (by omega) (by omega) rfl rfl (wn263 hG (hG.1 (i + 1)) A1 e2) ?_
  intro i2 A2
  refine r_istore c368_633 (lo' := [(7, (0, v2)), (6, (0, v1)), (5, (0, (i : Int))), (0, (9, 0)), (1, (2, Int.ofNat 0)), (2, (2, Int.ofNat 139)), (3, (2, Int.ofNat 153)), (4, (2, Int.ofNat 154))]) rfl rfl rfl ?_
  refine r_goto c368_635 ?_
  refine q_R.wk (ks := [5, 0, 1, 2, 3, 4]) (lo' := y_lo i) rfl ?_
  exact k _ _ _ A2 ⟨⟨_, J2⟩, (j_T_J J2).2⟩ (by omega) (by omega)
theorem y_k12 {Γ : q_Γ} (hG : q_GG Γ) {i : Nat} (hi : i + 6 ≤ Γ.2.2.2.1) (hL : Γ.2.2.2.1 ≤ 3072) {h : q_F} (hA : q_Al 0 155 h) (J : t_J h) (E : h 1 1 = h 139 14) {cl sl : Nat} (hc : cl ≤ 3900) (hs : sl ≤ 39000) (k : y_K Γ i cl sl) : q_R Γ q_K 155 368 y_P (638, y_lo i, [], q_hp q_K 155 h, [], cl, sl) := by
  obtain ⟨S, J⟩ := J
  refine r_aload_n c368_638 rfl rfl ?_
  refine y_arg c368_639 c368_640 c368_642 c368_643 c368_644 rfl rfl rfl hi hL (by decide) ?_
  refine y_arg c368_645 c368_646 c368_648 c368_649 c368_650 rfl rfl rfl hi hL (by decide) ?_
  refine r_aload_n c368_651 rfl rfl ?_
  obtain ⟨v1, g1, e1, J1⟩ := t_L12 (v1 := (Γ.1 (i + 1))) (v2 := (Γ.1 (i + 2))) hA J
  refine y_cs (a := 3) (b := 18) c368_652 rfl rfl (by omega) (by omega) rfl rfl (wn12 hG (hG.1 (i + 1)) (hG.1 (i + 2)) hA e1) ?_
  intro i1 A1
  refine r_istore c368_655 (lo' := [(6, (0, v1)), (5, (0, (i : Int))), (0, (9, 0)), (1, (2, Int.ofNat 0)), (2, (2, Int.ofNat 139)), (3, (2, Int.ofNat 153)), (4, (2, Int.ofNat 154))]) rfl rfl rfl ?_
  refine r_aload_n c368_657 rfl rfl ?_
  refine y_arg c368_658 c368_659 c368_661 c368_662 c368_663 rfl rfl rfl hi hL (by decide) ?_
  refine y_arg c368_664 c368_665 c368_667 c368_668 c368_669 rfl rfl rfl hi hL (by decide) ?_
  obtain ⟨v2, g2, e2, J2⟩ := t_r_jogC (a := (Γ.1 (i + 1))) (v := (Γ.1 (i + 2))) A1 J1
  refine y_cv (a := 0) (b := 0) c368_670 (by decide) rfl rfl rfl rfl (by omega) (by omega) rfl rfl (wn274 hG (hG.1 (i + 1)) (hG.1 (i + 2)) A1 e2) ?_
  intro i2 A2
  refine r_istore c368_673 (lo' := [(7, (0, v2)), (6, (0, v1)), (5, (0, (i : Int))), (0, (9, 0)), (1, (2, Int.ofNat 0)), (2, (2, Int.ofNat 139)), (3, (2, Int.ofNat 153)), (4, (2, Int.ofNat 154))]) rfl rfl rfl ?_
  refine r_goto c368_675 ?_
  refine q_R.wk (ks := [5, 0, 1, 2, 3, 4]) (lo' := y_lo i) rfl ?_
  exact k _ _ _ A2 ⟨⟨_, J2⟩, (j_T_J J2).2⟩ (by omega) (by omega)
theorem y_k13 {Γ : q_Γ} (hG : q_GG Γ) {i : Nat} (hi : i + 6 ≤ Γ.2.2.2.1) (hL : Γ.2.2.2.1 ≤ 3072) {h : q_F} (hA : q_Al 0 155 h) (J : t_J h) (E : h 1 1 = h 139 14) {cl sl : Nat} (hc : cl ≤ 3900) (hs : sl ≤ 39000) (k : y_K Γ i cl sl) : q_R Γ q_K 155 368 y_P (678, y_lo i, [], q_hp q_K 155 h, [], cl, sl) := by
  obtain ⟨S, J⟩ := J
  refine r_aload_n c368_678 rfl rfl ?_
  refine y_arg c368_679 c368_680 c368_682 c368_683 c368_684 rfl rfl rfl hi hL (by decide) ?_
  refine y_arg c368_685 c368_686 c368_688 c368_689 c368_690 rfl rfl rfl hi hL (by decide) ?_
  refine y_arg c368_691 c368_692 c368_694 c368_695 c368_696 rfl rfl rfl hi hL (by decide) ?_
  refine r_aload_n c368_697 rfl rfl ?_
  obtain ⟨v1, g1, e1, J1⟩ := t_L20 (v1 := (Γ.1 (i + 1))) (v2 := (Γ.1 (i + 2))) (v3 := (Γ.1 (i + 3))) hA J
  refine y_cs (a := 5) (b := 30) c368_698 rfl rfl (by omega) (by omega) rfl rfl (wn20 hG (hG.1 (i + 1)) (hG.1 (i + 2)) (hG.1 (i + 3)) hA e1) ?_
  intro i1 A1
  refine r_istore c368_701 (lo' := [(6, (0, v1)), (5, (0, (i : Int))), (0, (9, 0)), (1, (2, Int.ofNat 0)), (2, (2, Int.ofNat 139)), (3, (2, Int.ofNat 153)), (4, (2, Int.ofNat 154))]) rfl rfl rfl ?_
  refine r_aload_n c368_703 rfl rfl ?_
  refine y_arg c368_704 c368_705 c368_707 c368_708 c368_709 rfl rfl rfl hi hL (by decide) ?_
  refine y_arg c368_710 c368_711 c368_713 c368_714 c368_715 rfl rfl rfl hi hL (by decide) ?_
  refine y_arg c368_716 c368_717 c368_719 c368_720 c368_721 rfl rfl rfl hi hL (by decide) ?_
  obtain ⟨v2, g2, e2, J2⟩ := t_r_queueC (x := (Γ.1 (i + 1))) (y := (Γ.1 (i + 2))) (z := (Γ.1 (i + 3))) A1 J1
  refine y_cv (a := 0) (b := 0) c368_722 (by decide) rfl rfl rfl rfl (by omega) (by omega) rfl rfl (wn309 hG (hG.1 (i + 1)) (hG.1 (i + 2)) (hG.1 (i + 3)) A1 e2) ?_
  intro i2 A2
  refine r_istore c368_725 (lo' := [(7, (0, v2)), (6, (0, v1)), (5, (0, (i : Int))), (0, (9, 0)), (1, (2, Int.ofNat 0)), (2, (2, Int.ofNat 139)), (3, (2, Int.ofNat 153)), (4, (2, Int.ofNat 154))]) rfl rfl rfl ?_
  refine r_goto c368_727 ?_
  refine q_R.wk (ks := [5, 0, 1, 2, 3, 4]) (lo' := y_lo i) rfl ?_
  exact k _ _ _ A2 ⟨⟨_, J2⟩, (j_T_J J2).2⟩ (by omega) (by omega)
theorem y_k14 {Γ : q_Γ} (hG : q_GG Γ) {i : Nat} (hi : i + 6 ≤ Γ.2.2.2.1) (hL : Γ.2.2.2.1 ≤ 3072) {h : q_F} (hA : q_Al 0 155 h) (J : t_J h) (E : h 1 1 = h 139 14) {cl sl : Nat} (hc : cl ≤ 3900) (hs : sl ≤ 39000) (k : y_K Γ i cl sl) : q_R Γ q_K 155 368 y_P (730, y_lo i, [], q_hp q_K 155 h, [], cl, sl) := by
  obtain ⟨S, J⟩ := J
  refine r_aload_n c368_730 rfl rfl ?_
  refine r_aload_n c368_731 rfl rfl ?_
  obtain ⟨v1, g1, e1, J1⟩ := t_L37  hA J
  refine y_cs (a := 1) (b := 6) c368_732 rfl rfl (by omega) (by omega) rfl rfl (wn37 hG  hA e1) ?_
  intro i1 A1
  refine r_istore c368_735 (lo' := [(6, (0, v1)), (5, (0, (i : Int))), (0, (9, 0)), (1, (2, Int.ofNat 0)), (2, (2, Int.ofNat 139)), (3, (2, Int.ofNat 153)), (4, (2, Int.ofNat 154))]) rfl rfl rfl ?_
  refine r_aload_n c368_737 rfl rfl ?_
  obtain ⟨v2, g2, e2, J2⟩ := t_r_unqueue  A1 J1
  refine y_cv (a := 0) (b := 0) c368_738 (by decide) rfl rfl rfl rfl (by omega) (by omega) rfl rfl (wn361 hG  A1 e2) ?_
  intro i2 A2
  refine r_istore c368_741 (lo' := [(7, (0, v2)), (6, (0, v1)), (5, (0, (i : Int))), (0, (9, 0)), (1, (2, Int.ofNat 0)), (2, (2, Int.ofNat 139)), (3, (2, Int.ofNat 153)), (4, (2, Int.ofNat 154))]) rfl rfl rfl ?_
  refine r_goto c368_743 ?_
  refine q_R.wk (ks := [5, 0, 1, 2, 3, 4]) (lo' := y_lo i) rfl ?_
  exact k _ _ _ A2 ⟨⟨_, J2⟩, (j_T_J J2).2⟩ (by omega) (by omega)
theorem y_k15 {Γ : q_Γ} (hG : q_GG Γ) {i : Nat} (hi : i + 6 ≤ Γ.2.2.2.1) (hL : Γ.2.2.2.1 ≤ 3072) {h : q_F} (hA : q_Al 0 155 h) (J : t_J h) (E : h 1 1 = h 139 14) {cl sl : Nat} (hc : cl ≤ 3900) (hs : sl ≤ 39000) (k : y_K Γ i cl sl) : q_R Γ q_K 155 368 y_P (746, y_lo i, [], q_hp q_K 155 h, [], cl, sl) := by
  obtain ⟨S, J⟩ := J
  refine r_aload_n c368_746 rfl rfl ?_
  refine y_arg c368_747 c368_748 c368_750 c368_751 c368_752 rfl rfl rfl hi hL (by decide) ?_
  refine r_aload_n c368_753 rfl rfl ?_
  obtain ⟨v1, g1, e1, J1⟩ := t_L24 (v1 := (Γ.1 (i + 1))) hA J
  refine y_cs (a := 1) (b := 6) c368_754 rfl rfl (by omega) (by omega) rfl rfl (wn24 hG (hG.1 (i + 1)) hA e1) ?_
  intro i1 A1
  refine r_istore c368_757 (lo' := [(6, (0, v1)), (5, (0, (i : Int))), (0, (9, 0)), (1, (2, Int.ofNat 0)), (2, (2, Int.ofNat 139)), (3, (2, Int.ofNat 153)), (4, (2, Int.ofNat 154))]) rfl rfl rfl ?_
  refine r_aload_n c368_759 rfl rfl ?_
  refine y_arg c368_760 c368_761 c368_763 c368_764 c368_765 rfl rfl rfl hi hL (by decide) ?_
  obtain ⟨v2, g2, e2, J2⟩ := t_r_runC (n := (Γ.1 (i + 1))) A1 J1
  refine y_cv (a := 0) (b := 0) c368_766 (by decide) rfl rfl rfl rfl (by omega) (by omega) rfl rfl (wn324 hG (hG.1 (i + 1)) A1 e2) ?_
  intro i2 A2
  refine r_istore c368_769 (lo' := [(7, (0, v2)), (6, (0, v1)), (5, (0, (i : Int))), (0, (9, 0)), (1, (2, Int.ofNat 0)), (2, (2, Int.ofNat 139)), (3, (2, Int.ofNat 153)), (4, (2, Int.ofNat 154))]) rfl rfl rfl ?_
  refine r_goto c368_771 ?_
  refine q_R.wk (ks := [5, 0, 1, 2, 3, 4]) (lo' := y_lo i) rfl ?_
  exact k _ _ _ A2 ⟨⟨_, J2⟩, (j_T_J J2).2⟩ (by omega) (by omega)
end -- [99cb.law]
section -- [99cc.law]
/-! Part 99cc: cases of the law. Printed by wip/tools/genlaw.py. -/
theorem y_k16 {Γ : q_Γ} (hG : q_GG Γ) {i : Nat} (hi : i + 6 ≤ Γ.2.2.2.1) (hL : Γ.2.2.2.1 ≤ 3072) {h : q_F} (hA : q_Al 0 155 h) (J : t_J h) (E : h 1 1 = h 139 14) {cl sl : Nat} (hc : cl ≤ 3900) (hs : sl ≤ 39000) (k : y_K Γ i cl sl) : q_R Γ q_K 155 368 y_P (774, y_lo i, [], q_hp q_K 155 h, [], cl, sl) := by
  obtain ⟨S, J⟩ := J
  refine r_aload_n c368_774 rfl rfl ?_
  obtain ⟨v1, g1, e1, J1⟩ := t_c_reset  hA J
  refine y_cv (a := 0) (b := 0) c368_775 (by decide) rfl rfl rfl rfl (by omega) (by omega) rfl rfl (wn205 hG  hA e1) ?_
  intro i1 A1
  refine r_pop c368_778 rfl rfl ?_
  refine r_aload_n c368_779 rfl rfl ?_
  obtain ⟨v2, g2, e2, J2⟩ := t_r_reset  A1 J1
  refine y_cv (a := 0) (b := 0) c368_780 (by decide) rfl rfl rfl rfl (by omega) (by omega) rfl rfl (wn321 hG  A1 e2) ?_
  intro i2 A2
  refine r_pop c368_783 rfl rfl ?_
  refine r_goto c368_784 ?_
  refine q_R.wk (ks := [5, 0, 1, 2, 3, 4]) (lo' := y_lo i) rfl ?_
  exact k _ _ _ A2 ⟨⟨_, J2⟩, (j_T_J J2).2⟩ (by omega) (by omega)
theorem y_k17 {Γ : q_Γ} (hG : q_GG Γ) {i : Nat} (hi : i + 6 ≤ Γ.2.2.2.1) (hL : Γ.2.2.2.1 ≤ 3072) {h : q_F} (hA : q_Al 0 155 h) (J : t_J h) (E : h 1 1 = h 139 14) {cl sl : Nat} (hc : cl ≤ 3900) (hs : sl ≤ 39000) (k : y_K Γ i cl sl) : q_R Γ q_K 155 368 y_P (787, y_lo i, [], q_hp q_K 155 h, [], cl, sl) := by
  obtain ⟨S, J⟩ := J
  refine r_aload_n c368_787 rfl rfl ?_
  refine y_arg c368_788 c368_789 c368_791 c368_792 c368_793 rfl rfl rfl hi hL (by decide) ?_
  refine y_nz c368_794 c368_797 c368_798 c368_801 rfl (hG.1 (i + 1)) ?_
  obtain ⟨v1, g1, e1, J1⟩ := t_c_setC (v := (y_nzv (Γ.1 (i + 1)))) (y_nz01 (Γ.1 (i + 1))) J
  refine y_cv (a := 0) (b := 0) c368_802 (by decide) rfl rfl rfl rfl (by omega) (by omega) rfl rfl (wn210 hG (y_nz01 (Γ.1 (i + 1))) hA e1) ?_
  intro i1 A1
  refine r_pop c368_805 rfl rfl ?_
  refine r_aload_n c368_806 rfl rfl ?_
  refine y_arg c368_807 c368_808 c368_810 c368_811 c368_812 rfl rfl rfl hi hL (by decide) ?_
  refine y_nz c368_813 c368_816 c368_817 c368_820 rfl (hG.1 (i + 1)) ?_
  obtain ⟨v2, g2, e2, J2⟩ := t_r_setC (v := (y_nzv (Γ.1 (i + 1)))) (y_nz01 (Γ.1 (i + 1))) J1
  refine y_cv (a := 0) (b := 0) c368_821 (by decide) rfl rfl rfl rfl (by omega) (by omega) rfl rfl (wn328 hG (y_nz01 (Γ.1 (i + 1))) A1 e2) ?_
  intro i2 A2
  refine r_pop c368_824 rfl rfl ?_
  refine r_goto c368_825 ?_
  refine q_R.wk (ks := [5, 0, 1, 2, 3, 4]) (lo' := y_lo i) rfl ?_
  exact k _ _ _ A2 ⟨⟨_, J2⟩, (j_T_J J2).2⟩ (by omega) (by omega)
theorem y_k18 {Γ : q_Γ} (hG : q_GG Γ) {i : Nat} (hi : i + 6 ≤ Γ.2.2.2.1) (hL : Γ.2.2.2.1 ≤ 3072) {h : q_F} (hA : q_Al 0 155 h) (J : t_J h) (E : h 1 1 = h 139 14) {cl sl : Nat} (hc : cl ≤ 3900) (hs : sl ≤ 39000) (k : y_K Γ i cl sl) : q_R Γ q_K 155 368 y_P (828, y_lo i, [], q_hp q_K 155 h, [], cl, sl) := by
  obtain ⟨S, J⟩ := J
  refine r_aload_n c368_828 rfl rfl ?_
  refine y_arg c368_829 c368_830 c368_832 c368_833 c368_834 rfl rfl rfl hi hL (by decide) ?_
  refine y_nz c368_835 c368_838 c368_839 c368_842 rfl (hG.1 (i + 1)) ?_
  obtain ⟨v1, g1, e1, J1⟩ := t_c_setD (v := (y_nzv (Γ.1 (i + 1)))) (y_nz01 (Γ.1 (i + 1))) J
  refine y_cv (a := 0) (b := 0) c368_843 (by decide) rfl rfl rfl rfl (by omega) (by omega) rfl rfl (wn211 hG (y_nz01 (Γ.1 (i + 1))) hA e1) ?_
  intro i1 A1
  refine r_aload_n c368_846 rfl rfl ?_
  refine y_arg c368_847 c368_848 c368_850 c368_851 c368_852 rfl rfl rfl hi hL (by decide) ?_
  refine y_nz c368_853 c368_856 c368_857 c368_860 rfl (hG.1 (i + 1)) ?_
  obtain ⟨v2, g2, e2, J2⟩ := t_r_setD (v := (y_nzv (Γ.1 (i + 1)))) (y_nz01 (Γ.1 (i + 1))) J1
  refine y_cv (a := 0) (b := 0) c368_861 (by decide) rfl rfl rfl rfl (by omega) (by omega) rfl rfl (wn329 hG (y_nz01 (Γ.1 (i + 1))) A1 e2) ?_
  intro i2 A2
  have q9 : v1 = v2 := a_p20 (y_nz01 (Γ.1 (i + 1))) J J1 e1 e2
  refine r_ic_eq c368_864 rfl (q_w32_r (q_z32 i1)) (q_w32_r (q_z32 i2)) (fun _ => ?_) (fun h9 => absurd q9 h9.1)
  refine q_R.wk (ks := [5, 0, 1, 2, 3, 4]) (lo' := y_lo i) rfl ?_
  exact k _ _ _ A2 ⟨⟨_, J2⟩, (j_T_J J2).2⟩ (by omega) (by omega)
theorem y_k19 {Γ : q_Γ} (hG : q_GG Γ) {i : Nat} (hi : i + 6 ≤ Γ.2.2.2.1) (hL : Γ.2.2.2.1 ≤ 3072) {h : q_F} (hA : q_Al 0 155 h) (J : t_J h) (E : h 1 1 = h 139 14) {cl sl : Nat} (hc : cl ≤ 3900) (hs : sl ≤ 39000) (k : y_K Γ i cl sl) : q_R Γ q_K 155 368 y_P (869, y_lo i, [], q_hp q_K 155 h, [], cl, sl) := by
  obtain ⟨S, J⟩ := J
  refine r_aload_n c368_869 rfl rfl ?_
  refine y_arg c368_870 c368_871 c368_873 c368_874 c368_875 rfl rfl rfl hi hL (by decide) ?_
  refine y_arg c368_876 c368_877 c368_879 c368_880 c368_881 rfl rfl rfl hi hL (by decide) ?_
  refine r_aload_n c368_882 rfl rfl ?_
  obtain ⟨v1, g1, e1, J1⟩ := t_L26 (v1 := (Γ.1 (i + 1))) (v2 := (Γ.1 (i + 2))) hA J
  refine y_cs (a := 2) (b := 12) c368_883 rfl rfl (by omega) (by omega) rfl rfl (wn26 hG (hG.1 (i + 1)) (hG.1 (i + 2)) hA e1) ?_
  intro i1 A1
  refine r_istore c368_886 (lo' := [(6, (0, v1)), (5, (0, (i : Int))), (0, (9, 0)), (1, (2, Int.ofNat 0)), (2, (2, Int.ofNat 139)), (3, (2, Int.ofNat 153)), (4, (2, Int.ofNat 154))]) rfl rfl rfl ?_
  refine r_aload_n c368_888 rfl rfl ?_
  refine y_arg c368_889 c368_890 c368_892 c368_893 c368_894 rfl rfl rfl hi hL (by decide) ?_
  refine y_arg c368_895 c368_896 c368_898 c368_899 c368_900 rfl rfl rfl hi hL (by decide) ?_
  obtain ⟨v2, g2, e2, J2⟩ := t_r_setStuck (a := (Γ.1 (i + 1))) (v := (Γ.1 (i + 2))) A1 J1
  refine y_cv (a := 0) (b := 0) c368_901 (by decide) rfl rfl rfl rfl (by omega) (by omega) rfl rfl (wn331 hG (hG.1 (i + 1)) (hG.1 (i + 2)) A1 e2) ?_
  intro i2 A2
  refine r_istore c368_904 (lo' := [(7, (0, v2)), (6, (0, v1)), (5, (0, (i : Int))), (0, (9, 0)), (1, (2, Int.ofNat 0)), (2, (2, Int.ofNat 139)), (3, (2, Int.ofNat 153)), (4, (2, Int.ofNat 154))]) rfl rfl rfl ?_
  refine r_goto c368_906 ?_
  refine q_R.wk (ks := [5, 0, 1, 2, 3, 4]) (lo' := y_lo i) rfl ?_
  exact k _ _ _ A2 ⟨⟨_, J2⟩, (j_T_J J2).2⟩ (by omega) (by omega)
theorem y_k20 {Γ : q_Γ} (hG : q_GG Γ) {i : Nat} (hi : i + 6 ≤ Γ.2.2.2.1) (hL : Γ.2.2.2.1 ≤ 3072) {h : q_F} (hA : q_Al 0 155 h) (J : t_J h) (E : h 1 1 = h 139 14) {cl sl : Nat} (hc : cl ≤ 3900) (hs : sl ≤ 39000) (k : y_K Γ i cl sl) : q_R Γ q_K 155 368 y_P (909, y_lo i, [], q_hp q_K 155 h, [], cl, sl) := by
  obtain ⟨S, J⟩ := J
  refine r_aload_n c368_909 rfl rfl ?_
  refine y_arg c368_910 c368_911 c368_913 c368_914 c368_915 rfl rfl rfl hi hL (by decide) ?_
  refine r_aload_n c368_916 rfl rfl ?_
  obtain ⟨v1, g1, e1, J1⟩ := t_L25 (v1 := (Γ.1 (i + 1))) hA J
  refine y_cs (a := 1) (b := 6) c368_917 rfl rfl (by omega) (by omega) rfl rfl (wn25 hG (hG.1 (i + 1)) hA e1) ?_
  intro i1 A1
  refine r_istore c368_920 (lo' := [(6, (0, v1)), (5, (0, (i : Int))), (0, (9, 0)), (1, (2, Int.ofNat 0)), (2, (2, Int.ofNat 139)), (3, (2, Int.ofNat 153)), (4, (2, Int.ofNat 154))]) rfl rfl rfl ?_
  refine r_aload_n c368_922 rfl rfl ?_
  refine y_arg c368_923 c368_924 c368_926 c368_927 c368_928 rfl rfl rfl hi hL (by decide) ?_
  obtain ⟨v2, g2, e2, J2⟩ := t_r_setStart (v := (Γ.1 (i + 1))) A1 J1
  refine y_cv (a := 0) (b := 0) c368_929 (by decide) rfl rfl rfl rfl (by omega) (by omega) rfl rfl (wn330 hG (hG.1 (i + 1)) A1 e2) ?_
  intro i2 A2
  refine r_istore c368_932 (lo' := [(7, (0, v2)), (6, (0, v1)), (5, (0, (i : Int))), (0, (9, 0)), (1, (2, Int.ofNat 0)), (2, (2, Int.ofNat 139)), (3, (2, Int.ofNat 153)), (4, (2, Int.ofNat 154))]) rfl rfl rfl ?_
  refine r_goto c368_934 ?_
  refine q_R.wk (ks := [5, 0, 1, 2, 3, 4]) (lo' := y_lo i) rfl ?_
  exact k _ _ _ A2 ⟨⟨_, J2⟩, (j_T_J J2).2⟩ (by omega) (by omega)
theorem y_k21 {Γ : q_Γ} (hG : q_GG Γ) {i : Nat} (hi : i + 6 ≤ Γ.2.2.2.1) (hL : Γ.2.2.2.1 ≤ 3072) {h : q_F} (hA : q_Al 0 155 h) (J : t_J h) (E : h 1 1 = h 139 14) {cl sl : Nat} (hc : cl ≤ 3900) (hs : sl ≤ 39000) (k : y_K Γ i cl sl) : q_R Γ q_K 155 368 y_P (937, y_lo i, [], q_hp q_K 155 h, [], cl, sl) := by
  obtain ⟨S, J⟩ := J
  refine r_aload_n c368_937 rfl rfl ?_
  refine y_arg c368_938 c368_939 c368_941 c368_942 c368_943 rfl rfl rfl hi hL (by decide) ?_
  refine y_arg c368_944 c368_945 c368_947 c368_948 c368_949 rfl rfl rfl hi hL (by decide) ?_
  refine r_aload_n c368_950 rfl rfl ?_
  obtain ⟨v1, g1, e1, J1⟩ := t_L33 (v1 := (Γ.1 (i + 1))) (v2 := (Γ.1 (i + 2))) hA J
  refine y_cs (a := 2) (b := 12) c368_951 rfl rfl (by omega) (by omega) rfl rfl (wn33 hG (hG.1 (i + 1)) (hG.1 (i + 2)) hA e1) ?_
  intro i1 A1
  refine r_istore c368_954 (lo' := [(6, (0, v1)), (5, (0, (i : Int))), (0, (9, 0)), (1, (2, Int.ofNat 0)), (2, (2, Int.ofNat 139)), (3, (2, Int.ofNat 153)), (4, (2, Int.ofNat 154))]) rfl rfl rfl ?_
  refine r_aload_n c368_956 rfl rfl ?_
  refine y_arg c368_957 c368_958 c368_960 c368_961 c368_962 rfl rfl rfl hi hL (by decide) ?_
  refine y_arg c368_963 c368_964 c368_966 c368_967 c368_968 rfl rfl rfl hi hL (by decide) ?_
  obtain ⟨v2, g2, e2, J2⟩ := t_r_target (m := (Γ.1 (i + 1))) (a := (Γ.1 (i + 2))) A1 J1
  refine y_cv (a := 0) (b := 0) c368_969 (by decide) rfl rfl rfl rfl (by omega) (by omega) rfl rfl (wn350 hG (hG.1 (i + 1)) (hG.1 (i + 2)) A1 e2) ?_
  intro i2 A2
  refine r_istore c368_972 (lo' := [(7, (0, v2)), (6, (0, v1)), (5, (0, (i : Int))), (0, (9, 0)), (1, (2, Int.ofNat 0)), (2, (2, Int.ofNat 139)), (3, (2, Int.ofNat 153)), (4, (2, Int.ofNat 154))]) rfl rfl rfl ?_
  refine r_goto c368_974 ?_
  refine q_R.wk (ks := [5, 0, 1, 2, 3, 4]) (lo' := y_lo i) rfl ?_
  exact k _ _ _ A2 ⟨⟨_, J2⟩, (j_T_J J2).2⟩ (by omega) (by omega)
theorem y_k22 {Γ : q_Γ} (hG : q_GG Γ) {i : Nat} (hi : i + 6 ≤ Γ.2.2.2.1) (hL : Γ.2.2.2.1 ≤ 3072) {h : q_F} (hA : q_Al 0 155 h) (J : t_J h) (E : h 1 1 = h 139 14) {cl sl : Nat} (hc : cl ≤ 3900) (hs : sl ≤ 39000) (k : y_K Γ i cl sl) : q_R Γ q_K 155 368 y_P (977, y_lo i, [], q_hp q_K 155 h, [], cl, sl) := by
  obtain ⟨S, J⟩ := J
  refine r_aload_n c368_977 rfl rfl ?_
  refine y_arg c368_978 c368_979 c368_981 c368_982 c368_983 rfl rfl rfl hi hL (by decide) ?_
  refine y_arg c368_984 c368_985 c368_987 c368_988 c368_989 rfl rfl rfl hi hL (by decide) ?_
  refine r_aload_n c368_990 rfl rfl ?_
  obtain ⟨v1, g1, e1, J1⟩ := t_L17 (v1 := (Γ.1 (i + 1))) (v2 := (Γ.1 (i + 2))) hA J
  refine y_cs (a := 2) (b := 12) c368_991 rfl rfl (by omega) (by omega) rfl rfl (wn17 hG (hG.1 (i + 1)) (hG.1 (i + 2)) hA e1) ?_
  intro i1 A1
  refine r_istore c368_994 (lo' := [(6, (0, v1)), (5, (0, (i : Int))), (0, (9, 0)), (1, (2, Int.ofNat 0)), (2, (2, Int.ofNat 139)), (3, (2, Int.ofNat 153)), (4, (2, Int.ofNat 154))]) rfl rfl rfl ?_
  refine r_aload_n c368_996 rfl rfl ?_
  refine y_arg c368_997 c368_998 c368_1000 c368_1001 c368_1002 rfl rfl rfl hi hL (by decide) ?_
  refine y_arg c368_1003 c368_1004 c368_1006 c368_1007 c368_1008 rfl rfl rfl hi hL (by decide) ?_
  obtain ⟨v2, g2, e2, J2⟩ := t_r_moveC (m := (Γ.1 (i + 1))) (v := (Γ.1 (i + 2))) A1 J1
  refine y_cv (a := 0) (b := 0) c368_1009 (by decide) rfl rfl rfl rfl (by omega) (by omega) rfl rfl (wn294 hG (hG.1 (i + 1)) (hG.1 (i + 2)) A1 e2) ?_
  intro i2 A2
  refine r_istore c368_1012 (lo' := [(7, (0, v2)), (6, (0, v1)), (5, (0, (i : Int))), (0, (9, 0)), (1, (2, Int.ofNat 0)), (2, (2, Int.ofNat 139)), (3, (2, Int.ofNat 153)), (4, (2, Int.ofNat 154))]) rfl rfl rfl ?_
  refine r_goto c368_1014 ?_
  refine q_R.wk (ks := [5, 0, 1, 2, 3, 4]) (lo' := y_lo i) rfl ?_
  exact k _ _ _ A2 ⟨⟨_, J2⟩, (j_T_J J2).2⟩ (by omega) (by omega)
theorem y_k23 {Γ : q_Γ} (hG : q_GG Γ) {i : Nat} (hi : i + 6 ≤ Γ.2.2.2.1) (hL : Γ.2.2.2.1 ≤ 3072) {h : q_F} (hA : q_Al 0 155 h) (J : t_J h) (E : h 1 1 = h 139 14) {cl sl : Nat} (hc : cl ≤ 3900) (hs : sl ≤ 39000) (k : y_K Γ i cl sl) : q_R Γ q_K 155 368 y_P (1017, y_lo i, [], q_hp q_K 155 h, [], cl, sl) := by
  obtain ⟨S, J⟩ := J
  refine r_aload_n c368_1017 rfl rfl ?_
  refine y_arg c368_1018 c368_1019 c368_1021 c368_1022 c368_1023 rfl rfl rfl hi hL (by decide) ?_
  refine y_arg c368_1024 c368_1025 c368_1027 c368_1028 c368_1029 rfl rfl rfl hi hL (by decide) ?_
  refine r_aload_n c368_1030 rfl rfl ?_
  obtain ⟨v1, g1, e1, J1⟩ := t_L29 (v1 := (Γ.1 (i + 1))) (v2 := (Γ.1 (i + 2))) hA J
  refine y_cs (a := 2) (b := 12) c368_1031 rfl rfl (by omega) (by omega) rfl rfl (wn29 hG (hG.1 (i + 1)) (hG.1 (i + 2)) hA e1) ?_
  intro i1 A1
  refine r_istore c368_1034 (lo' := [(6, (0, v1)), (5, (0, (i : Int))), (0, (9, 0)), (1, (2, Int.ofNat 0)), (2, (2, Int.ofNat 139)), (3, (2, Int.ofNat 153)), (4, (2, Int.ofNat 154))]) rfl rfl rfl ?_
  refine r_aload_n c368_1036 rfl rfl ?_
  refine y_arg c368_1037 c368_1038 c368_1040 c368_1041 c368_1042 rfl rfl rfl hi hL (by decide) ?_
  refine y_arg c368_1043 c368_1044 c368_1046 c368_1047 c368_1048 rfl rfl rfl hi hL (by decide) ?_
  obtain ⟨v2, g2, e2, J2⟩ := t_r_speed (m := (Γ.1 (i + 1))) (k := (Γ.1 (i + 2))) A1 J1
  refine y_cv (a := 0) (b := 0) c368_1049 (by decide) rfl rfl rfl rfl (by omega) (by omega) rfl rfl (wn337 hG (hG.1 (i + 1)) (hG.1 (i + 2)) A1 e2) ?_
  intro i2 A2
  refine r_istore c368_1052 (lo' := [(7, (0, v2)), (6, (0, v1)), (5, (0, (i : Int))), (0, (9, 0)), (1, (2, Int.ofNat 0)), (2, (2, Int.ofNat 139)), (3, (2, Int.ofNat 153)), (4, (2, Int.ofNat 154))]) rfl rfl rfl ?_
  refine r_goto c368_1054 ?_
  refine q_R.wk (ks := [5, 0, 1, 2, 3, 4]) (lo' := y_lo i) rfl ?_
  exact k _ _ _ A2 ⟨⟨_, J2⟩, (j_T_J J2).2⟩ (by omega) (by omega)
end -- [99cc.law]
section -- [99cd.law]
/-! Part 99cd: cases of the law. Printed by wip/tools/genlaw.py. -/
theorem y_k24 {Γ : q_Γ} (hG : q_GG Γ) {i : Nat} (hi : i + 6 ≤ Γ.2.2.2.1) (hL : Γ.2.2.2.1 ≤ 3072) {h : q_F} (hA : q_Al 0 155 h) (J : t_J h) (E : h 1 1 = h 139 14) {cl sl : Nat} (hc : cl ≤ 3900) (hs : sl ≤ 39000) (k : y_K Γ i cl sl) : q_R Γ q_K 155 368 y_P (1057, y_lo i, [], q_hp q_K 155 h, [], cl, sl) := by
  obtain ⟨S, J⟩ := J
  refine r_aload_n c368_1057 rfl rfl ?_
  refine y_arg c368_1058 c368_1059 c368_1061 c368_1062 c368_1063 rfl rfl rfl hi hL (by decide) ?_
  refine y_arg c368_1064 c368_1065 c368_1067 c368_1068 c368_1069 rfl rfl rfl hi hL (by decide) ?_
  refine y_arg c368_1070 c368_1071 c368_1073 c368_1074 c368_1075 rfl rfl rfl hi hL (by decide) ?_
  refine r_aload_n c368_1076 rfl rfl ?_
  obtain ⟨v1, g1, e1, J1⟩ := t_L30 (v1 := (Γ.1 (i + 1))) (v2 := (Γ.1 (i + 2))) (v3 := (Γ.1 (i + 3))) hA J
  refine y_cs (a := 3) (b := 18) c368_1077 rfl rfl (by omega) (by omega) rfl rfl (wn30 hG (hG.1 (i + 1)) (hG.1 (i + 2)) (hG.1 (i + 3)) hA e1) ?_
  intro i1 A1
  refine r_istore c368_1080 (lo' := [(6, (0, v1)), (5, (0, (i : Int))), (0, (9, 0)), (1, (2, Int.ofNat 0)), (2, (2, Int.ofNat 139)), (3, (2, Int.ofNat 153)), (4, (2, Int.ofNat 154))]) rfl rfl rfl ?_
  refine r_aload_n c368_1082 rfl rfl ?_
  refine y_arg c368_1083 c368_1084 c368_1086 c368_1087 c368_1088 rfl rfl rfl hi hL (by decide) ?_
  refine y_arg c368_1089 c368_1090 c368_1092 c368_1093 c368_1094 rfl rfl rfl hi hL (by decide) ?_
  refine y_arg c368_1095 c368_1096 c368_1098 c368_1099 c368_1100 rfl rfl rfl hi hL (by decide) ?_
  obtain ⟨v2, g2, e2, J2⟩ := t_r_behind (m := (Γ.1 (i + 1))) (a := (Γ.1 (i + 2))) (k := (Γ.1 (i + 3))) A1 J1
  refine y_cv (a := 0) (b := 0) c368_1101 (by decide) rfl rfl rfl rfl (by omega) (by omega) rfl rfl (wn341 hG (hG.1 (i + 1)) (hG.1 (i + 2)) (hG.1 (i + 3)) A1 e2) ?_
  intro i2 A2
  refine r_istore c368_1104 (lo' := [(7, (0, v2)), (6, (0, v1)), (5, (0, (i : Int))), (0, (9, 0)), (1, (2, Int.ofNat 0)), (2, (2, Int.ofNat 139)), (3, (2, Int.ofNat 153)), (4, (2, Int.ofNat 154))]) rfl rfl rfl ?_
  refine r_goto c368_1106 ?_
  refine q_R.wk (ks := [5, 0, 1, 2, 3, 4]) (lo' := y_lo i) rfl ?_
  exact k _ _ _ A2 ⟨⟨_, J2⟩, (j_T_J J2).2⟩ (by omega) (by omega)
theorem y_k25 {Γ : q_Γ} (hG : q_GG Γ) {i : Nat} (hi : i + 6 ≤ Γ.2.2.2.1) (hL : Γ.2.2.2.1 ≤ 3072) {h : q_F} (hA : q_Al 0 155 h) (J : t_J h) (E : h 1 1 = h 139 14) {cl sl : Nat} (hc : cl ≤ 3900) (hs : sl ≤ 39000) (k : y_K Γ i cl sl) : q_R Γ q_K 155 368 y_P (1109, y_lo i, [], q_hp q_K 155 h, [], cl, sl) := by
  obtain ⟨S, J⟩ := J
  refine r_aload_n c368_1109 rfl rfl ?_
  refine y_arg c368_1110 c368_1111 c368_1113 c368_1114 c368_1115 rfl rfl rfl hi hL (by decide) ?_
  refine r_aload c368_1116 rfl rfl ?_
  obtain ⟨v1, g1, e1, J1⟩ := t_L6 (v1 := (Γ.1 (i + 1))) hA J
  refine y_cs (a := 1) (b := 6) c368_1118 rfl rfl (by omega) (by omega) rfl rfl (wn6 hG (hG.1 (i + 1)) hA e1) ?_
  intro i1 A1
  refine r_istore c368_1121 (lo' := [(6, (0, v1)), (5, (0, (i : Int))), (0, (9, 0)), (1, (2, Int.ofNat 0)), (2, (2, Int.ofNat 139)), (3, (2, Int.ofNat 153)), (4, (2, Int.ofNat 154))]) rfl rfl rfl ?_
  refine r_aload_n c368_1123 rfl rfl ?_
  refine y_arg c368_1124 c368_1125 c368_1127 c368_1128 c368_1129 rfl rfl rfl hi hL (by decide) ?_
  obtain ⟨v2, g2, e2, J2⟩ := t_r_dev (m := (Γ.1 (i + 1))) A1 J1
  refine y_cv (a := 0) (b := 0) c368_1130 (by decide) rfl rfl rfl rfl (by omega) (by omega) rfl rfl (wn251 hG (hG.1 (i + 1)) A1 e2) ?_
  intro i2 A2
  refine r_fstore c368_1133 (lo' := [(7, (4, v2)), (6, (0, v1)), (5, (0, (i : Int))), (0, (9, 0)), (1, (2, Int.ofNat 0)), (2, (2, Int.ofNat 139)), (3, (2, Int.ofNat 153)), (4, (2, Int.ofNat 154))]) rfl rfl rfl ?_
  refine r_goto c368_1135 ?_
  refine q_R.wk (ks := [5, 0, 1, 2, 3, 4]) (lo' := y_lo i) rfl ?_
  exact k _ _ _ A2 ⟨⟨_, J2⟩, (j_T_J J2).2⟩ (by omega) (by omega)
theorem y_k26 {Γ : q_Γ} (hG : q_GG Γ) {i : Nat} (hi : i + 6 ≤ Γ.2.2.2.1) (hL : Γ.2.2.2.1 ≤ 3072) {h : q_F} (hA : q_Al 0 155 h) (J : t_J h) (E : h 1 1 = h 139 14) {cl sl : Nat} (hc : cl ≤ 3900) (hs : sl ≤ 39000) (k : y_K Γ i cl sl) : q_R Γ q_K 155 368 y_P (1138, y_lo i, [], q_hp q_K 155 h, [], cl, sl) := by
  obtain ⟨S, J⟩ := J
  refine r_aload_n c368_1138 rfl rfl ?_
  refine r_aload_n c368_1139 rfl rfl ?_
  obtain ⟨v1, g1, e1, J1⟩ := t_L10  hA J
  refine y_cs (a := 2) (b := 12) c368_1140 rfl rfl (by omega) (by omega) rfl rfl (wn10 hG  hA e1) ?_
  intro i1 A1
  refine r_istore c368_1143 (lo' := [(6, (0, v1)), (5, (0, (i : Int))), (0, (9, 0)), (1, (2, Int.ofNat 0)), (2, (2, Int.ofNat 139)), (3, (2, Int.ofNat 153)), (4, (2, Int.ofNat 154))]) rfl rfl rfl ?_
  refine r_aload_n c368_1145 rfl rfl ?_
  obtain ⟨v2, g2, e2, J2⟩ := t_r_homeAllC  A1 J1
  refine y_cv (a := 0) (b := 0) c368_1146 (by decide) rfl rfl rfl rfl (by omega) (by omega) rfl rfl (wn264 hG  A1 e2) ?_
  intro i2 A2
  refine r_istore c368_1149 (lo' := [(7, (0, v2)), (6, (0, v1)), (5, (0, (i : Int))), (0, (9, 0)), (1, (2, Int.ofNat 0)), (2, (2, Int.ofNat 139)), (3, (2, Int.ofNat 153)), (4, (2, Int.ofNat 154))]) rfl rfl rfl ?_
  refine r_goto c368_1151 ?_
  refine q_R.wk (ks := [5, 0, 1, 2, 3, 4]) (lo' := y_lo i) rfl ?_
  exact k _ _ _ A2 ⟨⟨_, J2⟩, (j_T_J J2).2⟩ (by omega) (by omega)
theorem y_k27 {Γ : q_Γ} (hG : q_GG Γ) {i : Nat} (hi : i + 6 ≤ Γ.2.2.2.1) (hL : Γ.2.2.2.1 ≤ 3072) {h : q_F} (hA : q_Al 0 155 h) (J : t_J h) (E : h 1 1 = h 139 14) {cl sl : Nat} (hc : cl ≤ 3900) (hs : sl ≤ 39000) (k : y_K Γ i cl sl) : q_R Γ q_K 155 368 y_P (1154, y_lo i, [], q_hp q_K 155 h, [], cl, sl) := by
  obtain ⟨S, J⟩ := J
  refine r_aload_n c368_1154 rfl rfl ?_
  obtain ⟨v1, g1, e1, J1⟩ := t_c_runAll  hA J
  refine y_cv (a := 0) (b := 0) c368_1155 (by decide) rfl rfl rfl rfl (by omega) (by omega) rfl rfl (wn208 hG  hA e1) ?_
  intro i1 A1
  refine r_pop c368_1158 rfl rfl ?_
  refine r_aload_n c368_1159 rfl rfl ?_
  obtain ⟨v2, g2, e2, J2⟩ := t_r_runAll  A1 J1
  refine y_cv (a := 0) (b := 0) c368_1160 (by decide) rfl rfl rfl rfl (by omega) (by omega) rfl rfl (wn325 hG  A1 e2) ?_
  intro i2 A2
  refine r_pop c368_1163 rfl rfl ?_
  refine r_goto c368_1164 ?_
  refine q_R.wk (ks := [5, 0, 1, 2, 3, 4]) (lo' := y_lo i) rfl ?_
  exact k _ _ _ A2 ⟨⟨_, J2⟩, (j_T_J J2).2⟩ (by omega) (by omega)
theorem y_k28 {Γ : q_Γ} (hG : q_GG Γ) {i : Nat} (hi : i + 6 ≤ Γ.2.2.2.1) (hL : Γ.2.2.2.1 ≤ 3072) {h : q_F} (hA : q_Al 0 155 h) (J : t_J h) (E : h 1 1 = h 139 14) {cl sl : Nat} (hc : cl ≤ 3900) (hs : sl ≤ 39000) (k : y_K Γ i cl sl) : q_R Γ q_K 155 368 y_P (1167, y_lo i, [], q_hp q_K 155 h, [], cl, sl) := by
  obtain ⟨S, J⟩ := J
  refine r_aload_n c368_1167 rfl rfl ?_
  refine y_arg c368_1168 c368_1169 c368_1171 c368_1172 c368_1173 rfl rfl rfl hi hL (by decide) ?_
  refine y_arg c368_1174 c368_1175 c368_1177 c368_1178 c368_1179 rfl rfl rfl hi hL (by decide) ?_
  refine y_arg c368_1180 c368_1181 c368_1183 c368_1184 c368_1185 rfl rfl rfl hi hL (by decide) ?_
  refine y_arg c368_1186 c368_1187 c368_1189 c368_1190 c368_1191 rfl rfl rfl hi hL (by decide) ?_
  refine r_aload_n c368_1192 rfl rfl ?_
  obtain ⟨v1, g1, e1, J1⟩ := t_L11 (v1 := (Γ.1 (i + 1))) (v2 := (Γ.1 (i + 2))) (v3 := (Γ.1 (i + 3))) (v4 := (Γ.1 (i + 4))) hA J
  refine y_cs (a := 6) (b := 36) c368_1193 rfl rfl (by omega) (by omega) rfl rfl (wn11 hG (hG.1 (i + 1)) (hG.1 (i + 2)) (hG.1 (i + 3)) (hG.1 (i + 4)) hA e1) ?_
  intro i1 A1
  refine r_istore c368_1196 (lo' := [(6, (0, v1)), (5, (0, (i : Int))), (0, (9, 0)), (1, (2, Int.ofNat 0)), (2, (2, Int.ofNat 139)), (3, (2, Int.ofNat 153)), (4, (2, Int.ofNat 154))]) rfl rfl rfl ?_
  refine r_aload_n c368_1198 rfl rfl ?_
  refine y_arg c368_1199 c368_1200 c368_1202 c368_1203 c368_1204 rfl rfl rfl hi hL (by decide) ?_
  refine y_arg c368_1205 c368_1206 c368_1208 c368_1209 c368_1210 rfl rfl rfl hi hL (by decide) ?_
  refine y_arg c368_1211 c368_1212 c368_1214 c368_1215 c368_1216 rfl rfl rfl hi hL (by decide) ?_
  refine y_arg c368_1217 c368_1218 c368_1220 c368_1221 c368_1222 rfl rfl rfl hi hL (by decide) ?_
  obtain ⟨v2, g2, e2, J2⟩ := t_r_insertC (i := (Γ.1 (i + 1))) (x := (Γ.1 (i + 2))) (y := (Γ.1 (i + 3))) (z := (Γ.1 (i + 4))) A1 J1
  refine y_cv (a := 0) (b := 0) c368_1223 (by decide) rfl rfl rfl rfl (by omega) (by omega) rfl rfl (wn269 hG (hG.1 (i + 1)) (hG.1 (i + 2)) (hG.1 (i + 3)) (hG.1 (i + 4)) A1 e2) ?_
  intro i2 A2
  refine r_istore c368_1226 (lo' := [(7, (0, v2)), (6, (0, v1)), (5, (0, (i : Int))), (0, (9, 0)), (1, (2, Int.ofNat 0)), (2, (2, Int.ofNat 139)), (3, (2, Int.ofNat 153)), (4, (2, Int.ofNat 154))]) rfl rfl rfl ?_
  refine r_goto c368_1228 ?_
  refine q_R.wk (ks := [5, 0, 1, 2, 3, 4]) (lo' := y_lo i) rfl ?_
  exact k _ _ _ A2 ⟨⟨_, J2⟩, (j_T_J J2).2⟩ (by omega) (by omega)
theorem y_k29 {Γ : q_Γ} (hG : q_GG Γ) {i : Nat} (hi : i + 6 ≤ Γ.2.2.2.1) (hL : Γ.2.2.2.1 ≤ 3072) {h : q_F} (hA : q_Al 0 155 h) (J : t_J h) (E : h 1 1 = h 139 14) {cl sl : Nat} (hc : cl ≤ 3900) (hs : sl ≤ 39000) (k : y_K Γ i cl sl) : q_R Γ q_K 155 368 y_P (1231, y_lo i, [], q_hp q_K 155 h, [], cl, sl) := by
  obtain ⟨S, J⟩ := J
  refine r_aload_n c368_1231 rfl rfl ?_
  refine y_arg c368_1232 c368_1233 c368_1235 c368_1236 c368_1237 rfl rfl rfl hi hL (by decide) ?_
  refine r_aload_n c368_1238 rfl rfl ?_
  obtain ⟨v1, g1, e1, J1⟩ := t_L7 (v1 := (Γ.1 (i + 1))) hA J
  refine y_cs (a := 2) (b := 12) c368_1239 rfl rfl (by omega) (by omega) rfl rfl (wn7 hG (hG.1 (i + 1)) hA e1) ?_
  intro i1 A1
  refine r_istore c368_1242 (lo' := [(6, (0, v1)), (5, (0, (i : Int))), (0, (9, 0)), (1, (2, Int.ofNat 0)), (2, (2, Int.ofNat 139)), (3, (2, Int.ofNat 153)), (4, (2, Int.ofNat 154))]) rfl rfl rfl ?_
  refine r_aload_n c368_1244 rfl rfl ?_
  refine y_arg c368_1245 c368_1246 c368_1248 c368_1249 c368_1250 rfl rfl rfl hi hL (by decide) ?_
  obtain ⟨v2, g2, e2, J2⟩ := t_r_dropC (m := (Γ.1 (i + 1))) A1 J1
  refine y_cv (a := 0) (b := 0) c368_1251 (by decide) rfl rfl rfl rfl (by omega) (by omega) rfl rfl (wn252 hG (hG.1 (i + 1)) A1 e2) ?_
  intro i2 A2
  refine r_istore c368_1254 (lo' := [(7, (0, v2)), (6, (0, v1)), (5, (0, (i : Int))), (0, (9, 0)), (1, (2, Int.ofNat 0)), (2, (2, Int.ofNat 139)), (3, (2, Int.ofNat 153)), (4, (2, Int.ofNat 154))]) rfl rfl rfl ?_
  refine r_goto c368_1256 ?_
  refine q_R.wk (ks := [5, 0, 1, 2, 3, 4]) (lo' := y_lo i) rfl ?_
  exact k _ _ _ A2 ⟨⟨_, J2⟩, (j_T_J J2).2⟩ (by omega) (by omega)
theorem y_k30 {Γ : q_Γ} (hG : q_GG Γ) {i : Nat} (hi : i + 6 ≤ Γ.2.2.2.1) (hL : Γ.2.2.2.1 ≤ 3072) {h : q_F} (hA : q_Al 0 155 h) (J : t_J h) (E : h 1 1 = h 139 14) {cl sl : Nat} (hc : cl ≤ 3900) (hs : sl ≤ 39000) (k : y_K Γ i cl sl) : q_R Γ q_K 155 368 y_P (1259, y_lo i, [], q_hp q_K 155 h, [], cl, sl) := by
  obtain ⟨S, J⟩ := J
  refine r_aload_n c368_1259 rfl rfl ?_
  refine y_arg c368_1260 c368_1261 c368_1263 c368_1264 c368_1265 rfl rfl rfl hi hL (by decide) ?_
  refine y_arg c368_1266 c368_1267 c368_1269 c368_1270 c368_1271 rfl rfl rfl hi hL (by decide) ?_
  refine r_aload_n c368_1272 rfl rfl ?_
  obtain ⟨v1, g1, e1, J1⟩ := t_L32 (v1 := (Γ.1 (i + 1))) (v2 := (Γ.1 (i + 2))) hA J
  refine y_cs (a := 3) (b := 18) c368_1273 rfl rfl (by omega) (by omega) rfl rfl (wn32 hG (hG.1 (i + 1)) (hG.1 (i + 2)) hA e1) ?_
  intro i1 A1
  refine r_istore c368_1276 (lo' := [(6, (0, v1)), (5, (0, (i : Int))), (0, (9, 0)), (1, (2, Int.ofNat 0)), (2, (2, Int.ofNat 139)), (3, (2, Int.ofNat 153)), (4, (2, Int.ofNat 154))]) rfl rfl rfl ?_
  refine r_aload_n c368_1278 rfl rfl ?_
  refine y_arg c368_1279 c368_1280 c368_1282 c368_1283 c368_1284 rfl rfl rfl hi hL (by decide) ?_
  refine y_arg c368_1285 c368_1286 c368_1288 c368_1289 c368_1290 rfl rfl rfl hi hL (by decide) ?_
  obtain ⟨v2, g2, e2, J2⟩ := t_r_swapC (m := (Γ.1 (i + 1))) (o := (Γ.1 (i + 2))) A1 J1
  refine y_cv (a := 0) (b := 0) c368_1291 (by decide) rfl rfl rfl rfl (by omega) (by omega) rfl rfl (wn346 hG (hG.1 (i + 1)) (hG.1 (i + 2)) A1 e2) ?_
  intro i2 A2
  refine r_istore c368_1294 (lo' := [(7, (0, v2)), (6, (0, v1)), (5, (0, (i : Int))), (0, (9, 0)), (1, (2, Int.ofNat 0)), (2, (2, Int.ofNat 139)), (3, (2, Int.ofNat 153)), (4, (2, Int.ofNat 154))]) rfl rfl rfl ?_
  refine r_goto c368_1296 ?_
  refine q_R.wk (ks := [5, 0, 1, 2, 3, 4]) (lo' := y_lo i) rfl ?_
  exact k _ _ _ A2 ⟨⟨_, J2⟩, (j_T_J J2).2⟩ (by omega) (by omega)
theorem y_k31 {Γ : q_Γ} (hG : q_GG Γ) {i : Nat} (hi : i + 6 ≤ Γ.2.2.2.1) (hL : Γ.2.2.2.1 ≤ 3072) {h : q_F} (hA : q_Al 0 155 h) (J : t_J h) (E : h 1 1 = h 139 14) {cl sl : Nat} (hc : cl ≤ 3900) (hs : sl ≤ 39000) (k : y_K Γ i cl sl) : q_R Γ q_K 155 368 y_P (1299, y_lo i, [], q_hp q_K 155 h, [], cl, sl) := by
  obtain ⟨S, J⟩ := J
  refine r_aload_n c368_1299 rfl rfl ?_
  refine y_arg c368_1300 c368_1301 c368_1303 c368_1304 c368_1305 rfl rfl rfl hi hL (by decide) ?_
  refine y_arg c368_1306 c368_1307 c368_1309 c368_1310 c368_1311 rfl rfl rfl hi hL (by decide) ?_
  refine y_arg c368_1312 c368_1313 c368_1315 c368_1316 c368_1317 rfl rfl rfl hi hL (by decide) ?_
  refine r_aload_n c368_1318 rfl rfl ?_
  obtain ⟨v1, g1, e1, J1⟩ := t_L19 (v1 := (Γ.1 (i + 1))) (v2 := (Γ.1 (i + 2))) (v3 := (Γ.1 (i + 3))) hA J
  refine y_cs (a := 3) (b := 18) c368_1319 rfl rfl (by omega) (by omega) rfl rfl (wn19 hG (hG.1 (i + 1)) (hG.1 (i + 2)) (hG.1 (i + 3)) hA e1) ?_
  intro i1 A1
  refine r_istore c368_1322 (lo' := [(6, (0, v1)), (5, (0, (i : Int))), (0, (9, 0)), (1, (2, Int.ofNat 0)), (2, (2, Int.ofNat 139)), (3, (2, Int.ofNat 153)), (4, (2, Int.ofNat 154))]) rfl rfl rfl ?_
  refine r_aload_n c368_1324 rfl rfl ?_
  refine y_arg c368_1325 c368_1326 c368_1328 c368_1329 c368_1330 rfl rfl rfl hi hL (by decide) ?_
  refine y_arg c368_1331 c368_1332 c368_1334 c368_1335 c368_1336 rfl rfl rfl hi hL (by decide) ?_
  refine y_arg c368_1337 c368_1338 c368_1340 c368_1341 c368_1342 rfl rfl rfl hi hL (by decide) ?_
  obtain ⟨v2, g2, e2, J2⟩ := t_r_pointAt (m := (Γ.1 (i + 1))) (a := (Γ.1 (i + 2))) (k := (Γ.1 (i + 3))) A1 J1
  refine y_cv (a := 0) (b := 0) c368_1343 (by decide) rfl rfl rfl rfl (by omega) (by omega) rfl rfl (wn306 hG (hG.1 (i + 1)) (hG.1 (i + 2)) (hG.1 (i + 3)) A1 e2) ?_
  intro i2 A2
  refine r_istore c368_1346 (lo' := [(7, (0, v2)), (6, (0, v1)), (5, (0, (i : Int))), (0, (9, 0)), (1, (2, Int.ofNat 0)), (2, (2, Int.ofNat 139)), (3, (2, Int.ofNat 153)), (4, (2, Int.ofNat 154))]) rfl rfl rfl ?_
  refine r_goto c368_1348 ?_
  refine q_R.wk (ks := [5, 0, 1, 2, 3, 4]) (lo' := y_lo i) rfl ?_
  exact k _ _ _ A2 ⟨⟨_, J2⟩, (j_T_J J2).2⟩ (by omega) (by omega)
end -- [99cd.law]
section -- [99ce.law]
/-! Part 99ce: cases of the law. Printed by wip/tools/genlaw.py. -/
theorem y_k32 {Γ : q_Γ} (hG : q_GG Γ) {i : Nat} (hi : i + 6 ≤ Γ.2.2.2.1) (hL : Γ.2.2.2.1 ≤ 3072) {h : q_F} (hA : q_Al 0 155 h) (J : t_J h) (E : h 1 1 = h 139 14) {cl sl : Nat} (hc : cl ≤ 3900) (hs : sl ≤ 39000) (k : y_K Γ i cl sl) : q_R Γ q_K 155 368 y_P (1351, y_lo i, [], q_hp q_K 155 h, [], cl, sl) := by
  obtain ⟨S, J⟩ := J
  refine r_aload_n c368_1351 rfl rfl ?_
  refine y_arg c368_1352 c368_1353 c368_1355 c368_1356 c368_1357 rfl rfl rfl hi hL (by decide) ?_
  refine y_arg c368_1358 c368_1359 c368_1361 c368_1362 c368_1363 rfl rfl rfl hi hL (by decide) ?_
  refine y_nz c368_1364 c368_1367 c368_1368 c368_1371 rfl (hG.1 (i + 2)) ?_
  refine r_aload_n c368_1372 rfl rfl ?_
  obtain ⟨v1, g1, e1, J1⟩ := t_L21 (v1 := (Γ.1 (i + 1))) (v2 := (y_nzv (Γ.1 (i + 2)))) hA J
  refine y_cs (a := 1) (b := 6) c368_1373 rfl rfl (by omega) (by omega) rfl rfl (wn21 hG (hG.1 (i + 1)) (y_nz01 (Γ.1 (i + 2))) hA e1) ?_
  intro i1 A1
  refine r_istore c368_1376 (lo' := [(6, (0, v1)), (5, (0, (i : Int))), (0, (9, 0)), (1, (2, Int.ofNat 0)), (2, (2, Int.ofNat 139)), (3, (2, Int.ofNat 153)), (4, (2, Int.ofNat 154))]) rfl rfl rfl ?_
  refine r_aload_n c368_1378 rfl rfl ?_
  refine y_arg c368_1379 c368_1380 c368_1382 c368_1383 c368_1384 rfl rfl rfl hi hL (by decide) ?_
  refine y_arg c368_1385 c368_1386 c368_1388 c368_1389 c368_1390 rfl rfl rfl hi hL (by decide) ?_
  refine y_nz c368_1391 c368_1394 c368_1395 c368_1398 rfl (hG.1 (i + 2)) ?_
  obtain ⟨v2, g2, e2, J2⟩ := t_r_ramp (m := (Γ.1 (i + 1))) (v := (y_nzv (Γ.1 (i + 2)))) A1 J1
  refine y_cv (a := 0) (b := 0) c368_1399 (by decide) rfl rfl rfl rfl (by omega) (by omega) rfl rfl (wn313 hG (hG.1 (i + 1)) (y_nz01 (Γ.1 (i + 2))) A1 e2) ?_
  intro i2 A2
  refine r_istore c368_1402 (lo' := [(7, (0, v2)), (6, (0, v1)), (5, (0, (i : Int))), (0, (9, 0)), (1, (2, Int.ofNat 0)), (2, (2, Int.ofNat 139)), (3, (2, Int.ofNat 153)), (4, (2, Int.ofNat 154))]) rfl rfl rfl ?_
  refine r_goto c368_1404 ?_
  refine q_R.wk (ks := [5, 0, 1, 2, 3, 4]) (lo' := y_lo i) rfl ?_
  exact k _ _ _ A2 ⟨⟨_, J2⟩, (j_T_J J2).2⟩ (by omega) (by omega)
theorem y_k33 {Γ : q_Γ} (hG : q_GG Γ) {i : Nat} (hi : i + 6 ≤ Γ.2.2.2.1) (hL : Γ.2.2.2.1 ≤ 3072) {h : q_F} (hA : q_Al 0 155 h) (J : t_J h) (E : h 1 1 = h 139 14) {cl sl : Nat} (hc : cl ≤ 3900) (hs : sl ≤ 39000) (k : y_K Γ i cl sl) : q_R Γ q_K 155 368 y_P (1407, y_lo i, [], q_hp q_K 155 h, [], cl, sl) := by
  obtain ⟨S, J⟩ := J
  refine r_aload_n c368_1407 rfl rfl ?_
  refine y_arg c368_1408 c368_1409 c368_1411 c368_1412 c368_1413 rfl rfl rfl hi hL (by decide) ?_
  refine r_aload_n c368_1414 rfl rfl ?_
  obtain ⟨v1, g1, e1, J1⟩ := t_L28 (v1 := (Γ.1 (i + 1))) hA J
  refine y_cs (a := 1) (b := 6) c368_1415 rfl rfl (by omega) (by omega) rfl rfl (wn28 hG (hG.1 (i + 1)) hA e1) ?_
  intro i1 A1
  refine r_istore c368_1418 (lo' := [(6, (0, v1)), (5, (0, (i : Int))), (0, (9, 0)), (1, (2, Int.ofNat 0)), (2, (2, Int.ofNat 139)), (3, (2, Int.ofNat 153)), (4, (2, Int.ofNat 154))]) rfl rfl rfl ?_
  refine r_aload_n c368_1420 rfl rfl ?_
  refine y_arg c368_1421 c368_1422 c368_1424 c368_1425 c368_1426 rfl rfl rfl hi hL (by decide) ?_
  obtain ⟨v2, g2, e2, J2⟩ := t_r_slowest (m := (Γ.1 (i + 1))) A1 J1
  refine y_cv (a := 0) (b := 0) c368_1427 (by decide) rfl rfl rfl rfl (by omega) (by omega) rfl rfl (wn336 hG (hG.1 (i + 1)) A1 e2) ?_
  intro i2 A2
  refine r_istore c368_1430 (lo' := [(7, (0, v2)), (6, (0, v1)), (5, (0, (i : Int))), (0, (9, 0)), (1, (2, Int.ofNat 0)), (2, (2, Int.ofNat 139)), (3, (2, Int.ofNat 153)), (4, (2, Int.ofNat 154))]) rfl rfl rfl ?_
  refine r_goto c368_1432 ?_
  refine q_R.wk (ks := [5, 0, 1, 2, 3, 4]) (lo' := y_lo i) rfl ?_
  exact k _ _ _ A2 ⟨⟨_, J2⟩, (j_T_J J2).2⟩ (by omega) (by omega)
theorem y_k34 {Γ : q_Γ} (hG : q_GG Γ) {i : Nat} (hi : i + 6 ≤ Γ.2.2.2.1) (hL : Γ.2.2.2.1 ≤ 3072) {h : q_F} (hA : q_Al 0 155 h) (J : t_J h) (E : h 1 1 = h 139 14) {cl sl : Nat} (hc : cl ≤ 3900) (hs : sl ≤ 39000) (k : y_K Γ i cl sl) : q_R Γ q_K 155 368 y_P (1435, y_lo i, [], q_hp q_K 155 h, [], cl, sl) := by
  obtain ⟨S, J⟩ := J
  refine r_aload_n c368_1435 rfl rfl ?_
  obtain ⟨v1, g1, e1, J1⟩ := t_c_pairs  hA J
  refine y_cv (a := 0) (b := 0) c368_1436 (by decide) rfl rfl rfl rfl (by omega) (by omega) rfl rfl (wn218 hG  hA e1) ?_
  intro i1 A1
  refine r_pop c368_1439 rfl rfl ?_
  refine r_aload_n c368_1440 rfl rfl ?_
  obtain ⟨v2, g2, e2, J2⟩ := t_r_pairs  A1 J1
  refine y_cv (a := 0) (b := 0) c368_1441 (by decide) rfl rfl rfl rfl (by omega) (by omega) rfl rfl (wn344 hG  A1 e2) ?_
  intro i2 A2
  refine r_pop c368_1444 rfl rfl ?_
  refine r_goto c368_1445 ?_
  refine q_R.wk (ks := [5, 0, 1, 2, 3, 4]) (lo' := y_lo i) rfl ?_
  exact k _ _ _ A2 ⟨⟨_, J2⟩, (j_T_J J2).2⟩ (by omega) (by omega)
theorem y_k35 {Γ : q_Γ} (hG : q_GG Γ) {i : Nat} (hi : i + 6 ≤ Γ.2.2.2.1) (hL : Γ.2.2.2.1 ≤ 3072) {h : q_F} (hA : q_Al 0 155 h) (J : t_J h) (E : h 1 1 = h 139 14) {cl sl : Nat} (hc : cl ≤ 3900) (hs : sl ≤ 39000) (k : y_K Γ i cl sl) : q_R Γ q_K 155 368 y_P (1448, y_lo i, [], q_hp q_K 155 h, [], cl, sl) := by
  obtain ⟨S, J⟩ := J
  refine r_aload_n c368_1448 rfl rfl ?_
  refine y_arg c368_1449 c368_1450 c368_1452 c368_1453 c368_1454 rfl rfl rfl hi hL (by decide) ?_
  refine y_arg c368_1455 c368_1456 c368_1458 c368_1459 c368_1460 rfl rfl rfl hi hL (by decide) ?_
  refine y_nz c368_1461 c368_1464 c368_1465 c368_1468 rfl (hG.1 (i + 2)) ?_
  refine r_aload_n c368_1469 rfl rfl ?_
  obtain ⟨v1, g1, e1, J1⟩ := t_L3 (v1 := (Γ.1 (i + 1))) (v2 := (y_nzv (Γ.1 (i + 2)))) hA J
  refine y_cs (a := 2) (b := 12) c368_1470 rfl rfl (by omega) (by omega) rfl rfl (wn3 hG (hG.1 (i + 1)) (y_nz01 (Γ.1 (i + 2))) hA e1) ?_
  intro i1 A1
  refine r_istore c368_1473 (lo' := [(6, (0, v1)), (5, (0, (i : Int))), (0, (9, 0)), (1, (2, Int.ofNat 0)), (2, (2, Int.ofNat 139)), (3, (2, Int.ofNat 153)), (4, (2, Int.ofNat 154))]) rfl rfl rfl ?_
  refine r_aload_n c368_1475 rfl rfl ?_
  refine y_arg c368_1476 c368_1477 c368_1479 c368_1480 c368_1481 rfl rfl rfl hi hL (by decide) ?_
  refine y_arg c368_1482 c368_1483 c368_1485 c368_1486 c368_1487 rfl rfl rfl hi hL (by decide) ?_
  refine y_nz c368_1488 c368_1491 c368_1492 c368_1495 rfl (hG.1 (i + 2)) ?_
  obtain ⟨v2, g2, e2, J2⟩ := t_r_bound (a := (Γ.1 (i + 1))) (u := (y_nzv (Γ.1 (i + 2)))) A1 J1
  refine y_cv (a := 0) (b := 0) c368_1496 (by decide) rfl rfl rfl rfl (by omega) (by omega) rfl rfl (wn244 hG (hG.1 (i + 1)) (y_nz01 (Γ.1 (i + 2))) A1 e2) ?_
  intro i2 A2
  refine r_istore c368_1499 (lo' := [(7, (0, v2)), (6, (0, v1)), (5, (0, (i : Int))), (0, (9, 0)), (1, (2, Int.ofNat 0)), (2, (2, Int.ofNat 139)), (3, (2, Int.ofNat 153)), (4, (2, Int.ofNat 154))]) rfl rfl rfl ?_
  refine r_goto c368_1501 ?_
  refine q_R.wk (ks := [5, 0, 1, 2, 3, 4]) (lo' := y_lo i) rfl ?_
  exact k _ _ _ A2 ⟨⟨_, J2⟩, (j_T_J J2).2⟩ (by omega) (by omega)
theorem y_k36 {Γ : q_Γ} (hG : q_GG Γ) {i : Nat} (hi : i + 6 ≤ Γ.2.2.2.1) (hL : Γ.2.2.2.1 ≤ 3072) {h : q_F} (hA : q_Al 0 155 h) (J : t_J h) (E : h 1 1 = h 139 14) {cl sl : Nat} (hc : cl ≤ 3900) (hs : sl ≤ 39000) (k : y_K Γ i cl sl) : q_R Γ q_K 155 368 y_P (1504, y_lo i, [], q_hp q_K 155 h, [], cl, sl) := by
  obtain ⟨S, J⟩ := J
  refine r_aload_n c368_1504 rfl rfl ?_
  refine y_arg c368_1505 c368_1506 c368_1508 c368_1509 c368_1510 rfl rfl rfl hi hL (by decide) ?_
  refine y_arg c368_1511 c368_1512 c368_1514 c368_1515 c368_1516 rfl rfl rfl hi hL (by decide) ?_
  refine y_arg c368_1517 c368_1518 c368_1520 c368_1521 c368_1522 rfl rfl rfl hi hL (by decide) ?_
  obtain ⟨S1, hm1, hI1⟩ := ((j_T_J J).1).1
  obtain ⟨v1, e1⟩ := c_nearest (x := (Γ.1 (i + 1))) (y := (Γ.1 (i + 2))) (z := (Γ.1 (i + 3))) hI1 hm1
  refine y_cp (a := 0) (b := 0) c368_1523 (by decide) rfl rfl rfl rfl (by omega) (by omega) rfl rfl (wn192 hG (hG.1 (i + 1)) (hG.1 (i + 2)) (hG.1 (i + 3)) hA e1) ?_
  intro i1
  refine r_pop c368_1526 rfl rfl ?_
  refine r_aload_n c368_1527 rfl rfl ?_
  refine y_arg c368_1528 c368_1529 c368_1531 c368_1532 c368_1533 rfl rfl rfl hi hL (by decide) ?_
  refine y_arg c368_1534 c368_1535 c368_1537 c368_1538 c368_1539 rfl rfl rfl hi hL (by decide) ?_
  refine y_arg c368_1540 c368_1541 c368_1543 c368_1544 c368_1545 rfl rfl rfl hi hL (by decide) ?_
  obtain ⟨v2, g2, e2, J2⟩ := t_r_nearest (x := (Γ.1 (i + 1))) (y := (Γ.1 (i + 2))) (z := (Γ.1 (i + 3))) hA J
  refine y_cv (a := 0) (b := 0) c368_1546 (by decide) rfl rfl rfl rfl (by omega) (by omega) rfl rfl (wn295 hG (hG.1 (i + 1)) (hG.1 (i + 2)) (hG.1 (i + 3)) hA e2) ?_
  intro i2 A2
  refine r_pop c368_1549 rfl rfl ?_
  refine r_goto c368_1550 ?_
  refine q_R.wk (ks := [5, 0, 1, 2, 3, 4]) (lo' := y_lo i) rfl ?_
  exact k _ _ _ A2 ⟨⟨_, J2⟩, (j_T_J J2).2⟩ (by omega) (by omega)
theorem y_k37 {Γ : q_Γ} (hG : q_GG Γ) {i : Nat} (hi : i + 6 ≤ Γ.2.2.2.1) (hL : Γ.2.2.2.1 ≤ 3072) {h : q_F} (hA : q_Al 0 155 h) (J : t_J h) (E : h 1 1 = h 139 14) {cl sl : Nat} (hc : cl ≤ 3900) (hs : sl ≤ 39000) (k : y_K Γ i cl sl) : q_R Γ q_K 155 368 y_P (1553, y_lo i, [], q_hp q_K 155 h, [], cl, sl) := by
  obtain ⟨S, J⟩ := J
  refine r_aload_n c368_1553 rfl rfl ?_
  refine y_arg c368_1554 c368_1555 c368_1557 c368_1558 c368_1559 rfl rfl rfl hi hL (by decide) ?_
  refine r_aload_n c368_1560 rfl rfl ?_
  obtain ⟨v1, g1, e1, J1⟩ := t_L18 (v1 := (Γ.1 (i + 1))) hA J
  refine y_cs (a := 1) (b := 6) c368_1561 rfl rfl (by omega) (by omega) rfl rfl (wn18 hG (hG.1 (i + 1)) hA e1) ?_
  intro i1 A1
  refine r_istore c368_1564 (lo' := [(6, (0, v1)), (5, (0, (i : Int))), (0, (9, 0)), (1, (2, Int.ofNat 0)), (2, (2, Int.ofNat 139)), (3, (2, Int.ofNat 153)), (4, (2, Int.ofNat 154))]) rfl rfl rfl ?_
  refine r_aload_n c368_1566 rfl rfl ?_
  refine y_arg c368_1567 c368_1568 c368_1570 c368_1571 c368_1572 rfl rfl rfl hi hL (by decide) ?_
  obtain ⟨v2, g2, e2, J2⟩ := t_r_nord (i := (Γ.1 (i + 1))) A1 J1
  refine y_cv (a := 0) (b := 0) c368_1573 (by decide) rfl rfl rfl rfl (by omega) (by omega) rfl rfl (wn297 hG (hG.1 (i + 1)) A1 e2) ?_
  intro i2 A2
  refine r_istore c368_1576 (lo' := [(7, (0, v2)), (6, (0, v1)), (5, (0, (i : Int))), (0, (9, 0)), (1, (2, Int.ofNat 0)), (2, (2, Int.ofNat 139)), (3, (2, Int.ofNat 153)), (4, (2, Int.ofNat 154))]) rfl rfl rfl ?_
  refine r_goto c368_1578 ?_
  refine q_R.wk (ks := [5, 0, 1, 2, 3, 4]) (lo' := y_lo i) rfl ?_
  exact k _ _ _ A2 ⟨⟨_, J2⟩, (j_T_J J2).2⟩ (by omega) (by omega)
theorem y_k38 {Γ : q_Γ} (hG : q_GG Γ) {i : Nat} (hi : i + 6 ≤ Γ.2.2.2.1) (hL : Γ.2.2.2.1 ≤ 3072) {h : q_F} (hA : q_Al 0 155 h) (J : t_J h) (E : h 1 1 = h 139 14) {cl sl : Nat} (hc : cl ≤ 3900) (hs : sl ≤ 39000) (k : y_K Γ i cl sl) : q_R Γ q_K 155 368 y_P (1581, y_lo i, [], q_hp q_K 155 h, [], cl, sl) := by
  obtain ⟨S, J⟩ := J
  refine r_aload_n c368_1581 rfl rfl ?_
  refine y_arg c368_1582 c368_1583 c368_1585 c368_1586 c368_1587 rfl rfl rfl hi hL (by decide) ?_
  refine r_aload_n c368_1588 rfl rfl ?_
  obtain ⟨v1, g1, e1, J1⟩ := t_L13 (v1 := (Γ.1 (i + 1))) hA J
  refine y_cs (a := 1) (b := 6) c368_1589 rfl rfl (by omega) (by omega) rfl rfl (wn13 hG (hG.1 (i + 1)) hA e1) ?_
  intro i1 A1
  refine r_istore c368_1592 (lo' := [(6, (0, v1)), (5, (0, (i : Int))), (0, (9, 0)), (1, (2, Int.ofNat 0)), (2, (2, Int.ofNat 139)), (3, (2, Int.ofNat 153)), (4, (2, Int.ofNat 154))]) rfl rfl rfl ?_
  refine r_aload_n c368_1594 rfl rfl ?_
  refine y_arg c368_1595 c368_1596 c368_1598 c368_1599 c368_1600 rfl rfl rfl hi hL (by decide) ?_
  obtain ⟨v2, g2, e2, J2⟩ := t_r_lasts (m := (Γ.1 (i + 1))) A1 J1
  refine y_cv (a := 0) (b := 0) c368_1601 (by decide) rfl rfl rfl rfl (by omega) (by omega) rfl rfl (wn276 hG (hG.1 (i + 1)) A1 e2) ?_
  intro i2 A2
  refine r_lstore c368_1604 (lo' := [(7, (1, v2)), (6, (0, v1)), (5, (0, (i : Int))), (0, (9, 0)), (1, (2, Int.ofNat 0)), (2, (2, Int.ofNat 139)), (3, (2, Int.ofNat 153)), (4, (2, Int.ofNat 154))]) rfl rfl rfl ?_
  refine r_goto c368_1606 ?_
  refine q_R.wk (ks := [5, 0, 1, 2, 3, 4]) (lo' := y_lo i) rfl ?_
  exact k _ _ _ A2 ⟨⟨_, J2⟩, (j_T_J J2).2⟩ (by omega) (by omega)
theorem y_k39 {Γ : q_Γ} (hG : q_GG Γ) {i : Nat} (hi : i + 6 ≤ Γ.2.2.2.1) (hL : Γ.2.2.2.1 ≤ 3072) {h : q_F} (hA : q_Al 0 155 h) (J : t_J h) (E : h 1 1 = h 139 14) {cl sl : Nat} (hc : cl ≤ 3900) (hs : sl ≤ 39000) (k : y_K Γ i cl sl) : q_R Γ q_K 155 368 y_P (1609, y_lo i, [], q_hp q_K 155 h, [], cl, sl) := by
  obtain ⟨S, J⟩ := J
  refine r_aload_n c368_1609 rfl rfl ?_
  refine y_arg c368_1610 c368_1611 c368_1613 c368_1614 c368_1615 rfl rfl rfl hi hL (by decide) ?_
  refine y_arg c368_1616 c368_1617 c368_1619 c368_1620 c368_1621 rfl rfl rfl hi hL (by decide) ?_
  refine r_aload_n c368_1622 rfl rfl ?_
  obtain ⟨v1, g1, e1, J1⟩ := t_L38 (v1 := (Γ.1 (i + 1))) (v2 := (Γ.1 (i + 2))) hA J
  refine y_cs (a := 3) (b := 18) c368_1623 rfl rfl (by omega) (by omega) rfl rfl (wn38 hG (hG.1 (i + 1)) (hG.1 (i + 2)) hA e1) ?_
  intro i1 A1
  refine r_istore c368_1626 (lo' := [(6, (0, v1)), (5, (0, (i : Int))), (0, (9, 0)), (1, (2, Int.ofNat 0)), (2, (2, Int.ofNat 139)), (3, (2, Int.ofNat 153)), (4, (2, Int.ofNat 154))]) rfl rfl rfl ?_
  refine r_aload_n c368_1628 rfl rfl ?_
  refine y_arg c368_1629 c368_1630 c368_1632 c368_1633 c368_1634 rfl rfl rfl hi hL (by decide) ?_
  refine y_arg c368_1635 c368_1636 c368_1638 c368_1639 c368_1640 rfl rfl rfl hi hL (by decide) ?_
  obtain ⟨v2, g2, e2, J2⟩ := t_r_where (a := (Γ.1 (i + 1))) (t := (Γ.1 (i + 2))) A1 J1
  refine y_cv (a := 0) (b := 0) c368_1641 (by decide) rfl rfl rfl rfl (by omega) (by omega) rfl rfl (wn362 hG (hG.1 (i + 1)) (hG.1 (i + 2)) A1 e2) ?_
  intro i2 A2
  refine r_istore c368_1644 (lo' := [(7, (0, v2)), (6, (0, v1)), (5, (0, (i : Int))), (0, (9, 0)), (1, (2, Int.ofNat 0)), (2, (2, Int.ofNat 139)), (3, (2, Int.ofNat 153)), (4, (2, Int.ofNat 154))]) rfl rfl rfl ?_
  refine r_goto c368_1646 ?_
  refine q_R.wk (ks := [5, 0, 1, 2, 3, 4]) (lo' := y_lo i) rfl ?_
  exact k _ _ _ A2 ⟨⟨_, J2⟩, (j_T_J J2).2⟩ (by omega) (by omega)
end -- [99ce.law]
section -- [99cf.law]
/-! Part 99cf: cases of the law. Printed by wip/tools/genlaw.py. -/
theorem y_k40 {Γ : q_Γ} (hG : q_GG Γ) {i : Nat} (hi : i + 6 ≤ Γ.2.2.2.1) (hL : Γ.2.2.2.1 ≤ 3072) {h : q_F} (hA : q_Al 0 155 h) (J : t_J h) (E : h 1 1 = h 139 14) {cl sl : Nat} (hc : cl ≤ 3900) (hs : sl ≤ 39000) (k : y_K Γ i cl sl) : q_R Γ q_K 155 368 y_P (1649, y_lo i, [], q_hp q_K 155 h, [], cl, sl) := by
  obtain ⟨S, J⟩ := J
  refine r_aload_n c368_1649 rfl rfl ?_
  refine y_arg c368_1650 c368_1651 c368_1653 c368_1654 c368_1655 rfl rfl rfl hi hL (by decide) ?_
  refine r_aload_n c368_1656 rfl rfl ?_
  obtain ⟨v1, g1, e1, J1⟩ := t_L35 (v1 := (Γ.1 (i + 1))) hA J
  refine y_cs (a := 1) (b := 6) c368_1657 rfl rfl (by omega) (by omega) rfl rfl (wn35 hG (hG.1 (i + 1)) hA e1) ?_
  intro i1 A1
  refine r_istore c368_1660 (lo' := [(6, (0, v1)), (5, (0, (i : Int))), (0, (9, 0)), (1, (2, Int.ofNat 0)), (2, (2, Int.ofNat 139)), (3, (2, Int.ofNat 153)), (4, (2, Int.ofNat 154))]) rfl rfl rfl ?_
  refine r_aload_n c368_1662 rfl rfl ?_
  refine y_arg c368_1663 c368_1664 c368_1666 c368_1667 c368_1668 rfl rfl rfl hi hL (by decide) ?_
  obtain ⟨v2, g2, e2, J2⟩ := t_r_trueB (a := (Γ.1 (i + 1))) A1 J1
  refine y_cv (a := 0) (b := 0) c368_1669 (by decide) rfl rfl rfl rfl (by omega) (by omega) rfl rfl (wn357 hG (hG.1 (i + 1)) A1 e2) ?_
  intro i2 A2
  refine r_istore c368_1672 (lo' := [(7, (0, v2)), (6, (0, v1)), (5, (0, (i : Int))), (0, (9, 0)), (1, (2, Int.ofNat 0)), (2, (2, Int.ofNat 139)), (3, (2, Int.ofNat 153)), (4, (2, Int.ofNat 154))]) rfl rfl rfl ?_
  refine r_goto c368_1674 ?_
  refine q_R.wk (ks := [5, 0, 1, 2, 3, 4]) (lo' := y_lo i) rfl ?_
  exact k _ _ _ A2 ⟨⟨_, J2⟩, (j_T_J J2).2⟩ (by omega) (by omega)
theorem y_k41 {Γ : q_Γ} (hG : q_GG Γ) {i : Nat} (hi : i + 6 ≤ Γ.2.2.2.1) (hL : Γ.2.2.2.1 ≤ 3072) {h : q_F} (hA : q_Al 0 155 h) (J : t_J h) (E : h 1 1 = h 139 14) {cl sl : Nat} (hc : cl ≤ 3900) (hs : sl ≤ 39000) (k : y_K Γ i cl sl) : q_R Γ q_K 155 368 y_P (1677, y_lo i, [], q_hp q_K 155 h, [], cl, sl) := by
  obtain ⟨S, J⟩ := J
  refine r_aload_n c368_1677 rfl rfl ?_
  refine y_arg c368_1678 c368_1679 c368_1681 c368_1682 c368_1683 rfl rfl rfl hi hL (by decide) ?_
  refine r_aload c368_1684 rfl rfl ?_
  obtain ⟨v1, g1, e1, J1⟩ := t_L14 (v1 := (Γ.1 (i + 1))) hA J
  refine y_cs (a := 1) (b := 6) c368_1686 rfl rfl (by omega) (by omega) rfl rfl (wn14 hG (hG.1 (i + 1)) hA e1) ?_
  intro i1 A1
  refine r_istore c368_1689 (lo' := [(6, (0, v1)), (5, (0, (i : Int))), (0, (9, 0)), (1, (2, Int.ofNat 0)), (2, (2, Int.ofNat 139)), (3, (2, Int.ofNat 153)), (4, (2, Int.ofNat 154))]) rfl rfl rfl ?_
  refine r_aload_n c368_1691 rfl rfl ?_
  refine y_arg c368_1692 c368_1693 c368_1695 c368_1696 c368_1697 rfl rfl rfl hi hL (by decide) ?_
  obtain ⟨v2, g2, e2, J2⟩ := t_r_line (m := (Γ.1 (i + 1))) A1 J1
  refine y_cv (a := 0) (b := 0) c368_1698 (by decide) rfl rfl rfl rfl (by omega) (by omega) rfl rfl (wn281 hG (hG.1 (i + 1)) A1 e2) ?_
  intro i2 A2
  refine r_dstore c368_1701 (lo' := [(7, (5, v2)), (6, (0, v1)), (5, (0, (i : Int))), (0, (9, 0)), (1, (2, Int.ofNat 0)), (2, (2, Int.ofNat 139)), (3, (2, Int.ofNat 153)), (4, (2, Int.ofNat 154))]) rfl rfl rfl ?_
  refine r_goto c368_1703 ?_
  refine q_R.wk (ks := [5, 0, 1, 2, 3, 4]) (lo' := y_lo i) rfl ?_
  exact k _ _ _ A2 ⟨⟨_, J2⟩, (j_T_J J2).2⟩ (by omega) (by omega)
theorem y_k42 {Γ : q_Γ} (hG : q_GG Γ) {i : Nat} (hi : i + 6 ≤ Γ.2.2.2.1) (hL : Γ.2.2.2.1 ≤ 3072) {h : q_F} (hA : q_Al 0 155 h) (J : t_J h) (E : h 1 1 = h 139 14) {cl sl : Nat} (hc : cl ≤ 3900) (hs : sl ≤ 39000) (k : y_K Γ i cl sl) : q_R Γ q_K 155 368 y_P (1706, y_lo i, [], q_hp q_K 155 h, [], cl, sl) := by
  obtain ⟨S, J⟩ := J
  refine r_aload_n c368_1706 rfl rfl ?_
  obtain ⟨v1, g1, e1, J1⟩ := t_c_qlen  hA J
  refine y_cv (a := 0) (b := 0) c368_1707 (by decide) rfl rfl rfl rfl (by omega) (by omega) rfl rfl (wn199 hG  hA e1) ?_
  intro i1 A1
  refine r_dstore c368_1710 (lo' := [(6, (5, v1)), (5, (0, (i : Int))), (0, (9, 0)), (1, (2, Int.ofNat 0)), (2, (2, Int.ofNat 139)), (3, (2, Int.ofNat 153)), (4, (2, Int.ofNat 154))]) rfl rfl rfl ?_
  refine r_aload_n c368_1712 rfl rfl ?_
  obtain ⟨v2, g2, e2, J2⟩ := t_r_qlen  A1 J1
  refine y_cv (a := 0) (b := 0) c368_1713 (by decide) rfl rfl rfl rfl (by omega) (by omega) rfl rfl (wn310 hG  A1 e2) ?_
  intro i2 A2
  refine r_dstore c368_1716 (lo' := [(8, (5, v2)), (6, (5, v1)), (5, (0, (i : Int))), (0, (9, 0)), (1, (2, Int.ofNat 0)), (2, (2, Int.ofNat 139)), (3, (2, Int.ofNat 153)), (4, (2, Int.ofNat 154))]) rfl rfl rfl ?_
  refine r_goto c368_1718 ?_
  refine q_R.wk (ks := [5, 0, 1, 2, 3, 4]) (lo' := y_lo i) rfl ?_
  exact k _ _ _ A2 ⟨⟨_, J2⟩, (j_T_J J2).2⟩ (by omega) (by omega)
theorem y_k43 {Γ : q_Γ} (hG : q_GG Γ) {i : Nat} (hi : i + 6 ≤ Γ.2.2.2.1) (hL : Γ.2.2.2.1 ≤ 3072) {h : q_F} (hA : q_Al 0 155 h) (J : t_J h) (E : h 1 1 = h 139 14) {cl sl : Nat} (hc : cl ≤ 3900) (hs : sl ≤ 39000) (k : y_K Γ i cl sl) : q_R Γ q_K 155 368 y_P (1721, y_lo i, [], q_hp q_K 155 h, [], cl, sl) := by
  obtain ⟨S, J⟩ := J
  refine r_aload_n c368_1721 rfl rfl ?_
  refine y_arg c368_1722 c368_1723 c368_1725 c368_1726 c368_1727 rfl rfl rfl hi hL (by decide) ?_
  refine r_aload c368_1728 rfl rfl ?_
  obtain ⟨v1, g1, e1, J1⟩ := t_L16 (v1 := (Γ.1 (i + 1))) hA J
  refine y_cs (a := 1) (b := 6) c368_1730 rfl rfl (by omega) (by omega) rfl rfl (wn16 hG (hG.1 (i + 1)) hA e1) ?_
  intro i1 A1
  refine r_istore c368_1733 (lo' := [(6, (0, v1)), (5, (0, (i : Int))), (0, (9, 0)), (1, (2, Int.ofNat 0)), (2, (2, Int.ofNat 139)), (3, (2, Int.ofNat 153)), (4, (2, Int.ofNat 154))]) rfl rfl rfl ?_
  refine r_aload_n c368_1735 rfl rfl ?_
  refine y_arg c368_1736 c368_1737 c368_1739 c368_1740 c368_1741 rfl rfl rfl hi hL (by decide) ?_
  obtain ⟨v2, g2, e2, J2⟩ := t_r_msp (m := (Γ.1 (i + 1))) A1 J1
  refine y_cv (a := 0) (b := 0) c368_1742 (by decide) rfl rfl rfl rfl (by omega) (by omega) rfl rfl (wn293 hG (hG.1 (i + 1)) A1 e2) ?_
  intro i2 A2
  refine r_dstore c368_1745 (lo' := [(7, (5, v2)), (6, (0, v1)), (5, (0, (i : Int))), (0, (9, 0)), (1, (2, Int.ofNat 0)), (2, (2, Int.ofNat 139)), (3, (2, Int.ofNat 153)), (4, (2, Int.ofNat 154))]) rfl rfl rfl ?_
  refine r_goto c368_1747 ?_
  refine q_R.wk (ks := [5, 0, 1, 2, 3, 4]) (lo' := y_lo i) rfl ?_
  exact k _ _ _ A2 ⟨⟨_, J2⟩, (j_T_J J2).2⟩ (by omega) (by omega)
theorem y_k44 {Γ : q_Γ} (hG : q_GG Γ) {i : Nat} (hi : i + 6 ≤ Γ.2.2.2.1) (hL : Γ.2.2.2.1 ≤ 3072) {h : q_F} (hA : q_Al 0 155 h) (J : t_J h) (E : h 1 1 = h 139 14) {cl sl : Nat} (hc : cl ≤ 3900) (hs : sl ≤ 39000) (k : y_K Γ i cl sl) : q_R Γ q_K 155 368 y_P (1750, y_lo i, [], q_hp q_K 155 h, [], cl, sl) := by
  obtain ⟨S, J⟩ := J
  refine r_aload_n c368_1750 rfl rfl ?_
  refine y_arg c368_1751 c368_1752 c368_1754 c368_1755 c368_1756 rfl rfl rfl hi hL (by decide) ?_
  refine r_aload_n c368_1757 rfl rfl ?_
  obtain ⟨v1, g1, e1, J1⟩ := t_L34 (v1 := (Γ.1 (i + 1))) hA J
  refine y_cs (a := 1) (b := 6) c368_1758 rfl rfl (by omega) (by omega) rfl rfl (wn34 hG (hG.1 (i + 1)) hA e1) ?_
  intro i1 A1
  refine r_istore c368_1761 (lo' := [(6, (0, v1)), (5, (0, (i : Int))), (0, (9, 0)), (1, (2, Int.ofNat 0)), (2, (2, Int.ofNat 139)), (3, (2, Int.ofNat 153)), (4, (2, Int.ofNat 154))]) rfl rfl rfl ?_
  refine r_aload_n c368_1763 rfl rfl ?_
  refine y_arg c368_1764 c368_1765 c368_1767 c368_1768 c368_1769 rfl rfl rfl hi hL (by decide) ?_
  obtain ⟨v2, g2, e2, J2⟩ := t_r_travel (a := (Γ.1 (i + 1))) A1 J1
  refine y_cv (a := 0) (b := 0) c368_1770 (by decide) rfl rfl rfl rfl (by omega) (by omega) rfl rfl (wn356 hG (hG.1 (i + 1)) A1 e2) ?_
  intro i2 A2
  refine r_istore c368_1773 (lo' := [(7, (0, v2)), (6, (0, v1)), (5, (0, (i : Int))), (0, (9, 0)), (1, (2, Int.ofNat 0)), (2, (2, Int.ofNat 139)), (3, (2, Int.ofNat 153)), (4, (2, Int.ofNat 154))]) rfl rfl rfl ?_
  refine r_goto c368_1775 ?_
  refine q_R.wk (ks := [5, 0, 1, 2, 3, 4]) (lo' := y_lo i) rfl ?_
  exact k _ _ _ A2 ⟨⟨_, J2⟩, (j_T_J J2).2⟩ (by omega) (by omega)
theorem y_k45 {Γ : q_Γ} (hG : q_GG Γ) {i : Nat} (hi : i + 6 ≤ Γ.2.2.2.1) (hL : Γ.2.2.2.1 ≤ 3072) {h : q_F} (hA : q_Al 0 155 h) (J : t_J h) (E : h 1 1 = h 139 14) {cl sl : Nat} (hc : cl ≤ 3900) (hs : sl ≤ 39000) (k : y_K Γ i cl sl) : q_R Γ q_K 155 368 y_P (1778, y_lo i, [], q_hp q_K 155 h, [], cl, sl) := by
  obtain ⟨S, J⟩ := J
  refine r_aload_n c368_1778 rfl rfl ?_
  refine y_arg c368_1779 c368_1780 c368_1782 c368_1783 c368_1784 rfl rfl rfl hi hL (by decide) ?_
  refine r_aload_n c368_1785 rfl rfl ?_
  obtain ⟨v1, g1, e1, J1⟩ := t_L36 (v1 := (Γ.1 (i + 1))) hA J
  refine y_cs (a := 1) (b := 6) c368_1786 rfl rfl (by omega) (by omega) rfl rfl (wn36 hG (hG.1 (i + 1)) hA e1) ?_
  intro i1 A1
  refine r_istore c368_1789 (lo' := [(6, (0, v1)), (5, (0, (i : Int))), (0, (9, 0)), (1, (2, Int.ofNat 0)), (2, (2, Int.ofNat 139)), (3, (2, Int.ofNat 153)), (4, (2, Int.ofNat 154))]) rfl rfl rfl ?_
  refine r_aload_n c368_1791 rfl rfl ?_
  refine y_arg c368_1792 c368_1793 c368_1795 c368_1796 c368_1797 rfl rfl rfl hi hL (by decide) ?_
  obtain ⟨v2, g2, e2, J2⟩ := t_r_turns (a := (Γ.1 (i + 1))) A1 J1
  refine y_cv (a := 0) (b := 0) c368_1798 (by decide) rfl rfl rfl rfl (by omega) (by omega) rfl rfl (wn359 hG (hG.1 (i + 1)) A1 e2) ?_
  intro i2 A2
  refine r_istore c368_1801 (lo' := [(7, (0, v2)), (6, (0, v1)), (5, (0, (i : Int))), (0, (9, 0)), (1, (2, Int.ofNat 0)), (2, (2, Int.ofNat 139)), (3, (2, Int.ofNat 153)), (4, (2, Int.ofNat 154))]) rfl rfl rfl ?_
  refine r_goto c368_1803 ?_
  refine q_R.wk (ks := [5, 0, 1, 2, 3, 4]) (lo' := y_lo i) rfl ?_
  exact k _ _ _ A2 ⟨⟨_, J2⟩, (j_T_J J2).2⟩ (by omega) (by omega)
theorem y_k46 {Γ : q_Γ} (hG : q_GG Γ) {i : Nat} (hi : i + 6 ≤ Γ.2.2.2.1) (hL : Γ.2.2.2.1 ≤ 3072) {h : q_F} (hA : q_Al 0 155 h) (J : t_J h) (E : h 1 1 = h 139 14) {cl sl : Nat} (hc : cl ≤ 3900) (hs : sl ≤ 39000) (k : y_K Γ i cl sl) : q_R Γ q_K 155 368 y_P (1806, y_lo i, [], q_hp q_K 155 h, [], cl, sl) := by
  obtain ⟨S, J⟩ := J
  refine r_aload_n c368_1806 rfl rfl ?_
  obtain ⟨v1, g1, e1, J1⟩ := t_c_queueTime  hA J
  refine y_cv (a := 0) (b := 0) c368_1807 (by decide) rfl rfl rfl rfl (by omega) (by omega) rfl rfl (wn200 hG  hA e1) ?_
  intro i1 A1
  refine r_pop2 c368_1810 rfl rfl ?_
  refine r_aload_n c368_1811 rfl rfl ?_
  obtain ⟨v2, g2, e2, J2⟩ := t_r_queueTime  A1 J1
  refine y_cv (a := 0) (b := 0) c368_1812 (by decide) rfl rfl rfl rfl (by omega) (by omega) rfl rfl (wn311 hG  A1 e2) ?_
  intro i2 A2
  refine r_pop2 c368_1815 rfl rfl ?_
  refine r_goto c368_1816 ?_
  refine q_R.wk (ks := [5, 0, 1, 2, 3, 4]) (lo' := y_lo i) rfl ?_
  exact k _ _ _ A2 ⟨⟨_, J2⟩, (j_T_J J2).2⟩ (by omega) (by omega)
theorem y_k47 {Γ : q_Γ} (hG : q_GG Γ) {i : Nat} (hi : i + 6 ≤ Γ.2.2.2.1) (hL : Γ.2.2.2.1 ≤ 3072) {h : q_F} (hA : q_Al 0 155 h) (J : t_J h) (E : h 1 1 = h 139 14) {cl sl : Nat} (hc : cl ≤ 3900) (hs : sl ≤ 39000) (k : y_K Γ i cl sl) : q_R Γ q_K 155 368 y_P (1819, y_lo i, [], q_hp q_K 155 h, [], cl, sl) := by
  obtain ⟨S, J⟩ := J
  refine r_aload_n c368_1819 rfl rfl ?_
  refine y_arg c368_1820 c368_1821 c368_1823 c368_1824 c368_1825 rfl rfl rfl hi hL (by decide) ?_
  refine y_arg c368_1826 c368_1827 c368_1829 c368_1830 c368_1831 rfl rfl rfl hi hL (by decide) ?_
  refine y_arg c368_1832 c368_1833 c368_1835 c368_1836 c368_1837 rfl rfl rfl hi hL (by decide) ?_
  refine r_aload_n c368_1838 rfl rfl ?_
  obtain ⟨v1, g1, e1, J1⟩ := t_L31 (v1 := (Γ.1 (i + 1))) (v2 := (Γ.1 (i + 2))) (v3 := (Γ.1 (i + 3))) hA J
  refine y_cs (a := 2) (b := 12) c368_1839 rfl rfl (by omega) (by omega) rfl rfl (wn31 hG (hG.1 (i + 1)) (hG.1 (i + 2)) (hG.1 (i + 3)) hA e1) ?_
  intro i1 A1
  refine r_istore c368_1842 (lo' := [(6, (0, v1)), (5, (0, (i : Int))), (0, (9, 0)), (1, (2, Int.ofNat 0)), (2, (2, Int.ofNat 139)), (3, (2, Int.ofNat 153)), (4, (2, Int.ofNat 154))]) rfl rfl rfl ?_
  refine r_aload_n c368_1844 rfl rfl ?_
  refine y_arg c368_1845 c368_1846 c368_1848 c368_1849 c368_1850 rfl rfl rfl hi hL (by decide) ?_
  refine y_arg c368_1851 c368_1852 c368_1854 c368_1855 c368_1856 rfl rfl rfl hi hL (by decide) ?_
  refine y_arg c368_1857 c368_1858 c368_1860 c368_1861 c368_1862 rfl rfl rfl hi hL (by decide) ?_
  obtain ⟨v2, g2, e2, J2⟩ := t_r_stTime (x := (Γ.1 (i + 1))) (y := (Γ.1 (i + 2))) (z := (Γ.1 (i + 3))) A1 J1
  refine y_cv (a := 0) (b := 0) c368_1863 (by decide) rfl rfl rfl rfl (by omega) (by omega) rfl rfl (wn345 hG (hG.1 (i + 1)) (hG.1 (i + 2)) (hG.1 (i + 3)) A1 e2) ?_
  intro i2 A2
  refine r_lstore c368_1866 (lo' := [(7, (1, v2)), (6, (0, v1)), (5, (0, (i : Int))), (0, (9, 0)), (1, (2, Int.ofNat 0)), (2, (2, Int.ofNat 139)), (3, (2, Int.ofNat 153)), (4, (2, Int.ofNat 154))]) rfl rfl rfl ?_
  refine r_goto c368_1868 ?_
  refine q_R.wk (ks := [5, 0, 1, 2, 3, 4]) (lo' := y_lo i) rfl ?_
  exact k _ _ _ A2 ⟨⟨_, J2⟩, (j_T_J J2).2⟩ (by omega) (by omega)
end -- [99cf.law]
section -- [99cg.law]
/-! Part 99cg: cases of the law. Printed by wip/tools/genlaw.py. -/
theorem y_k48 {Γ : q_Γ} (hG : q_GG Γ) {i : Nat} (hi : i + 6 ≤ Γ.2.2.2.1) (hL : Γ.2.2.2.1 ≤ 3072) {h : q_F} (hA : q_Al 0 155 h) (J : t_J h) (E : h 1 1 = h 139 14) {cl sl : Nat} (hc : cl ≤ 3900) (hs : sl ≤ 39000) (k : y_K Γ i cl sl) : q_R Γ q_K 155 368 y_P (1871, y_lo i, [], q_hp q_K 155 h, [], cl, sl) := by
  obtain ⟨S, J⟩ := J
  refine r_aload_n c368_1871 rfl rfl ?_
  obtain ⟨v1, g1, e1, J1⟩ := t_c_wLose  hA J
  refine y_cv (a := 0) (b := 0) c368_1872 (by decide) rfl rfl rfl rfl (by omega) (by omega) rfl rfl (wn233 hG  hA e1) ?_
  intro i1 A1
  refine r_pop c368_1875 rfl rfl ?_
  refine r_aload_n c368_1876 rfl rfl ?_
  obtain ⟨v2, g2, e2, J2⟩ := t_r_wLose  A1 J1
  refine y_cv (a := 0) (b := 0) c368_1877 (by decide) rfl rfl rfl rfl (by omega) (by omega) rfl rfl (wn365 hG  A1 e2) ?_
  intro i2 A2
  refine r_pop c368_1880 rfl rfl ?_
  refine r_goto c368_1881 ?_
  refine q_R.wk (ks := [5, 0, 1, 2, 3, 4]) (lo' := y_lo i) rfl ?_
  exact k _ _ _ A2 ⟨⟨_, J2⟩, (j_T_J J2).2⟩ (by omega) (by omega)
theorem y_k49 {Γ : q_Γ} (hG : q_GG Γ) {i : Nat} (hi : i + 6 ≤ Γ.2.2.2.1) (hL : Γ.2.2.2.1 ≤ 3072) {h : q_F} (hA : q_Al 0 155 h) (J : t_J h) (E : h 1 1 = h 139 14) {cl sl : Nat} (hc : cl ≤ 3900) (hs : sl ≤ 39000) (k : y_K Γ i cl sl) : q_R Γ q_K 155 368 y_P (1884, y_lo i, [], q_hp q_K 155 h, [], cl, sl) := by
  obtain ⟨S, J⟩ := J
  refine r_aload_n c368_1884 rfl rfl ?_
  refine y_arg c368_1885 c368_1886 c368_1888 c368_1889 c368_1890 rfl rfl rfl hi hL (by decide) ?_
  refine r_aload_n c368_1891 rfl rfl ?_
  obtain ⟨v1, g1, e1, J1⟩ := t_L39 (v1 := (Γ.1 (i + 1))) hA J
  refine y_cs (a := 2) (b := 12) c368_1892 rfl rfl (by omega) (by omega) rfl rfl (wn39 hG (hG.1 (i + 1)) hA e1) ?_
  intro i1 A1
  refine r_istore c368_1895 (lo' := [(6, (0, v1)), (5, (0, (i : Int))), (0, (9, 0)), (1, (2, Int.ofNat 0)), (2, (2, Int.ofNat 139)), (3, (2, Int.ofNat 153)), (4, (2, Int.ofNat 154))]) rfl rfl rfl ?_
  refine r_aload_n c368_1897 rfl rfl ?_
  refine y_arg c368_1898 c368_1899 c368_1901 c368_1902 c368_1903 rfl rfl rfl hi hL (by decide) ?_
  obtain ⟨v2, g2, e2, J2⟩ := t_r_wErr (a := (Γ.1 (i + 1))) A1 J1
  refine y_cv (a := 0) (b := 0) c368_1904 (by decide) rfl rfl rfl rfl (by omega) (by omega) rfl rfl (wn363 hG (hG.1 (i + 1)) A1 e2) ?_
  intro i2 A2
  refine r_istore c368_1907 (lo' := [(7, (0, v2)), (6, (0, v1)), (5, (0, (i : Int))), (0, (9, 0)), (1, (2, Int.ofNat 0)), (2, (2, Int.ofNat 139)), (3, (2, Int.ofNat 153)), (4, (2, Int.ofNat 154))]) rfl rfl rfl ?_
  refine r_goto c368_1909 ?_
  refine q_R.wk (ks := [5, 0, 1, 2, 3, 4]) (lo' := y_lo i) rfl ?_
  exact k _ _ _ A2 ⟨⟨_, J2⟩, (j_T_J J2).2⟩ (by omega) (by omega)
theorem y_k50 {Γ : q_Γ} (hG : q_GG Γ) {i : Nat} (hi : i + 6 ≤ Γ.2.2.2.1) (hL : Γ.2.2.2.1 ≤ 3072) {h : q_F} (hA : q_Al 0 155 h) (J : t_J h) (E : h 1 1 = h 139 14) {cl sl : Nat} (hc : cl ≤ 3900) (hs : sl ≤ 39000) (k : y_K Γ i cl sl) : q_R Γ q_K 155 368 y_P (1912, y_lo i, [], q_hp q_K 155 h, [], cl, sl) := by
  obtain ⟨S, J⟩ := J
  refine r_aload_n c368_1912 rfl rfl ?_
  refine y_arg c368_1913 c368_1914 c368_1916 c368_1917 c368_1918 rfl rfl rfl hi hL (by decide) ?_
  refine r_aload_n c368_1919 rfl rfl ?_
  obtain ⟨v1, g1, e1, J1⟩ := t_L40 (v1 := (Γ.1 (i + 1))) hA J
  refine y_cs (a := 1) (b := 6) c368_1920 rfl rfl (by omega) (by omega) rfl rfl (wn40 hG (hG.1 (i + 1)) hA e1) ?_
  intro i1 A1
  refine r_istore c368_1923 (lo' := [(6, (0, v1)), (5, (0, (i : Int))), (0, (9, 0)), (1, (2, Int.ofNat 0)), (2, (2, Int.ofNat 139)), (3, (2, Int.ofNat 153)), (4, (2, Int.ofNat 154))]) rfl rfl rfl ?_
  refine r_aload_n c368_1925 rfl rfl ?_
  refine y_arg c368_1926 c368_1927 c368_1929 c368_1930 c368_1931 rfl rfl rfl hi hL (by decide) ?_
  obtain ⟨v2, g2, e2, J2⟩ := t_r_wHome (a := (Γ.1 (i + 1))) A1 J1
  refine y_cv (a := 0) (b := 0) c368_1932 (by decide) rfl rfl rfl rfl (by omega) (by omega) rfl rfl (wn364 hG (hG.1 (i + 1)) A1 e2) ?_
  intro i2 A2
  refine r_istore c368_1935 (lo' := [(7, (0, v2)), (6, (0, v1)), (5, (0, (i : Int))), (0, (9, 0)), (1, (2, Int.ofNat 0)), (2, (2, Int.ofNat 139)), (3, (2, Int.ofNat 153)), (4, (2, Int.ofNat 154))]) rfl rfl rfl ?_
  refine r_goto c368_1937 ?_
  refine q_R.wk (ks := [5, 0, 1, 2, 3, 4]) (lo' := y_lo i) rfl ?_
  exact k _ _ _ A2 ⟨⟨_, J2⟩, (j_T_J J2).2⟩ (by omega) (by omega)
theorem y_k51 {Γ : q_Γ} (hG : q_GG Γ) {i : Nat} (hi : i + 6 ≤ Γ.2.2.2.1) (hL : Γ.2.2.2.1 ≤ 3072) {h : q_F} (hA : q_Al 0 155 h) (J : t_J h) (E : h 1 1 = h 139 14) {cl sl : Nat} (hc : cl ≤ 3900) (hs : sl ≤ 39000) (k : y_K Γ i cl sl) : q_R Γ q_K 155 368 y_P (1940, y_lo i, [], q_hp q_K 155 h, [], cl, sl) := by
  obtain ⟨S, J⟩ := J
  refine r_aload_n c368_1940 rfl rfl ?_
  obtain ⟨v1, g1, e1, J1⟩ := t_c_bestF  hA J
  refine y_cv (a := 0) (b := 0) c368_1941 (by decide) rfl rfl rfl rfl (by omega) (by omega) rfl rfl (wn158 hG  hA e1) ?_
  intro i1 A1
  refine r_pop c368_1944 rfl rfl ?_
  refine r_aload_n c368_1945 rfl rfl ?_
  obtain ⟨v2, g2, e2, J2⟩ := t_r_bestF  A1 J1
  refine y_cv (a := 0) (b := 0) c368_1946 (by decide) rfl rfl rfl rfl (by omega) (by omega) rfl rfl (wn242 hG  A1 e2) ?_
  intro i2 A2
  refine r_pop c368_1949 rfl rfl ?_
  refine r_goto c368_1950 ?_
  refine q_R.wk (ks := [5, 0, 1, 2, 3, 4]) (lo' := y_lo i) rfl ?_
  exact k _ _ _ A2 ⟨⟨_, J2⟩, (j_T_J J2).2⟩ (by omega) (by omega)
theorem y_k52 {Γ : q_Γ} (hG : q_GG Γ) {i : Nat} (hi : i + 6 ≤ Γ.2.2.2.1) (hL : Γ.2.2.2.1 ≤ 3072) {h : q_F} (hA : q_Al 0 155 h) (J : t_J h) (E : h 1 1 = h 139 14) {cl sl : Nat} (hc : cl ≤ 3900) (hs : sl ≤ 39000) (k : y_K Γ i cl sl) : q_R Γ q_K 155 368 y_P (1953, y_lo i, [], q_hp q_K 155 h, [], cl, sl) := by
  obtain ⟨S, J⟩ := J
  refine r_aload_n c368_1953 rfl rfl ?_
  refine r_aload_n c368_1954 rfl rfl ?_
  obtain ⟨v1, g1, e1, J1⟩ := t_L2  hA J
  refine y_cs (a := 1) (b := 6) c368_1955 rfl rfl (by omega) (by omega) rfl rfl (wn2 hG  hA e1) ?_
  intro i1 A1
  refine r_istore c368_1958 (lo' := [(6, (0, v1)), (5, (0, (i : Int))), (0, (9, 0)), (1, (2, Int.ofNat 0)), (2, (2, Int.ofNat 139)), (3, (2, Int.ofNat 153)), (4, (2, Int.ofNat 154))]) rfl rfl rfl ?_
  refine r_aload_n c368_1960 rfl rfl ?_
  obtain ⟨v2, g2, e2, J2⟩ := t_r_bestS  A1 J1
  refine y_cv (a := 0) (b := 0) c368_1961 (by decide) rfl rfl rfl rfl (by omega) (by omega) rfl rfl (wn243 hG  A1 e2) ?_
  intro i2 A2
  refine r_istore c368_1964 (lo' := [(7, (0, v2)), (6, (0, v1)), (5, (0, (i : Int))), (0, (9, 0)), (1, (2, Int.ofNat 0)), (2, (2, Int.ofNat 139)), (3, (2, Int.ofNat 153)), (4, (2, Int.ofNat 154))]) rfl rfl rfl ?_
  refine r_goto c368_1966 ?_
  refine q_R.wk (ks := [5, 0, 1, 2, 3, 4]) (lo' := y_lo i) rfl ?_
  exact k _ _ _ A2 ⟨⟨_, J2⟩, (j_T_J J2).2⟩ (by omega) (by omega)
theorem y_k53 {Γ : q_Γ} (hG : q_GG Γ) {i : Nat} (hi : i + 6 ≤ Γ.2.2.2.1) (hL : Γ.2.2.2.1 ≤ 3072) {h : q_F} (hA : q_Al 0 155 h) (J : t_J h) (E : h 1 1 = h 139 14) {cl sl : Nat} (hc : cl ≤ 3900) (hs : sl ≤ 39000) (k : y_K Γ i cl sl) : q_R Γ q_K 155 368 y_P (1969, y_lo i, [], q_hp q_K 155 h, [], cl, sl) := by
  obtain ⟨S, J⟩ := J
  refine r_aload_n c368_1969 rfl rfl ?_
  refine y_arg c368_1970 c368_1971 c368_1973 c368_1974 c368_1975 rfl rfl rfl hi hL (by decide) ?_
  refine y_arg c368_1976 c368_1977 c368_1979 c368_1980 c368_1981 rfl rfl rfl hi hL (by decide) ?_
  refine y_nz c368_1982 c368_1985 c368_1986 c368_1989 rfl (hG.1 (i + 2)) ?_
  refine r_aload_n c368_1990 rfl rfl ?_
  obtain ⟨v1, g1, e1, J1⟩ := t_L27 (v1 := (Γ.1 (i + 1))) (v2 := (y_nzv (Γ.1 (i + 2)))) hA J
  refine y_cs (a := 1) (b := 6) c368_1991 rfl rfl (by omega) (by omega) rfl rfl (wn27 hG (hG.1 (i + 1)) (y_nz01 (Γ.1 (i + 2))) hA e1) ?_
  intro i1 A1
  refine r_istore c368_1994 (lo' := [(6, (0, v1)), (5, (0, (i : Int))), (0, (9, 0)), (1, (2, Int.ofNat 0)), (2, (2, Int.ofNat 139)), (3, (2, Int.ofNat 153)), (4, (2, Int.ofNat 154))]) rfl rfl rfl ?_
  refine r_aload_n c368_1996 rfl rfl ?_
  refine y_arg c368_1997 c368_1998 c368_2000 c368_2001 c368_2002 rfl rfl rfl hi hL (by decide) ?_
  refine y_arg c368_2003 c368_2004 c368_2006 c368_2007 c368_2008 rfl rfl rfl hi hL (by decide) ?_
  refine y_nz c368_2009 c368_2012 c368_2013 c368_2016 rfl (hG.1 (i + 2)) ?_
  obtain ⟨v2, g2, e2, J2⟩ := t_r_slack (a := (Γ.1 (i + 1))) (v := (y_nzv (Γ.1 (i + 2)))) A1 J1
  refine y_cv (a := 0) (b := 0) c368_2017 (by decide) rfl rfl rfl rfl (by omega) (by omega) rfl rfl (wn334 hG (hG.1 (i + 1)) (y_nz01 (Γ.1 (i + 2))) A1 e2) ?_
  intro i2 A2
  refine r_istore c368_2020 (lo' := [(7, (0, v2)), (6, (0, v1)), (5, (0, (i : Int))), (0, (9, 0)), (1, (2, Int.ofNat 0)), (2, (2, Int.ofNat 139)), (3, (2, Int.ofNat 153)), (4, (2, Int.ofNat 154))]) rfl rfl rfl ?_
  refine r_goto c368_2022 ?_
  refine q_R.wk (ks := [5, 0, 1, 2, 3, 4]) (lo' := y_lo i) rfl ?_
  exact k _ _ _ A2 ⟨⟨_, J2⟩, (j_T_J J2).2⟩ (by omega) (by omega)
theorem y_k54 {Γ : q_Γ} (hG : q_GG Γ) {i : Nat} (hi : i + 6 ≤ Γ.2.2.2.1) (hL : Γ.2.2.2.1 ≤ 3072) {h : q_F} (hA : q_Al 0 155 h) (J : t_J h) (E : h 1 1 = h 139 14) {cl sl : Nat} (hc : cl ≤ 3900) (hs : sl ≤ 39000) (k : y_K Γ i cl sl) : q_R Γ q_K 155 368 y_P (2025, y_lo i, [], q_hp q_K 155 h, [], cl, sl) := by
  obtain ⟨S, J⟩ := J
  refine r_aload_n c368_2025 rfl rfl ?_
  refine y_arg c368_2026 c368_2027 c368_2029 c368_2030 c368_2031 rfl rfl rfl hi hL (by decide) ?_
  refine y_arg c368_2032 c368_2033 c368_2035 c368_2036 c368_2037 rfl rfl rfl hi hL (by decide) ?_
  refine r_aload_n c368_2038 rfl rfl ?_
  obtain ⟨v1, g1, e1, J1⟩ := t_L0 (v1 := (Γ.1 (i + 1))) (v2 := (Γ.1 (i + 2))) hA J
  refine y_cs (a := 2) (b := 12) c368_2039 rfl rfl (by omega) (by omega) rfl rfl (wn0 hG (hG.1 (i + 1)) (hG.1 (i + 2)) hA e1) ?_
  intro i1 A1
  refine r_istore c368_2042 (lo' := [(6, (0, v1)), (5, (0, (i : Int))), (0, (9, 0)), (1, (2, Int.ofNat 0)), (2, (2, Int.ofNat 139)), (3, (2, Int.ofNat 153)), (4, (2, Int.ofNat 154))]) rfl rfl rfl ?_
  refine r_aload_n c368_2044 rfl rfl ?_
  refine y_arg c368_2045 c368_2046 c368_2048 c368_2049 c368_2050 rfl rfl rfl hi hL (by decide) ?_
  refine y_arg c368_2051 c368_2052 c368_2054 c368_2055 c368_2056 rfl rfl rfl hi hL (by decide) ?_
  obtain ⟨v2, g2, e2, J2⟩ := t_r_account (a := (Γ.1 (i + 1))) (v := (Γ.1 (i + 2))) A1 J1
  refine y_cv (a := 0) (b := 0) c368_2057 (by decide) rfl rfl rfl rfl (by omega) (by omega) rfl rfl (wn234 hG (hG.1 (i + 1)) (hG.1 (i + 2)) A1 e2) ?_
  intro i2 A2
  refine r_istore c368_2060 (lo' := [(7, (0, v2)), (6, (0, v1)), (5, (0, (i : Int))), (0, (9, 0)), (1, (2, Int.ofNat 0)), (2, (2, Int.ofNat 139)), (3, (2, Int.ofNat 153)), (4, (2, Int.ofNat 154))]) rfl rfl rfl ?_
  refine r_goto c368_2062 ?_
  refine q_R.wk (ks := [5, 0, 1, 2, 3, 4]) (lo' := y_lo i) rfl ?_
  exact k _ _ _ A2 ⟨⟨_, J2⟩, (j_T_J J2).2⟩ (by omega) (by omega)
theorem y_k55 {Γ : q_Γ} (hG : q_GG Γ) {i : Nat} (hi : i + 6 ≤ Γ.2.2.2.1) (hL : Γ.2.2.2.1 ≤ 3072) {h : q_F} (hA : q_Al 0 155 h) (J : t_J h) (E : h 1 1 = h 139 14) {cl sl : Nat} (hc : cl ≤ 3900) (hs : sl ≤ 39000) (k : y_K Γ i cl sl) : q_R Γ q_K 155 368 y_P (2065, y_lo i, [], q_hp q_K 155 h, [], cl, sl) := by
  obtain ⟨S, J⟩ := J
  refine r_aload_n c368_2065 rfl rfl ?_
  obtain ⟨v1, e1⟩ := c_mdur (h := h) (q_al1 hA rfl (by decide) (by decide)) (q_al1 hA rfl (by decide) (by decide))
  refine y_cp (a := 0) (b := 0) c368_2066 (by decide) rfl rfl rfl rfl (by omega) (by omega) rfl rfl (wn189 hG  hA e1) ?_
  intro i1
  refine r_dstore c368_2069 (lo' := [(6, (5, v1)), (5, (0, (i : Int))), (0, (9, 0)), (1, (2, Int.ofNat 0)), (2, (2, Int.ofNat 139)), (3, (2, Int.ofNat 153)), (4, (2, Int.ofNat 154))]) rfl rfl rfl ?_
  refine r_aload_n c368_2071 rfl rfl ?_
  obtain ⟨v2, g2, e2, J2⟩ := t_r_mdur  hA J
  refine y_cv (a := 0) (b := 0) c368_2072 (by decide) rfl rfl rfl rfl (by omega) (by omega) rfl rfl (wn292 hG  hA e2) ?_
  intro i2 A2
  refine r_dstore c368_2075 (lo' := [(8, (5, v2)), (6, (5, v1)), (5, (0, (i : Int))), (0, (9, 0)), (1, (2, Int.ofNat 0)), (2, (2, Int.ofNat 139)), (3, (2, Int.ofNat 153)), (4, (2, Int.ofNat 154))]) rfl rfl rfl ?_
  refine r_goto c368_2077 ?_
  refine q_R.wk (ks := [5, 0, 1, 2, 3, 4]) (lo' := y_lo i) rfl ?_
  exact k _ _ _ A2 ⟨⟨_, J2⟩, (j_T_J J2).2⟩ (by omega) (by omega)
end -- [99cg.law]
section -- [99ch.law]
/-! Part 99ch: cases of the law. Printed by wip/tools/genlaw.py. -/
theorem y_k56 {Γ : q_Γ} (hG : q_GG Γ) {i : Nat} (hi : i + 6 ≤ Γ.2.2.2.1) (hL : Γ.2.2.2.1 ≤ 3072) {h : q_F} (hA : q_Al 0 155 h) (J : t_J h) (E : h 1 1 = h 139 14) {cl sl : Nat} (hc : cl ≤ 3900) (hs : sl ≤ 39000) (k : y_K Γ i cl sl) : q_R Γ q_K 155 368 y_P (2080, y_lo i, [], q_hp q_K 155 h, [], cl, sl) := by
  obtain ⟨S, J⟩ := J
  refine r_aload_n c368_2080 rfl rfl ?_
  refine y_arg c368_2081 c368_2082 c368_2084 c368_2085 c368_2086 rfl rfl rfl hi hL (by decide) ?_
  refine r_aload c368_2087 rfl rfl ?_
  obtain ⟨v1, g1, e1, J1⟩ := t_L15 (v1 := (Γ.1 (i + 1))) hA J
  refine y_cs (a := 1) (b := 6) c368_2089 rfl rfl (by omega) (by omega) rfl rfl (wn15 hG (hG.1 (i + 1)) hA e1) ?_
  intro i1 A1
  refine r_istore c368_2092 (lo' := [(6, (0, v1)), (5, (0, (i : Int))), (0, (9, 0)), (1, (2, Int.ofNat 0)), (2, (2, Int.ofNat 139)), (3, (2, Int.ofNat 153)), (4, (2, Int.ofNat 154))]) rfl rfl rfl ?_
  refine r_aload_n c368_2094 rfl rfl ?_
  refine y_arg c368_2095 c368_2096 c368_2098 c368_2099 c368_2100 rfl rfl rfl hi hL (by decide) ?_
  obtain ⟨v2, g2, e2, J2⟩ := t_r_lost2 (a := (Γ.1 (i + 1))) A1 J1
  refine y_cv (a := 0) (b := 0) c368_2101 (by decide) rfl rfl rfl rfl (by omega) (by omega) rfl rfl (wn285 hG (hG.1 (i + 1)) A1 e2) ?_
  intro i2 A2
  refine r_fstore c368_2104 (lo' := [(7, (4, v2)), (6, (0, v1)), (5, (0, (i : Int))), (0, (9, 0)), (1, (2, Int.ofNat 0)), (2, (2, Int.ofNat 139)), (3, (2, Int.ofNat 153)), (4, (2, Int.ofNat 154))]) rfl rfl rfl ?_
  refine r_goto c368_2106 ?_
  refine q_R.wk (ks := [5, 0, 1, 2, 3, 4]) (lo' := y_lo i) rfl ?_
  exact k _ _ _ A2 ⟨⟨_, J2⟩, (j_T_J J2).2⟩ (by omega) (by omega)
theorem y_k57 {Γ : q_Γ} (hG : q_GG Γ) {i : Nat} (hi : i + 6 ≤ Γ.2.2.2.1) (hL : Γ.2.2.2.1 ≤ 3072) {h : q_F} (hA : q_Al 0 155 h) (J : t_J h) (E : h 1 1 = h 139 14) {cl sl : Nat} (hc : cl ≤ 3900) (hs : sl ≤ 39000) (k : y_K Γ i cl sl) : q_R Γ q_K 155 368 y_P (2109, y_lo i, [], q_hp q_K 155 h, [], cl, sl) := by
  obtain ⟨S, J⟩ := J
  refine r_aload_n c368_2109 rfl rfl ?_
  obtain ⟨v1, g1, e1, J1⟩ := t_c_print  hA J
  refine y_cv (a := 0) (b := 0) c368_2110 (by decide) rfl rfl rfl rfl (by omega) (by omega) rfl rfl (wn197 hG  hA e1) ?_
  intro i1 A1
  refine r_pop c368_2113 rfl rfl ?_
  refine r_aload_n c368_2114 rfl rfl ?_
  obtain ⟨v2, g2, e2, J2⟩ := t_print   J1
  refine y_cv (a := 0) (b := 0) c368_2115 (by decide) rfl rfl rfl rfl (by omega) (by omega) rfl rfl (wn307 hG  A1 e2) ?_
  intro i2 A2
  refine r_pop c368_2118 rfl rfl ?_
  refine r_goto c368_2119 ?_
  refine q_R.wk (ks := [5, 0, 1, 2, 3, 4]) (lo' := y_lo i) rfl ?_
  exact k _ _ _ A2 ⟨⟨_, J2⟩, (j_T_J J2).2⟩ (by omega) (by omega)
theorem y_k58 {Γ : q_Γ} (hG : q_GG Γ) {i : Nat} (hi : i + 6 ≤ Γ.2.2.2.1) (hL : Γ.2.2.2.1 ≤ 3072) {h : q_F} (hA : q_Al 0 155 h) (J : t_J h) (E : h 1 1 = h 139 14) {cl sl : Nat} (hc : cl ≤ 3900) (hs : sl ≤ 39000) (k : y_K Γ i cl sl) : q_R Γ q_K 155 368 y_P (2122, y_lo i, [], q_hp q_K 155 h, [], cl, sl) := by
  obtain ⟨S, J⟩ := J
  refine r_aload_n c368_2122 rfl rfl ?_
  refine y_arg c368_2123 c368_2124 c368_2126 c368_2127 c368_2128 rfl rfl rfl hi hL (by decide) ?_
  obtain ⟨v1, e1⟩ := c_outByte (Γ.1 (i + 1)) h
  refine y_cp (a := 0) (b := 0) c368_2129 (by decide) rfl rfl rfl rfl (by omega) (by omega) rfl rfl (wn194 hG (hG.1 (i + 1)) hA e1) ?_
  intro i1
  refine r_pop c368_2132 rfl rfl ?_
  refine r_aload_n c368_2133 rfl rfl ?_
  refine y_arg c368_2134 c368_2135 c368_2137 c368_2138 c368_2139 rfl rfl rfl hi hL (by decide) ?_
  obtain ⟨v2, g2, e2, J2⟩ := t_r_outByte (v := (Γ.1 (i + 1))) hA J
  refine y_cv (a := 0) (b := 0) c368_2140 (by decide) rfl rfl rfl rfl (by omega) (by omega) rfl rfl (wn304 hG (hG.1 (i + 1)) hA e2) ?_
  intro i2 A2
  refine r_pop c368_2143 rfl rfl ?_
  refine r_goto c368_2144 ?_
  refine q_R.wk (ks := [5, 0, 1, 2, 3, 4]) (lo' := y_lo i) rfl ?_
  exact k _ _ _ A2 ⟨⟨_, J2⟩, (j_T_J J2).2⟩ (by omega) (by omega)
theorem y_k59 {Γ : q_Γ} (hG : q_GG Γ) {i : Nat} (hi : i + 6 ≤ Γ.2.2.2.1) (hL : Γ.2.2.2.1 ≤ 3072) {h : q_F} (hA : q_Al 0 155 h) (J : t_J h) (E : h 1 1 = h 139 14) {cl sl : Nat} (hc : cl ≤ 3900) (hs : sl ≤ 39000) (k : y_K Γ i cl sl) : q_R Γ q_K 155 368 y_P (2147, y_lo i, [], q_hp q_K 155 h, [], cl, sl) := by
  obtain ⟨S, J⟩ := J
  refine r_aload_n c368_2147 rfl rfl ?_
  obtain ⟨v1, g1, e1, J1⟩ := t_c_undo  hA J
  refine y_cv (a := 0) (b := 0) c368_2148 (by decide) rfl rfl rfl rfl (by omega) (by omega) rfl rfl (wn228 hG  hA e1) ?_
  intro i1 A1
  refine r_pop c368_2151 rfl rfl ?_
  refine r_aload_n c368_2152 rfl rfl ?_
  obtain ⟨v2, g2, e2, J2⟩ := t_r_undo  A1 J1
  refine y_cv (a := 0) (b := 0) c368_2153 (by decide) rfl rfl rfl rfl (by omega) (by omega) rfl rfl (wn360 hG  A1 e2) ?_
  intro i2 A2
  refine r_pop c368_2156 rfl rfl ?_
  refine r_goto c368_2157 ?_
  refine q_R.wk (ks := [5, 0, 1, 2, 3, 4]) (lo' := y_lo i) rfl ?_
  exact k _ _ _ A2 ⟨⟨_, J2⟩, (j_T_J J2).2⟩ (by omega) (by omega)
theorem y_k60 {Γ : q_Γ} (hG : q_GG Γ) {i : Nat} (hi : i + 6 ≤ Γ.2.2.2.1) (hL : Γ.2.2.2.1 ≤ 3072) {h : q_F} (hA : q_Al 0 155 h) (J : t_J h) (E : h 1 1 = h 139 14) {cl sl : Nat} (hc : cl ≤ 3900) (hs : sl ≤ 39000) (k : y_K Γ i cl sl) : q_R Γ q_K 155 368 y_P (2160, y_lo i, [], q_hp q_K 155 h, [], cl, sl) := by
  obtain ⟨S, J⟩ := J
  refine r_aload_n c368_2160 rfl rfl ?_
  obtain ⟨v1, g1, e1, J1⟩ := t_c_save  hA J
  refine y_cv (a := 0) (b := 0) c368_2161 (by decide) rfl rfl rfl rfl (by omega) (by omega) rfl rfl (wn209 hG  hA e1) ?_
  intro i1 A1
  refine r_pop c368_2164 rfl rfl ?_
  refine r_aload_n c368_2165 rfl rfl ?_
  obtain ⟨v2, g2, e2, J2⟩ := t_r_save  A1 J1
  refine y_cv (a := 0) (b := 0) c368_2166 (by decide) rfl rfl rfl rfl (by omega) (by omega) rfl rfl (wn326 hG  A1 e2) ?_
  intro i2 A2
  refine r_pop c368_2169 rfl rfl ?_
  refine r_goto c368_2170 ?_
  refine q_R.wk (ks := [5, 0, 1, 2, 3, 4]) (lo' := y_lo i) rfl ?_
  exact k _ _ _ A2 ⟨⟨_, J2⟩, (j_T_J J2).2⟩ (by omega) (by omega)
theorem y_k61 {Γ : q_Γ} (hG : q_GG Γ) {i : Nat} (hi : i + 6 ≤ Γ.2.2.2.1) (hL : Γ.2.2.2.1 ≤ 3072) {h : q_F} (hA : q_Al 0 155 h) (J : t_J h) (E : h 1 1 = h 139 14) {cl sl : Nat} (hc : cl ≤ 3900) (hs : sl ≤ 39000) (k : y_K Γ i cl sl) : q_R Γ q_K 155 368 y_P (2173, y_lo i, [], q_hp q_K 155 h, [], cl, sl) := by
  obtain ⟨S, J⟩ := J
  refine r_aload_n c368_2173 rfl rfl ?_
  refine r_aload_n c368_2174 rfl rfl ?_
  obtain ⟨v1, g1, e1, J1⟩ := t_L23  hA J
  refine y_cs (a := 1) (b := 6) c368_2175 rfl rfl (by omega) (by omega) rfl rfl (wn23 hG  hA e1) ?_
  intro i1 A1
  refine r_istore c368_2178 (lo' := [(6, (0, v1)), (5, (0, (i : Int))), (0, (9, 0)), (1, (2, Int.ofNat 0)), (2, (2, Int.ofNat 139)), (3, (2, Int.ofNat 153)), (4, (2, Int.ofNat 154))]) rfl rfl rfl ?_
  refine r_aload_n c368_2180 rfl rfl ?_
  obtain ⟨v2, g2, e2, J2⟩ := t_r_rest  A1 J1
  refine y_cv (a := 0) (b := 0) c368_2181 (by decide) rfl rfl rfl rfl (by omega) (by omega) rfl rfl (wn322 hG  A1 e2) ?_
  intro i2 A2
  refine r_istore c368_2184 (lo' := [(7, (0, v2)), (6, (0, v1)), (5, (0, (i : Int))), (0, (9, 0)), (1, (2, Int.ofNat 0)), (2, (2, Int.ofNat 139)), (3, (2, Int.ofNat 153)), (4, (2, Int.ofNat 154))]) rfl rfl rfl ?_
  refine r_goto c368_2186 ?_
  refine q_R.wk (ks := [5, 0, 1, 2, 3, 4]) (lo' := y_lo i) rfl ?_
  exact k _ _ _ A2 ⟨⟨_, J2⟩, (j_T_J J2).2⟩ (by omega) (by omega)
end -- [99ch.law]
section -- [99e.switch]
/-! Part 99e: the law's switch. Printed by wip/tools/genlaw.py. -/
def y_offs : Array Int := #[263, 336, 361, 374, 387, 400, 428, 468, 496, 524, 552, 565, 593, 633, 685, 701, 729, 742, 783, 824, 864, 892, 932, 972, 1012, 1064, 1093, 1109, 1122, 1186, 1214, 1254, 1306, 1362, 1390, 1403, 1459, 1508, 1536, 1564, 1604, 1632, 1661, 1676, 1705, 1733, 1761, 1774, 1826, 1839, 1867, 1895, 1908, 1924, 1980, 2020, 2035, 2064, 2077, 2102, 2115, 2128]
theorem y_sw {Γ : q_Γ} (hG : q_GG Γ) {i : Nat} (hi : i + 6 ≤ Γ.2.2.2.1) (hL : Γ.2.2.2.1 ≤ 3072) {h : q_F} (hA : q_Al 0 155 h) (J : t_J h) (E : h 1 1 = h 139 14) {cl sl : Nat} (hc : cl ≤ 3900) (hs : sl ≤ 39000) (kk : y_K Γ i cl sl) {d lo9 hi9 : Int} {offs : Array Int} (hd : d = 2144) (hl : lo9 = 0) (hh : hi9 = 61) (ho : offs = y_offs) (z : Int) (z0 : 0 ≤ z) (z1 : z ≤ 61) : ∃ t, q_tgt 45 d lo9 hi9 offs z = some t ∧ q_R Γ q_K 155 368 y_P (t, y_lo i, [], q_hp q_K 155 h, [], cl, sl) := by
  subst hd; subst hl; subst hh; subst ho
  by_cases c0_61 : z ≤ 30
  · by_cases c0_30 : z ≤ 15
    · by_cases c0_15 : z ≤ 7
      · by_cases c0_7 : z ≤ 3
        · by_cases c0_3 : z ≤ 1
          · by_cases c0_1 : z ≤ 0
            · have e9 : z = 0 := by omega
              subst e9
              exact ⟨308, rfl, y_k0 hG hi hL hA J E (by omega) (by omega) kk⟩
            · have e9 : z = 1 := by omega
              subst e9
              exact ⟨381, rfl, y_k1 hG hi hL hA J E (by omega) (by omega) kk⟩
          · by_cases c2_3 : z ≤ 2
            · have e9 : z = 2 := by omega
              subst e9
              exact ⟨406, rfl, y_k2 hG hi hL hA J E (by omega) (by omega) kk⟩
            · have e9 : z = 3 := by omega
              subst e9
              exact ⟨419, rfl, y_k3 hG hi hL hA J E (by omega) (by omega) kk⟩
        · by_cases c4_7 : z ≤ 5
          · by_cases c4_5 : z ≤ 4
            · have e9 : z = 4 := by omega
              subst e9
              exact ⟨432, rfl, y_k4 hG hi hL hA J E (by omega) (by omega) kk⟩
            · have e9 : z = 5 := by omega
              subst e9
              exact ⟨445, rfl, y_k5 hG hi hL hA J E (by omega) (by omega) kk⟩
          · by_cases c6_7 : z ≤ 6
            · have e9 : z = 6 := by omega
              subst e9
              exact ⟨473, rfl, y_k6 hG hi hL hA J E (by omega) (by omega) kk⟩
            · have e9 : z = 7 := by omega
              subst e9
              exact ⟨513, rfl, y_k7 hG hi hL hA J E (by omega) (by omega) kk⟩
      · by_cases c8_15 : z ≤ 11
        · by_cases c8_11 : z ≤ 9
          · by_cases c8_9 : z ≤ 8
            · have e9 : z = 8 := by omega
              subst e9
              exact ⟨541, rfl, y_k8 hG hi hL hA J E (by omega) (by omega) kk⟩
            · have e9 : z = 9 := by omega
              subst e9
              exact ⟨569, rfl, y_k9 hG hi hL hA J E (by omega) (by omega) kk⟩
          · by_cases c10_11 : z ≤ 10
            · have e9 : z = 10 := by omega
              subst e9
              exact ⟨597, rfl, y_k10 hG hi hL hA J E (by omega) (by omega) kk⟩
            · have e9 : z = 11 := by omega
              subst e9
              exact ⟨610, rfl, y_k11 hG hi hL hA J E (by omega) (by omega) kk⟩
        · by_cases c12_15 : z ≤ 13
          · by_cases c12_13 : z ≤ 12
            · have e9 : z = 12 := by omega
              subst e9
              exact ⟨638, rfl, y_k12 hG hi hL hA J E (by omega) (by omega) kk⟩
            · have e9 : z = 13 := by omega
              subst e9
              exact ⟨678, rfl, y_k13 hG hi hL hA J E (by omega) (by omega) kk⟩
          · by_cases c14_15 : z ≤ 14
            · have e9 : z = 14 := by omega
              subst e9
              exact ⟨730, rfl, y_k14 hG hi hL hA J E (by omega) (by omega) kk⟩
            · have e9 : z = 15 := by omega
              subst e9
              exact ⟨746, rfl, y_k15 hG hi hL hA J E (by omega) (by omega) kk⟩
    · by_cases c16_30 : z ≤ 23
      · by_cases c16_23 : z ≤ 19
        · by_cases c16_19 : z ≤ 17
          · by_cases c16_17 : z ≤ 16
            · have e9 : z = 16 := by omega
              subst e9
              exact ⟨774, rfl, y_k16 hG hi hL hA J E (by omega) (by omega) kk⟩
            · have e9 : z = 17 := by omega
              subst e9
              exact ⟨787, rfl, y_k17 hG hi hL hA J E (by omega) (by omega) kk⟩
          · by_cases c18_19 : z ≤ 18
            · have e9 : z = 18 := by omega
              subst e9
              exact ⟨828, rfl, y_k18 hG hi hL hA J E (by omega) (by omega) kk⟩
            · have e9 : z = 19 := by omega
              subst e9
              exact ⟨869, rfl, y_k19 hG hi hL hA J E (by omega) (by omega) kk⟩
        · by_cases c20_23 : z ≤ 21
          · by_cases c20_21 : z ≤ 20
            · have e9 : z = 20 := by omega
              subst e9
              exact ⟨909, rfl, y_k20 hG hi hL hA J E (by omega) (by omega) kk⟩
            · have e9 : z = 21 := by omega
              subst e9
              exact ⟨937, rfl, y_k21 hG hi hL hA J E (by omega) (by omega) kk⟩
          · by_cases c22_23 : z ≤ 22
            · have e9 : z = 22 := by omega
              subst e9
              exact ⟨977, rfl, y_k22 hG hi hL hA J E (by omega) (by omega) kk⟩
            · have e9 : z = 23 := by omega
              subst e9
              exact ⟨1017, rfl, y_k23 hG hi hL hA J E (by omega) (by omega) kk⟩
      · by_cases c24_30 : z ≤ 27
        · by_cases c24_27 : z ≤ 25
          · by_cases c24_25 : z ≤ 24
            · have e9 : z = 24 := by omega
              subst e9
              exact ⟨1057, rfl, y_k24 hG hi hL hA J E (by omega) (by omega) kk⟩
            · have e9 : z = 25 := by omega
              subst e9
              exact ⟨1109, rfl, y_k25 hG hi hL hA J E (by omega) (by omega) kk⟩
          · by_cases c26_27 : z ≤ 26
            · have e9 : z = 26 := by omega
              subst e9
              exact ⟨1138, rfl, y_k26 hG hi hL hA J E (by omega) (by omega) kk⟩
            · have e9 : z = 27 := by omega
              subst e9
              exact ⟨1154, rfl, y_k27 hG hi hL hA J E (by omega) (by omega) kk⟩
        · by_cases c28_30 : z ≤ 29
          · by_cases c28_29 : z ≤ 28
            · have e9 : z = 28 := by omega
              subst e9
              exact ⟨1167, rfl, y_k28 hG hi hL hA J E (by omega) (by omega) kk⟩
            · have e9 : z = 29 := by omega
              subst e9
              exact ⟨1231, rfl, y_k29 hG hi hL hA J E (by omega) (by omega) kk⟩
          · have e9 : z = 30 := by omega
            subst e9
            exact ⟨1259, rfl, y_k30 hG hi hL hA J E (by omega) (by omega) kk⟩
  · by_cases c31_61 : z ≤ 46
    · by_cases c31_46 : z ≤ 38
      · by_cases c31_38 : z ≤ 34
        · by_cases c31_34 : z ≤ 32
          · by_cases c31_32 : z ≤ 31
            · have e9 : z = 31 := by omega
              subst e9
              exact ⟨1299, rfl, y_k31 hG hi hL hA J E (by omega) (by omega) kk⟩
            · have e9 : z = 32 := by omega
              subst e9
              exact ⟨1351, rfl, y_k32 hG hi hL hA J E (by omega) (by omega) kk⟩
          · by_cases c33_34 : z ≤ 33
            · have e9 : z = 33 := by omega
              subst e9
              exact ⟨1407, rfl, y_k33 hG hi hL hA J E (by omega) (by omega) kk⟩
            · have e9 : z = 34 := by omega
              subst e9
              exact ⟨1435, rfl, y_k34 hG hi hL hA J E (by omega) (by omega) kk⟩
        · by_cases c35_38 : z ≤ 36
          · by_cases c35_36 : z ≤ 35
            · have e9 : z = 35 := by omega
              subst e9
              exact ⟨1448, rfl, y_k35 hG hi hL hA J E (by omega) (by omega) kk⟩
            · have e9 : z = 36 := by omega
              subst e9
              exact ⟨1504, rfl, y_k36 hG hi hL hA J E (by omega) (by omega) kk⟩
          · by_cases c37_38 : z ≤ 37
            · have e9 : z = 37 := by omega
              subst e9
              exact ⟨1553, rfl, y_k37 hG hi hL hA J E (by omega) (by omega) kk⟩
            · have e9 : z = 38 := by omega
              subst e9
              exact ⟨1581, rfl, y_k38 hG hi hL hA J E (by omega) (by omega) kk⟩
      · by_cases c39_46 : z ≤ 42
        · by_cases c39_42 : z ≤ 40
          · by_cases c39_40 : z ≤ 39
            · have e9 : z = 39 := by omega
              subst e9
              exact ⟨1609, rfl, y_k39 hG hi hL hA J E (by omega) (by omega) kk⟩
            · have e9 : z = 40 := by omega
              subst e9
              exact ⟨1649, rfl, y_k40 hG hi hL hA J E (by omega) (by omega) kk⟩
          · by_cases c41_42 : z ≤ 41
            · have e9 : z = 41 := by omega
              subst e9
              exact ⟨1677, rfl, y_k41 hG hi hL hA J E (by omega) (by omega) kk⟩
            · have e9 : z = 42 := by omega
              subst e9
              exact ⟨1706, rfl, y_k42 hG hi hL hA J E (by omega) (by omega) kk⟩
        · by_cases c43_46 : z ≤ 44
          · by_cases c43_44 : z ≤ 43
            · have e9 : z = 43 := by omega
              subst e9
              exact ⟨1721, rfl, y_k43 hG hi hL hA J E (by omega) (by omega) kk⟩
            · have e9 : z = 44 := by omega
              subst e9
              exact ⟨1750, rfl, y_k44 hG hi hL hA J E (by omega) (by omega) kk⟩
          · by_cases c45_46 : z ≤ 45
            · have e9 : z = 45 := by omega
              subst e9
              exact ⟨1778, rfl, y_k45 hG hi hL hA J E (by omega) (by omega) kk⟩
            · have e9 : z = 46 := by omega
              subst e9
              exact ⟨1806, rfl, y_k46 hG hi hL hA J E (by omega) (by omega) kk⟩
    · by_cases c47_61 : z ≤ 54
      · by_cases c47_54 : z ≤ 50
        · by_cases c47_50 : z ≤ 48
          · by_cases c47_48 : z ≤ 47
            · have e9 : z = 47 := by omega
              subst e9
              exact ⟨1819, rfl, y_k47 hG hi hL hA J E (by omega) (by omega) kk⟩
            · have e9 : z = 48 := by omega
              subst e9
              exact ⟨1871, rfl, y_k48 hG hi hL hA J E (by omega) (by omega) kk⟩
          · by_cases c49_50 : z ≤ 49
            · have e9 : z = 49 := by omega
              subst e9
              exact ⟨1884, rfl, y_k49 hG hi hL hA J E (by omega) (by omega) kk⟩
            · have e9 : z = 50 := by omega
              subst e9
              exact ⟨1912, rfl, y_k50 hG hi hL hA J E (by omega) (by omega) kk⟩
        · by_cases c51_54 : z ≤ 52
          · by_cases c51_52 : z ≤ 51
            · have e9 : z = 51 := by omega
              subst e9
              exact ⟨1940, rfl, y_k51 hG hi hL hA J E (by omega) (by omega) kk⟩
            · have e9 : z = 52 := by omega
              subst e9
              exact ⟨1953, rfl, y_k52 hG hi hL hA J E (by omega) (by omega) kk⟩
          · by_cases c53_54 : z ≤ 53
            · have e9 : z = 53 := by omega
              subst e9
              exact ⟨1969, rfl, y_k53 hG hi hL hA J E (by omega) (by omega) kk⟩
            · have e9 : z = 54 := by omega
              subst e9
              exact ⟨2025, rfl, y_k54 hG hi hL hA J E (by omega) (by omega) kk⟩
      · by_cases c55_61 : z ≤ 58
        · by_cases c55_58 : z ≤ 56
          · by_cases c55_56 : z ≤ 55
            · have e9 : z = 55 := by omega
              subst e9
              exact ⟨2065, rfl, y_k55 hG hi hL hA J E (by omega) (by omega) kk⟩
            · have e9 : z = 56 := by omega
              subst e9
              exact ⟨2080, rfl, y_k56 hG hi hL hA J E (by omega) (by omega) kk⟩
          · by_cases c57_58 : z ≤ 57
            · have e9 : z = 57 := by omega
              subst e9
              exact ⟨2109, rfl, y_k57 hG hi hL hA J E (by omega) (by omega) kk⟩
            · have e9 : z = 58 := by omega
              subst e9
              exact ⟨2122, rfl, y_k58 hG hi hL hA J E (by omega) (by omega) kk⟩
        · by_cases c59_61 : z ≤ 60
          · by_cases c59_60 : z ≤ 59
            · have e9 : z = 59 := by omega
              subst e9
              exact ⟨2147, rfl, y_k59 hG hi hL hA J E (by omega) (by omega) kk⟩
            · have e9 : z = 60 := by omega
              subst e9
              exact ⟨2160, rfl, y_k60 hG hi hL hA J E (by omega) (by omega) kk⟩
          · have e9 : z = 61 := by omega
            subst e9
            exact ⟨2173, rfl, y_k61 hG hi hL hA J E (by omega) (by omega) kk⟩
end -- [99e.switch]
