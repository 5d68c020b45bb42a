/-! Part 99cb: cases of the law. Printed by wip/tools/genlaw.py. -/
theorem y_k8 {Γ : q_Γ} (hG : q_GG Γ) {i : Nat} (hi : i + 6 ≤ Γ.2.2.2.1) (hL : Γ.2.2.2.1 ≤ 3072) {h : q_F} (hA : q_Al 0 155 h) (J : t_J h) (E : h 1 1 = h 139 14) {cl sl : Nat} (hc : cl ≤ 3900) (hs : sl ≤ 39000) (k : y_K Γ i cl sl) : q_R Γ q_K 155 368 y_P (541, y_lo i, [], q_hp q_K 155 h, [], cl, sl) := by
  obtain ⟨S, J⟩ := J
  refine r_aload_n c368_541 rfl rfl ?_
  refine y_arg c368_542 c368_543 c368_545 c368_546 c368_547 rfl rfl rfl hi hL (by decide) ?_
  refine r_aload_n c368_548 rfl rfl ?_
  obtain ⟨v1, g1, e1, J1⟩ := t_L8 (v1 := (Γ.1 (i + 1))) hA J
  refine y_cs (a := 2) (b := 12) c368_549 rfl rfl (by omega) (by omega) rfl rfl (wn8 hG (hG.1 (i + 1)) hA e1) ?_
  intro i1 A1
  refine r_istore c368_552 (lo' := [(6, (0, v1)), (5, (0, (i : Int))), (0, (9, 0)), (1, (2, Int.ofNat 0)), (2, (2, Int.ofNat 139)), (3, (2, Int.ofNat 153)), (4, (2, Int.ofNat 154))]) rfl rfl rfl ?_
  refine r_aload_n c368_554 rfl rfl ?_
  refine y_arg c368_555 c368_556 c368_558 c368_559 c368_560 rfl rfl rfl hi hL (by decide) ?_
  obtain ⟨v2, g2, e2, J2⟩ := t_r_errorC (a := (Γ.1 (i + 1))) A1 J1
  refine y_cv (a := 0) (b := 0) c368_561 (by decide) rfl rfl rfl rfl (by omega) (by omega) rfl rfl (wn254 hG (hG.1 (i + 1)) A1 e2) ?_
  intro i2 A2
  refine r_istore c368_564 (lo' := [(7, (0, v2)), (6, (0, v1)), (5, (0, (i : Int))), (0, (9, 0)), (1, (2, Int.ofNat 0)), (2, (2, Int.ofNat 139)), (3, (2, Int.ofNat 153)), (4, (2, Int.ofNat 154))]) rfl rfl rfl ?_
  refine r_goto c368_566 ?_
  refine q_R.wk (ks := [5, 0, 1, 2, 3, 4]) (lo' := y_lo i) rfl ?_
  exact k _ _ _ A2 ⟨⟨_, J2⟩, (j_T_J J2).2⟩ (by omega) (by omega)
theorem y_k9 {Γ : q_Γ} (hG : q_GG Γ) {i : Nat} (hi : i + 6 ≤ Γ.2.2.2.1) (hL : Γ.2.2.2.1 ≤ 3072) {h : q_F} (hA : q_Al 0 155 h) (J : t_J h) (E : h 1 1 = h 139 14) {cl sl : Nat} (hc : cl ≤ 3900) (hs : sl ≤ 39000) (k : y_K Γ i cl sl) : q_R Γ q_K 155 368 y_P (569, y_lo i, [], q_hp q_K 155 h, [], cl, sl) := by
  obtain ⟨S, J⟩ := J
  refine r_aload_n c368_569 rfl rfl ?_
  refine y_arg c368_570 c368_571 c368_573 c368_574 c368_575 rfl rfl rfl hi hL (by decide) ?_
  refine r_aload_n c368_576 rfl rfl ?_
  obtain ⟨v1, g1, e1, J1⟩ := t_L22 (v1 := (Γ.1 (i + 1))) hA J
  refine y_cs (a := 1) (b := 6) c368_577 rfl rfl (by omega) (by omega) rfl rfl (wn22 hG (hG.1 (i + 1)) hA e1) ?_
  intro i1 A1
  refine r_istore c368_580 (lo' := [(6, (0, v1)), (5, (0, (i : Int))), (0, (9, 0)), (1, (2, Int.ofNat 0)), (2, (2, Int.ofNat 139)), (3, (2, Int.ofNat 153)), (4, (2, Int.ofNat 154))]) rfl rfl rfl ?_
  refine r_aload_n c368_582 rfl rfl ?_
  refine y_arg c368_583 c368_584 c368_586 c368_587 c368_588 rfl rfl rfl hi hL (by decide) ?_
  obtain ⟨v2, g2, e2, J2⟩ := t_r_readsC (a := (Γ.1 (i + 1))) A1 J1
  refine y_cv (a := 0) (b := 0) c368_589 (by decide) rfl rfl rfl rfl (by omega) (by omega) rfl rfl (wn319 hG (hG.1 (i + 1)) A1 e2) ?_
  intro i2 A2
  refine r_istore c368_592 (lo' := [(7, (0, v2)), (6, (0, v1)), (5, (0, (i : Int))), (0, (9, 0)), (1, (2, Int.ofNat 0)), (2, (2, Int.ofNat 139)), (3, (2, Int.ofNat 153)), (4, (2, Int.ofNat 154))]) rfl rfl rfl ?_
  refine r_goto c368_594 ?_
  refine q_R.wk (ks := [5, 0, 1, 2, 3, 4]) (lo' := y_lo i) rfl ?_
  exact k _ _ _ A2 ⟨⟨_, J2⟩, (j_T_J J2).2⟩ (by omega) (by omega)
theorem y_k10 {Γ : q_Γ} (hG : q_GG Γ) {i : Nat} (hi : i + 6 ≤ Γ.2.2.2.1) (hL : Γ.2.2.2.1 ≤ 3072) {h : q_F} (hA : q_Al 0 155 h) (J : t_J h) (E : h 1 1 = h 139 14) {cl sl : Nat} (hc : cl ≤ 3900) (hs : sl ≤ 39000) (k : y_K Γ i cl sl) : q_R Γ q_K 155 368 y_P (597, y_lo i, [], q_hp q_K 155 h, [], cl, sl) := by
  obtain ⟨S, J⟩ := J
  refine r_aload_n c368_597 rfl rfl ?_
  obtain ⟨v1, e1⟩ := c_time h
  refine y_cp (a := 0) (b := 0) c368_598 (by decide) rfl rfl rfl rfl (by omega) (by omega) rfl rfl (wn223 hG  hA e1) ?_
  intro i1
  refine r_pop2 c368_601 rfl rfl ?_
  refine r_aload_n c368_602 rfl rfl ?_
  obtain ⟨v2, g2, e2, J2⟩ := t_r_time  hA J
  refine y_cv (a := 0) (b := 0) c368_603 (by decide) rfl rfl rfl rfl (by omega) (by omega) rfl rfl (wn352 hG  hA e2) ?_
  intro i2 A2
  refine r_pop2 c368_606 rfl rfl ?_
  refine r_goto c368_607 ?_
  refine q_R.wk (ks := [5, 0, 1, 2, 3, 4]) (lo' := y_lo i) rfl ?_
  exact k _ _ _ A2 ⟨⟨_, J2⟩, (j_T_J J2).2⟩ (by omega) (by omega)
theorem y_k11 {Γ : q_Γ} (hG : q_GG Γ) {i : Nat} (hi : i + 6 ≤ Γ.2.2.2.1) (hL : Γ.2.2.2.1 ≤ 3072) {h : q_F} (hA : q_Al 0 155 h) (J : t_J h) (E : h 1 1 = h 139 14) {cl sl : Nat} (hc : cl ≤ 3900) (hs : sl ≤ 39000) (k : y_K Γ i cl sl) : q_R Γ q_K 155 368 y_P (610, y_lo i, [], q_hp q_K 155 h, [], cl, sl) := by
  obtain ⟨S, J⟩ := J
  refine r_aload_n c368_610 rfl rfl ?_
  refine y_arg c368_611 c368_612 c368_614 c368_615 c368_616 rfl rfl rfl hi hL (by decide) ?_
  refine r_aload_n c368_617 rfl rfl ?_
  obtain ⟨v1, g1, e1, J1⟩ := t_L9 (v1 := (Γ.1 (i + 1))) hA J
  refine y_cs (a := 3) (b := 18) c368_618 rfl rfl (by omega) (by omega) rfl rfl (wn9 hG (hG.1 (i + 1)) hA e1) ?_
  intro i1 A1
  refine r_istore c368_621 (lo' := [(6, (0, v1)), (5, (0, (i : Int))), (0, (9, 0)), (1, (2, Int.ofNat 0)), (2, (2, Int.ofNat 139)), (3, (2, Int.ofNat 153)), (4, (2, Int.ofNat 154))]) rfl rfl rfl ?_
  refine r_aload_n c368_623 rfl rfl ?_
  refine y_arg c368_624 c368_625 c368_627 c368_628 c368_629 rfl rfl rfl hi hL (by decide) ?_
  obtain ⟨v2, g2, e2, J2⟩ := t_r_homeC (a := (Γ.1 (i + 1))) A1 J1
  refine y_cv (a := 0) (b := 0) c368_630 (by decide) rfl rfl rfl rfl (by omega) (by omega) rfl rfl (wn263 hG (hG.1 (i + 1)) A1 e2) ?_
  intro i2 A2
  refine r_istore c368_633 (lo' := [(7, (0, v2)), (6, (0, v1)), (5, (0, (i : Int))), (0, (9, 0)), (1, (2, Int.ofNat 0)), (2, (2, Int.ofNat 139)), (3, (2, Int.ofNat 153)), (4, (2, Int.ofNat 154))]) rfl rfl rfl ?_
  refine r_goto c368_635 ?_
  refine q_R.wk (ks := [5, 0, 1, 2, 3, 4]) (lo' := y_lo i) rfl ?_
  exact k _ _ _ A2 ⟨⟨_, J2⟩, (j_T_J J2).2⟩ (by omega) (by omega)
theorem y_k12 {Γ : q_Γ} (hG : q_GG Γ) {i : Nat} (hi : i + 6 ≤ Γ.2.2.2.1) (hL : Γ.2.2.2.1 ≤ 3072) {h : q_F} (hA : q_Al 0 155 h) (J : t_J h) (E : h 1 1 = h 139 14) {cl sl : Nat} (hc : cl ≤ 3900) (hs : sl ≤ 39000) (k : y_K Γ i cl sl) : q_R Γ q_K 155 368 y_P (638, y_lo i, [], q_hp q_K 155 h, [], cl, sl) := by
  obtain ⟨S, J⟩ := J
  refine r_aload_n c368_638 rfl rfl ?_
  refine y_arg c368_639 c368_640 c368_642 c368_643 c368_644 rfl rfl rfl hi hL (by decide) ?_
  refine y_arg c368_645 c368_646 c368_648 c368_649 c368_650 rfl rfl rfl hi hL (by decide) ?_
  refine r_aload_n c368_651 rfl rfl ?_
  obtain ⟨v1, g1, e1, J1⟩ := t_L12 (v1 := (Γ.1 (i + 1))) (v2 := (Γ.1 (i + 2))) hA J
  refine y_cs (a := 3) (b := 18) c368_652 rfl rfl (by omega) (by omega) rfl rfl (wn12 hG (hG.1 (i + 1)) (hG.1 (i + 2)) hA e1) ?_
  intro i1 A1
  refine r_istore c368_655 (lo' := [(6, (0, v1)), (5, (0, (i : Int))), (0, (9, 0)), (1, (2, Int.ofNat 0)), (2, (2, Int.ofNat 139)), (3, (2, Int.ofNat 153)), (4, (2, Int.ofNat 154))]) rfl rfl rfl ?_
  refine r_aload_n c368_657 rfl rfl ?_
  refine y_arg c368_658 c368_659 c368_661 c368_662 c368_663 rfl rfl rfl hi hL (by decide) ?_
  refine y_arg c368_664 c368_665 c368_667 c368_668 c368_669 rfl rfl rfl hi hL (by decide) ?_
  obtain ⟨v2, g2, e2, J2⟩ := t_r_jogC (a := (Γ.1 (i + 1))) (v := (Γ.1 (i + 2))) A1 J1
  refine y_cv (a := 0) (b := 0) c368_670 (by decide) rfl rfl rfl rfl (by omega) (by omega) rfl rfl (wn274 hG (hG.1 (i + 1)) (hG.1 (i + 2)) A1 e2) ?_
  intro i2 A2
  refine r_istore c368_673 (lo' := [(7, (0, v2)), (6, (0, v1)), (5, (0, (i : Int))), (0, (9, 0)), (1, (2, Int.ofNat 0)), (2, (2, Int.ofNat 139)), (3, (2, Int.ofNat 153)), (4, (2, Int.ofNat 154))]) rfl rfl rfl ?_
  refine r_goto c368_675 ?_
  refine q_R.wk (ks := [5, 0, 1, 2, 3, 4]) (lo' := y_lo i) rfl ?_
  exact k _ _ _ A2 ⟨⟨_, J2⟩, (j_T_J J2).2⟩ (by omega) (by omega)
theorem y_k13 {Γ : q_Γ} (hG : q_GG Γ) {i : Nat} (hi : i + 6 ≤ Γ.2.2.2.1) (hL : Γ.2.2.2.1 ≤ 3072) {h : q_F} (hA : q_Al 0 155 h) (J : t_J h) (E : h 1 1 = h 139 14) {cl sl : Nat} (hc : cl ≤ 3900) (hs : sl ≤ 39000) (k : y_K Γ i cl sl) : q_R Γ q_K 155 368 y_P (678, y_lo i, [], q_hp q_K 155 h, [], cl, sl) := by
  obtain ⟨S, J⟩ := J
  refine r_aload_n c368_678 rfl rfl ?_
  refine y_arg c368_679 c368_680 c368_682 c368_683 c368_684 rfl rfl rfl hi hL (by decide) ?_
  refine y_arg c368_685 c368_686 c368_688 c368_689 c368_690 rfl rfl rfl hi hL (by decide) ?_
  refine y_arg c368_691 c368_692 c368_694 c368_695 c368_696 rfl rfl rfl hi hL (by decide) ?_
  refine r_aload_n c368_697 rfl rfl ?_
  obtain ⟨v1, g1, e1, J1⟩ := t_L20 (v1 := (Γ.1 (i + 1))) (v2 := (Γ.1 (i + 2))) (v3 := (Γ.1 (i + 3))) hA J
  refine y_cs (a := 5) (b := 30) c368_698 rfl rfl (by omega) (by omega) rfl rfl (wn20 hG (hG.1 (i + 1)) (hG.1 (i + 2)) (hG.1 (i + 3)) hA e1) ?_
  intro i1 A1
  refine r_istore c368_701 (lo' := [(6, (0, v1)), (5, (0, (i : Int))), (0, (9, 0)), (1, (2, Int.ofNat 0)), (2, (2, Int.ofNat 139)), (3, (2, Int.ofNat 153)), (4, (2, Int.ofNat 154))]) rfl rfl rfl ?_
  refine r_aload_n c368_703 rfl rfl ?_
  refine y_arg c368_704 c368_705 c368_707 c368_708 c368_709 rfl rfl rfl hi hL (by decide) ?_
  refine y_arg c368_710 c368_711 c368_713 c368_714 c368_715 rfl rfl rfl hi hL (by decide) ?_
  refine y_arg c368_716 c368_717 c368_719 c368_720 c368_721 rfl rfl rfl hi hL (by decide) ?_
  obtain ⟨v2, g2, e2, J2⟩ := t_r_queueC (x := (Γ.1 (i + 1))) (y := (Γ.1 (i + 2))) (z := (Γ.1 (i + 3))) A1 J1
  refine y_cv (a := 0) (b := 0) c368_722 (by decide) rfl rfl rfl rfl (by omega) (by omega) rfl rfl (wn309 hG (hG.1 (i + 1)) (hG.1 (i + 2)) (hG.1 (i + 3)) A1 e2) ?_
  intro i2 A2
  refine r_istore c368_725 (lo' := [(7, (0, v2)), (6, (0, v1)), (5, (0, (i : Int))), (0, (9, 0)), (1, (2, Int.ofNat 0)), (2, (2, Int.ofNat 139)), (3, (2, Int.ofNat 153)), (4, (2, Int.ofNat 154))]) rfl rfl rfl ?_
  refine r_goto c368_727 ?_
  refine q_R.wk (ks := [5, 0, 1, 2, 3, 4]) (lo' := y_lo i) rfl ?_
  exact k _ _ _ A2 ⟨⟨_, J2⟩, (j_T_J J2).2⟩ (by omega) (by omega)
theorem y_k14 {Γ : q_Γ} (hG : q_GG Γ) {i : Nat} (hi : i + 6 ≤ Γ.2.2.2.1) (hL : Γ.2.2.2.1 ≤ 3072) {h : q_F} (hA : q_Al 0 155 h) (J : t_J h) (E : h 1 1 = h 139 14) {cl sl : Nat} (hc : cl ≤ 3900) (hs : sl ≤ 39000) (k : y_K Γ i cl sl) : q_R Γ q_K 155 368 y_P (730, y_lo i, [], q_hp q_K 155 h, [], cl, sl) := by
  obtain ⟨S, J⟩ := J
  refine r_aload_n c368_730 rfl rfl ?_
  refine r_aload_n c368_731 rfl rfl ?_
  obtain ⟨v1, g1, e1, J1⟩ := t_L37  hA J
  refine y_cs (a := 1) (b := 6) c368_732 rfl rfl (by omega) (by omega) rfl rfl (wn37 hG  hA e1) ?_
  intro i1 A1
  refine r_istore c368_735 (lo' := [(6, (0, v1)), (5, (0, (i : Int))), (0, (9, 0)), (1, (2, Int.ofNat 0)), (2, (2, Int.ofNat 139)), (3, (2, Int.ofNat 153)), (4, (2, Int.ofNat 154))]) rfl rfl rfl ?_
  refine r_aload_n c368_737 rfl rfl ?_
  obtain ⟨v2, g2, e2, J2⟩ := t_r_unqueue  A1 J1
  refine y_cv (a := 0) (b := 0) c368_738 (by decide) rfl rfl rfl rfl (by omega) (by omega) rfl rfl (wn361 hG  A1 e2) ?_
  intro i2 A2
  refine r_istore c368_741 (lo' := [(7, (0, v2)), (6, (0, v1)), (5, (0, (i : Int))), (0, (9, 0)), (1, (2, Int.ofNat 0)), (2, (2, Int.ofNat 139)), (3, (2, Int.ofNat 153)), (4, (2, Int.ofNat 154))]) rfl rfl rfl ?_
  refine r_goto c368_743 ?_
  refine q_R.wk (ks := [5, 0, 1, 2, 3, 4]) (lo' := y_lo i) rfl ?_
  exact k _ _ _ A2 ⟨⟨_, J2⟩, (j_T_J J2).2⟩ (by omega) (by omega)
theorem y_k15 {Γ : q_Γ} (hG : q_GG Γ) {i : Nat} (hi : i + 6 ≤ Γ.2.2.2.1) (hL : Γ.2.2.2.1 ≤ 3072) {h : q_F} (hA : q_Al 0 155 h) (J : t_J h) (E : h 1 1 = h 139 14) {cl sl : Nat} (hc : cl ≤ 3900) (hs : sl ≤ 39000) (k : y_K Γ i cl sl) : q_R Γ q_K 155 368 y_P (746, y_lo i, [], q_hp q_K 155 h, [], cl, sl) := by
  obtain ⟨S, J⟩ := J
  refine r_aload_n c368_746 rfl rfl ?_
  refine y_arg c368_747 c368_748 c368_750 c368_751 c368_752 rfl rfl rfl hi hL (by decide) ?_
  refine r_aload_n c368_753 rfl rfl ?_
  obtain ⟨v1, g1, e1, J1⟩ := t_L24 (v1 := (Γ.1 (i + 1))) hA J
  refine y_cs (a := 1) (b := 6) c368_754 rfl rfl (by omega) (by omega) rfl rfl (wn24 hG (hG.1 (i + 1)) hA e1) ?_
  intro i1 A1
  refine r_istore c368_757 (lo' := [(6, (0, v1)), (5, (0, (i : Int))), (0, (9, 0)), (1, (2, Int.ofNat 0)), (2, (2, Int.ofNat 139)), (3, (2, Int.ofNat 153)), (4, (2, Int.ofNat 154))]) rfl rfl rfl ?_
  refine r_aload_n c368_759 rfl rfl ?_
  refine y_arg c368_760 c368_761 c368_763 c368_764 c368_765 rfl rfl rfl hi hL (by decide) ?_
  obtain ⟨v2, g2, e2, J2⟩ := t_r_runC (n := (Γ.1 (i + 1))) A1 J1
  refine y_cv (a := 0) (b := 0) c368_766 (by decide) rfl rfl rfl rfl (by omega) (by omega) rfl rfl (wn324 hG (hG.1 (i + 1)) A1 e2) ?_
  intro i2 A2
  refine r_istore c368_769 (lo' := [(7, (0, v2)), (6, (0, v1)), (5, (0, (i : Int))), (0, (9, 0)), (1, (2, Int.ofNat 0)), (2, (2, Int.ofNat 139)), (3, (2, Int.ofNat 153)), (4, (2, Int.ofNat 154))]) rfl rfl rfl ?_
  refine r_goto c368_771 ?_
  refine q_R.wk (ks := [5, 0, 1, 2, 3, 4]) (lo' := y_lo i) rfl ?_
  exact k _ _ _ A2 ⟨⟨_, J2⟩, (j_T_J J2).2⟩ (by omega) (by omega)
