/-! Part 43a.lfun: the law's own helpers as functions of the heap, and that their runs end as these say. Printed by wip/tools/genf.py. -/
theorem c0_0 : q_cat 0 0 (.aload_n 3) 1 3 0 (0) := ⟨rfl, rfl⟩
theorem c0_1 : q_cat 0 1 (.iconst 0) 1 0 0 (0) := ⟨rfl, rfl⟩
theorem c0_2 : q_cat 0 2 (.aload_n 0) 1 0 0 (0) := ⟨rfl, rfl⟩
theorem c0_3 : q_cat 0 3 (.iload_n 1) 1 1 0 (0) := ⟨rfl, rfl⟩
theorem c0_4 : q_cat 0 4 (.iload_n 2) 1 2 0 (0) := ⟨rfl, rfl⟩
theorem c0_5 : q_cat 0 5 (.invokevirtual 142) 3 155 0 (0) := ⟨rfl, rfl⟩
theorem c0_8 : q_cat 0 8 (.i2l) 1 0 0 (0) := ⟨rfl, rfl⟩
theorem c0_9 : q_cat 0 9 (.lastore) 1 0 0 (0) := ⟨rfl, rfl⟩
theorem c0_10 : q_cat 0 10 (.goto 11) 3 21 0 (0) := ⟨rfl, rfl⟩
theorem c0_13 : q_cat 0 13 (.astore 4) 2 4 0 (0) := ⟨rfl, rfl⟩
theorem c0_15 : q_cat 0 15 (.iconst 1) 1 0 0 (0) := ⟨rfl, rfl⟩
theorem c0_16 : q_cat 0 16 (.ireturn) 1 0 0 (0) := ⟨rfl, rfl⟩
theorem c0_17 : q_cat 0 17 (.astore 4) 2 4 0 (0) := ⟨rfl, rfl⟩
theorem c0_19 : q_cat 0 19 (.iconst 2) 1 0 0 (0) := ⟨rfl, rfl⟩
theorem c0_20 : q_cat 0 20 (.ireturn) 1 0 0 (0) := ⟨rfl, rfl⟩
theorem c0_21 : q_cat 0 21 (.iconst 0) 1 0 0 (0) := ⟨rfl, rfl⟩
theorem c0_22 : q_cat 0 22 (.ireturn) 1 0 0 (0) := ⟨rfl, rfl⟩
noncomputable def fn0 (v1 : Int) (v2 : Int) (h : q_F) : Option (Int × q_F) :=
  (fn155 v1 v2 h).bind fun x1 =>
  if x1.1 = 1 then (
    q_let (q_ud x1.2.2 153 0 x1.2.1) fun g2 =>
    some ((0 : Int), g2))
  else if x1.1 = 2 then (
      some ((2 : Int), x1.2.2))
  else if x1.1 = 3 then (
        some ((1 : Int), x1.2.2))
  else none
theorem wn0 {Γ : q_Γ} (hG : q_GG Γ) {v1 : Int} {v2 : Int} (hr1 : q_r32 v1) (hr2 : q_r32 v2) {h : q_F} (hA : q_Al 0 155 h) {r : Int × q_F} (hf : fn0 v1 v2 h = some r) :
    q_M Γ q_K 155 0 [(2, Int.ofNat 0), (0, v1), (0, v2), (2, Int.ofNat 153)] h (q_PW 0 155 0 0 r) := by
  unfold fn0 at hf
  refine q_M.of (by decide) (Nat.le_of_ble_eq_true rfl) hG ?_
  refine r_aload_n c0_0 rfl rfl ?_
  refine r_iconst c0_1 rfl ?_
  refine r_aload_n c0_2 rfl rfl ?_
  refine r_iload_n c0_3 rfl rfl ?_
  refine r_iload_n c0_4 rfl rfl ?_
  obtain ⟨x1, e1, hf⟩ := q_bd_i hf
  refine r_vcG c0_5 (by decide) (by decide) rfl rfl rfl rfl (wn155 hG hr1 hr2 hA e1) ?_
  intro t1 w1 k1 p1
  obtain ⟨rfl, hw1, rfl, hA_x1⟩ := p1
  rcases qx_sp hf with ⟨c1, hf⟩ | ⟨c1, hf⟩
  · obtain ⟨rfl, hv1⟩ := hw1 c1
    refine Or.inr (Or.inl ⟨c1, ?_⟩)
    refine r_i2l c0_8 (q_w32_r hv1) rfl ?_
    refine x_last hA_x1 c0_9 (by decide) rfl (by decide) ⟨by decide, by decide⟩ (by decide) (by decide) (show Int.toNat (0 : Int) = 0 from rfl) (q_r34 hv1) rfl ?_
    intro g2 e_g2 hA_g2
    replace hf := q_let_i hf e_g2
    refine r_goto c0_10 ?_
    refine r_iconst c0_21 rfl ?_
    cases q_so hf
    exact r_iret c0_22 ⟨rfl, rfl, rfl⟩ ⟨rfl, rfl, rfl, (⟨by decide, by decide⟩ : q_r32 (0 : Int)), hA_g2⟩
  · rcases qx_sp hf with ⟨c1e0, hf⟩ | ⟨c1e0, hf⟩
    · refine Or.inr (Or.inr ⟨0, c1e0, ?_⟩)
      refine Or.inl ⟨17, rfl, ?_⟩
      refine r_astore10 c0_17 (lo' := [(4, _), (0, _), (1, _), (2, _), (3, _)]) rfl rfl rfl ?_
      refine r_iconst c0_19 rfl ?_
      cases q_so hf
      exact r_iret c0_20 ⟨rfl, rfl, rfl⟩ ⟨rfl, rfl, rfl, (⟨by decide, by decide⟩ : q_r32 (2 : Int)), hA_x1⟩
    · rcases qx_sp hf with ⟨c1e1, hf⟩ | ⟨c1e1, hf⟩
      · refine Or.inr (Or.inr ⟨1, c1e1, ?_⟩)
        refine Or.inl ⟨13, rfl, ?_⟩
        refine r_astore10 c0_13 (lo' := [(4, _), (0, _), (1, _), (2, _), (3, _)]) rfl rfl rfl ?_
        refine r_iconst c0_15 rfl ?_
        cases q_so hf
        exact r_iret c0_16 ⟨rfl, rfl, rfl⟩ ⟨rfl, rfl, rfl, (⟨by decide, by decide⟩ : q_r32 (1 : Int)), hA_x1⟩
      · cases hf
theorem c1_0 : q_cat 1 0 (.aload_n 3) 1 3 0 (0) := ⟨rfl, rfl⟩
theorem c1_1 : q_cat 1 1 (.iconst 0) 1 0 0 (0) := ⟨rfl, rfl⟩
theorem c1_2 : q_cat 1 2 (.aload_n 0) 1 0 0 (0) := ⟨rfl, rfl⟩
theorem c1_3 : q_cat 1 3 (.iload_n 1) 1 1 0 (0) := ⟨rfl, rfl⟩
theorem c1_4 : q_cat 1 4 (.iload_n 2) 1 2 0 (0) := ⟨rfl, rfl⟩
theorem c1_5 : q_cat 1 5 (.invokevirtual 15) 3 157 0 (0) := ⟨rfl, rfl⟩
theorem c1_8 : q_cat 1 8 (.i2l) 1 0 0 (0) := ⟨rfl, rfl⟩
theorem c1_9 : q_cat 1 9 (.lastore) 1 0 0 (0) := ⟨rfl, rfl⟩
theorem c1_10 : q_cat 1 10 (.goto 11) 3 21 0 (0) := ⟨rfl, rfl⟩
theorem c1_13 : q_cat 1 13 (.astore 4) 2 4 0 (0) := ⟨rfl, rfl⟩
theorem c1_15 : q_cat 1 15 (.iconst 1) 1 0 0 (0) := ⟨rfl, rfl⟩
theorem c1_16 : q_cat 1 16 (.ireturn) 1 0 0 (0) := ⟨rfl, rfl⟩
theorem c1_17 : q_cat 1 17 (.astore 4) 2 4 0 (0) := ⟨rfl, rfl⟩
theorem c1_19 : q_cat 1 19 (.iconst 2) 1 0 0 (0) := ⟨rfl, rfl⟩
theorem c1_20 : q_cat 1 20 (.ireturn) 1 0 0 (0) := ⟨rfl, rfl⟩
theorem c1_21 : q_cat 1 21 (.iconst 0) 1 0 0 (0) := ⟨rfl, rfl⟩
theorem c1_22 : q_cat 1 22 (.ireturn) 1 0 0 (0) := ⟨rfl, rfl⟩
noncomputable def fn1 (v1 : Int) (v2 : Int) (h : q_F) : Option (Int × q_F) :=
  (fn157 v1 v2 h).bind fun x1 =>
  if x1.1 = 1 then (
    q_let (q_ud x1.2.2 153 0 x1.2.1) fun g2 =>
    some ((0 : Int), g2))
  else if x1.1 = 2 then (
      some ((2 : Int), x1.2.2))
  else if x1.1 = 3 then (
        some ((1 : Int), x1.2.2))
  else none
theorem wn1 {Γ : q_Γ} (hG : q_GG Γ) {v1 : Int} {v2 : Int} (hr1 : q_r32 v1) (hr2 : q_r32 v2) {h : q_F} (hA : q_Al 0 155 h) {r : Int × q_F} (hf : fn1 v1 v2 h = some r) :
    q_M Γ q_K 155 1 [(2, Int.ofNat 0), (0, v1), (0, v2), (2, Int.ofNat 153)] h (q_PW 0 155 0 0 r) := by
  unfold fn1 at hf
  refine q_M.of (by decide) (Nat.le_of_ble_eq_true rfl) hG ?_
  refine r_aload_n c1_0 rfl rfl ?_
  refine r_iconst c1_1 rfl ?_
  refine r_aload_n c1_2 rfl rfl ?_
  refine r_iload_n c1_3 rfl rfl ?_
  refine r_iload_n c1_4 rfl rfl ?_
  obtain ⟨x1, e1, hf⟩ := q_bd_i hf
  refine r_vcG c1_5 (by decide) (by decide) rfl rfl rfl rfl (wn157 hG hr1 hr2 hA e1) ?_
  intro t1 w1 k1 p1
  obtain ⟨rfl, hw1, rfl, hA_x1⟩ := p1
  rcases qx_sp hf with ⟨c1, hf⟩ | ⟨c1, hf⟩
  · obtain ⟨rfl, hv1⟩ := hw1 c1
    refine Or.inr (Or.inl ⟨c1, ?_⟩)
    refine r_i2l c1_8 (q_w32_r hv1) rfl ?_
    refine x_last hA_x1 c1_9 (by decide) rfl (by decide) ⟨by decide, by decide⟩ (by decide) (by decide) (show Int.toNat (0 : Int) = 0 from rfl) (q_r34 hv1) rfl ?_
    intro g2 e_g2 hA_g2
    replace hf := q_let_i hf e_g2
    refine r_goto c1_10 ?_
    refine r_iconst c1_21 rfl ?_
    cases q_so hf
    exact r_iret c1_22 ⟨rfl, rfl, rfl⟩ ⟨rfl, rfl, rfl, (⟨by decide, by decide⟩ : q_r32 (0 : Int)), hA_g2⟩
  · rcases qx_sp hf with ⟨c1e0, hf⟩ | ⟨c1e0, hf⟩
    · refine Or.inr (Or.inr ⟨0, c1e0, ?_⟩)
      refine Or.inl ⟨17, rfl, ?_⟩
      refine r_astore10 c1_17 (lo' := [(4, _), (0, _), (1, _), (2, _), (3, _)]) rfl rfl rfl ?_
      refine r_iconst c1_19 rfl ?_
      cases q_so hf
      exact r_iret c1_20 ⟨rfl, rfl, rfl⟩ ⟨rfl, rfl, rfl, (⟨by decide, by decide⟩ : q_r32 (2 : Int)), hA_x1⟩
    · rcases qx_sp hf with ⟨c1e1, hf⟩ | ⟨c1e1, hf⟩
      · refine Or.inr (Or.inr ⟨1, c1e1, ?_⟩)
        refine Or.inl ⟨13, rfl, ?_⟩
        refine r_astore10 c1_13 (lo' := [(4, _), (0, _), (1, _), (2, _), (3, _)]) rfl rfl rfl ?_
        refine r_iconst c1_15 rfl ?_
        cases q_so hf
        exact r_iret c1_16 ⟨rfl, rfl, rfl⟩ ⟨rfl, rfl, rfl, (⟨by decide, by decide⟩ : q_r32 (1 : Int)), hA_x1⟩
      · cases hf
theorem c2_0 : q_cat 2 0 (.aload_n 1) 1 1 0 (0) := ⟨rfl, rfl⟩
theorem c2_1 : q_cat 2 1 (.iconst 0) 1 0 0 (0) := ⟨rfl, rfl⟩
theorem c2_2 : q_cat 2 2 (.aload_n 0) 1 0 0 (0) := ⟨rfl, rfl⟩
theorem c2_3 : q_cat 2 3 (.invokevirtual 136) 3 159 0 (0) := ⟨rfl, rfl⟩
theorem c2_6 : q_cat 2 6 (.i2l) 1 0 0 (0) := ⟨rfl, rfl⟩
theorem c2_7 : q_cat 2 7 (.lastore) 1 0 0 (0) := ⟨rfl, rfl⟩
theorem c2_8 : q_cat 2 8 (.goto 6) 3 14 0 (0) := ⟨rfl, rfl⟩
theorem c2_11 : q_cat 2 11 (.astore_n 2) 1 2 0 (0) := ⟨rfl, rfl⟩
theorem c2_12 : q_cat 2 12 (.iconst 1) 1 0 0 (0) := ⟨rfl, rfl⟩
theorem c2_13 : q_cat 2 13 (.ireturn) 1 0 0 (0) := ⟨rfl, rfl⟩
theorem c2_14 : q_cat 2 14 (.iconst 0) 1 0 0 (0) := ⟨rfl, rfl⟩
theorem c2_15 : q_cat 2 15 (.ireturn) 1 0 0 (0) := ⟨rfl, rfl⟩
noncomputable def fn2  (h : q_F) : Option (Int × q_F) :=
  (fn159 h).bind fun x1 =>
  if x1.1 = 1 then (
    q_let (q_ud x1.2.2 153 0 x1.2.1) fun g2 =>
    some ((0 : Int), g2))
  else if x1.1 = 5 then (
      some ((1 : Int), x1.2.2))
  else none
theorem wn2 {Γ : q_Γ} (hG : q_GG Γ)   {h : q_F} (hA : q_Al 0 155 h) {r : Int × q_F} (hf : fn2  h = some r) :
    q_M Γ q_K 155 2 [(2, Int.ofNat 0), (2, Int.ofNat 153)] h (q_PW 0 155 0 0 r) := by
  unfold fn2 at hf
  refine q_M.of (by decide) (Nat.le_of_ble_eq_true rfl) hG ?_
  refine r_aload_n c2_0 rfl rfl ?_
  refine r_iconst c2_1 rfl ?_
  refine r_aload_n c2_2 rfl rfl ?_
  obtain ⟨x1, e1, hf⟩ := q_bd_i hf
  refine r_vcG c2_3 (by decide) (by decide) rfl rfl rfl rfl (wn159 hG  hA e1) ?_
  intro t1 w1 k1 p1
  obtain ⟨rfl, hw1, rfl, hA_x1⟩ := p1
  rcases qx_sp hf with ⟨c1, hf⟩ | ⟨c1, hf⟩
  · obtain ⟨rfl, hv1⟩ := hw1 c1
    refine Or.inr (Or.inl ⟨c1, ?_⟩)
    refine r_i2l c2_6 (q_w32_r hv1) rfl ?_
    refine x_last hA_x1 c2_7 (by decide) rfl (by decide) ⟨by decide, by decide⟩ (by decide) (by decide) (show Int.toNat (0 : Int) = 0 from rfl) (q_r34 hv1) rfl ?_
    intro g2 e_g2 hA_g2
    replace hf := q_let_i hf e_g2
    refine r_goto c2_8 ?_
    refine r_iconst c2_14 rfl ?_
    cases q_so hf
    exact r_iret c2_15 ⟨rfl, rfl, rfl⟩ ⟨rfl, rfl, rfl, (⟨by decide, by decide⟩ : q_r32 (0 : Int)), hA_g2⟩
  · rcases qx_sp hf with ⟨c1e3, hf⟩ | ⟨c1e3, hf⟩
    · refine Or.inr (Or.inr ⟨3, c1e3, ?_⟩)
      refine Or.inl ⟨11, rfl, ?_⟩
      refine r_astore10_n c2_11 (lo' := [(2, _), (0, _), (1, _)]) rfl rfl rfl ?_
      refine r_iconst c2_12 rfl ?_
      cases q_so hf
      exact r_iret c2_13 ⟨rfl, rfl, rfl⟩ ⟨rfl, rfl, rfl, (⟨by decide, by decide⟩ : q_r32 (1 : Int)), hA_x1⟩
    · cases hf
theorem c3_0 : q_cat 3 0 (.aload_n 3) 1 3 0 (0) := ⟨rfl, rfl⟩
theorem c3_1 : q_cat 3 1 (.iconst 0) 1 0 0 (0) := ⟨rfl, rfl⟩
theorem c3_2 : q_cat 3 2 (.aload_n 0) 1 0 0 (0) := ⟨rfl, rfl⟩
theorem c3_3 : q_cat 3 3 (.iload_n 1) 1 1 0 (0) := ⟨rfl, rfl⟩
theorem c3_4 : q_cat 3 4 (.iload_n 2) 1 2 0 (0) := ⟨rfl, rfl⟩
theorem c3_5 : q_cat 3 5 (.invokevirtual 97) 3 160 0 (0) := ⟨rfl, rfl⟩
theorem c3_8 : q_cat 3 8 (.i2l) 1 0 0 (0) := ⟨rfl, rfl⟩
theorem c3_9 : q_cat 3 9 (.lastore) 1 0 0 (0) := ⟨rfl, rfl⟩
theorem c3_10 : q_cat 3 10 (.goto 11) 3 21 0 (0) := ⟨rfl, rfl⟩
theorem c3_13 : q_cat 3 13 (.astore 4) 2 4 0 (0) := ⟨rfl, rfl⟩
theorem c3_15 : q_cat 3 15 (.iconst 1) 1 0 0 (0) := ⟨rfl, rfl⟩
theorem c3_16 : q_cat 3 16 (.ireturn) 1 0 0 (0) := ⟨rfl, rfl⟩
theorem c3_17 : q_cat 3 17 (.astore 4) 2 4 0 (0) := ⟨rfl, rfl⟩
theorem c3_19 : q_cat 3 19 (.iconst 2) 1 0 0 (0) := ⟨rfl, rfl⟩
theorem c3_20 : q_cat 3 20 (.ireturn) 1 0 0 (0) := ⟨rfl, rfl⟩
theorem c3_21 : q_cat 3 21 (.iconst 0) 1 0 0 (0) := ⟨rfl, rfl⟩
theorem c3_22 : q_cat 3 22 (.ireturn) 1 0 0 (0) := ⟨rfl, rfl⟩
noncomputable def fn3 (v1 : Int) (v2 : Int) (h : q_F) : Option (Int × q_F) :=
  (fn160 v1 v2 h).bind fun x1 =>
  if x1.1 = 1 then (
    q_let (q_ud x1.2.2 153 0 x1.2.1) fun g2 =>
    some ((0 : Int), g2))
  else if x1.1 = 3 then (
      some ((1 : Int), x1.2.2))
  else if x1.1 = 4 then (
        some ((2 : Int), x1.2.2))
  else none
theorem wn3 {Γ : q_Γ} (hG : q_GG Γ) {v1 : Int} {v2 : Int} (hr1 : q_r32 v1) (hz2 : v2 = 0 ∨ v2 = 1) {h : q_F} (hA : q_Al 0 155 h) {r : Int × q_F} (hf : fn3 v1 v2 h = some r) :
    q_M Γ q_K 155 3 [(2, Int.ofNat 0), (0, v1), (0, v2), (2, Int.ofNat 153)] h (q_PW 0 155 0 0 r) := by
  unfold fn3 at hf
  refine q_M.of (by decide) (Nat.le_of_ble_eq_true rfl) hG ?_
  refine r_aload_n c3_0 rfl rfl ?_
  refine r_iconst c3_1 rfl ?_
  refine r_aload_n c3_2 rfl rfl ?_
  refine r_iload_n c3_3 rfl rfl ?_
  refine r_iload_n c3_4 rfl rfl ?_
  obtain ⟨x1, e1, hf⟩ := q_bd_i hf
  refine r_vcG c3_5 (by decide) (by decide) rfl rfl rfl rfl (wn160 hG hr1 hz2 hA e1) ?_
  intro t1 w1 k1 p1
  obtain ⟨rfl, hw1, rfl, hA_x1⟩ := p1
  rcases qx_sp hf with ⟨c1, hf⟩ | ⟨c1, hf⟩
  · obtain ⟨rfl, hv1⟩ := hw1 c1
    refine Or.inr (Or.inl ⟨c1, ?_⟩)
    refine r_i2l c3_8 (q_w32_r hv1) rfl ?_
    refine x_last hA_x1 c3_9 (by decide) rfl (by decide) ⟨by decide, by decide⟩ (by decide) (by decide) (show Int.toNat (0 : Int) = 0 from rfl) (q_r34 hv1) rfl ?_
    intro g2 e_g2 hA_g2
    replace hf := q_let_i hf e_g2
    refine r_goto c3_10 ?_
    refine r_iconst c3_21 rfl ?_
    cases q_so hf
    exact r_iret c3_22 ⟨rfl, rfl, rfl⟩ ⟨rfl, rfl, rfl, (⟨by decide, by decide⟩ : q_r32 (0 : Int)), hA_g2⟩
  · rcases qx_sp hf with ⟨c1e1, hf⟩ | ⟨c1e1, hf⟩
    · refine Or.inr (Or.inr ⟨1, c1e1, ?_⟩)
      refine Or.inl ⟨13, rfl, ?_⟩
      refine r_astore10 c3_13 (lo' := [(4, _), (0, _), (1, _), (2, _), (3, _)]) rfl rfl rfl ?_
      refine r_iconst c3_15 rfl ?_
      cases q_so hf
      exact r_iret c3_16 ⟨rfl, rfl, rfl⟩ ⟨rfl, rfl, rfl, (⟨by decide, by decide⟩ : q_r32 (1 : Int)), hA_x1⟩
    · rcases qx_sp hf with ⟨c1e2, hf⟩ | ⟨c1e2, hf⟩
      · refine Or.inr (Or.inr ⟨2, c1e2, ?_⟩)
        refine Or.inl ⟨17, rfl, ?_⟩
        refine r_astore10 c3_17 (lo' := [(4, _), (0, _), (1, _), (2, _), (3, _)]) rfl rfl rfl ?_
        refine r_iconst c3_19 rfl ?_
        cases q_so hf
        exact r_iret c3_20 ⟨rfl, rfl, rfl⟩ ⟨rfl, rfl, rfl, (⟨by decide, by decide⟩ : q_r32 (2 : Int)), hA_x1⟩
      · cases hf
theorem c4_0 : q_cat 4 0 (.aload_n 2) 1 2 0 (0) := ⟨rfl, rfl⟩
theorem c4_1 : q_cat 4 1 (.iconst 0) 1 0 0 (0) := ⟨rfl, rfl⟩
theorem c4_2 : q_cat 4 2 (.aload_n 0) 1 0 0 (0) := ⟨rfl, rfl⟩
theorem c4_3 : q_cat 4 3 (.iload_n 1) 1 1 0 (0) := ⟨rfl, rfl⟩
theorem c4_4 : q_cat 4 4 (.invokevirtual 21) 3 170 0 (0) := ⟨rfl, rfl⟩
theorem c4_7 : q_cat 4 7 (.i2l) 1 0 0 (0) := ⟨rfl, rfl⟩
theorem c4_8 : q_cat 4 8 (.lastore) 1 0 0 (0) := ⟨rfl, rfl⟩
theorem c4_9 : q_cat 4 9 (.goto 9) 3 18 0 (0) := ⟨rfl, rfl⟩
theorem c4_12 : q_cat 4 12 (.astore_n 3) 1 3 0 (0) := ⟨rfl, rfl⟩
theorem c4_13 : q_cat 4 13 (.iconst 1) 1 0 0 (0) := ⟨rfl, rfl⟩
theorem c4_14 : q_cat 4 14 (.ireturn) 1 0 0 (0) := ⟨rfl, rfl⟩
theorem c4_15 : q_cat 4 15 (.astore_n 3) 1 3 0 (0) := ⟨rfl, rfl⟩
theorem c4_16 : q_cat 4 16 (.iconst 2) 1 0 0 (0) := ⟨rfl, rfl⟩
theorem c4_17 : q_cat 4 17 (.ireturn) 1 0 0 (0) := ⟨rfl, rfl⟩
theorem c4_18 : q_cat 4 18 (.iconst 0) 1 0 0 (0) := ⟨rfl, rfl⟩
theorem c4_19 : q_cat 4 19 (.ireturn) 1 0 0 (0) := ⟨rfl, rfl⟩
noncomputable def fn4 (v1 : Int) (h : q_F) : Option (Int × q_F) :=
  (fn170 v1 h).bind fun x1 =>
  if x1.1 = 1 then (
    q_let (q_ud x1.2.2 153 0 x1.2.1) fun g2 =>
    some ((0 : Int), g2))
  else if x1.1 = 3 then (
      some ((1 : Int), x1.2.2))
  else if x1.1 = 4 then (
        some ((2 : Int), x1.2.2))
  else none
theorem wn4 {Γ : q_Γ} (hG : q_GG Γ) {v1 : Int} (hr1 : q_r32 v1) {h : q_F} (hA : q_Al 0 155 h) {r : Int × q_F} (hf : fn4 v1 h = some r) :
    q_M Γ q_K 155 4 [(2, Int.ofNat 0), (0, v1), (2, Int.ofNat 153)] h (q_PW 0 155 0 0 r) := by
  unfold fn4 at hf
  refine q_M.of (by decide) (Nat.le_of_ble_eq_true rfl) hG ?_
  refine r_aload_n c4_0 rfl rfl ?_
  refine r_iconst c4_1 rfl ?_
  refine r_aload_n c4_2 rfl rfl ?_
  refine r_iload_n c4_3 rfl rfl ?_
  obtain ⟨x1, e1, hf⟩ := q_bd_i hf
  refine r_vcG c4_4 (by decide) (by decide) rfl rfl rfl rfl (wn170 hG hr1 hA e1) ?_
  intro t1 w1 k1 p1
  obtain ⟨rfl, hw1, rfl, hA_x1⟩ := p1
  rcases qx_sp hf with ⟨c1, hf⟩ | ⟨c1, hf⟩
  · obtain ⟨rfl, hv1⟩ := hw1 c1
    refine Or.inr (Or.inl ⟨c1, ?_⟩)
    refine r_i2l c4_7 (q_w32_r hv1) rfl ?_
    refine x_last hA_x1 c4_8 (by decide) rfl (by decide) ⟨by decide, by decide⟩ (by decide) (by decide) (show Int.toNat (0 : Int) = 0 from rfl) (q_r34 hv1) rfl ?_
    intro g2 e_g2 hA_g2
    replace hf := q_let_i hf e_g2
    refine r_goto c4_9 ?_
    refine r_iconst c4_18 rfl ?_
    cases q_so hf
    exact r_iret c4_19 ⟨rfl, rfl, rfl⟩ ⟨rfl, rfl, rfl, (⟨by decide, by decide⟩ : q_r32 (0 : Int)), hA_g2⟩
  · rcases qx_sp hf with ⟨c1e1, hf⟩ | ⟨c1e1, hf⟩
    · refine Or.inr (Or.inr ⟨1, c1e1, ?_⟩)
      refine Or.inl ⟨12, rfl, ?_⟩
      refine r_astore10_n c4_12 (lo' := [(3, _), (0, _), (1, _), (2, _)]) rfl rfl rfl ?_
      refine r_iconst c4_13 rfl ?_
      cases q_so hf
      exact r_iret c4_14 ⟨rfl, rfl, rfl⟩ ⟨rfl, rfl, rfl, (⟨by decide, by decide⟩ : q_r32 (1 : Int)), hA_x1⟩
    · rcases qx_sp hf with ⟨c1e2, hf⟩ | ⟨c1e2, hf⟩
      · refine Or.inr (Or.inr ⟨2, c1e2, ?_⟩)
        refine Or.inl ⟨15, rfl, ?_⟩
        refine r_astore10_n c4_15 (lo' := [(3, _), (0, _), (1, _), (2, _)]) rfl rfl rfl ?_
        refine r_iconst c4_16 rfl ?_
        cases q_so hf
        exact r_iret c4_17 ⟨rfl, rfl, rfl⟩ ⟨rfl, rfl, rfl, (⟨by decide, by decide⟩ : q_r32 (2 : Int)), hA_x1⟩
      · cases hf
theorem c5_0 : q_cat 5 0 (.aload_n 2) 1 2 0 (0) := ⟨rfl, rfl⟩
theorem c5_1 : q_cat 5 1 (.iconst 0) 1 0 0 (0) := ⟨rfl, rfl⟩
theorem c5_2 : q_cat 5 2 (.aload_n 0) 1 0 0 (0) := ⟨rfl, rfl⟩
theorem c5_3 : q_cat 5 3 (.iload_n 1) 1 1 0 (0) := ⟨rfl, rfl⟩
theorem c5_4 : q_cat 5 4 (.invokevirtual 7) 3 171 0 (0) := ⟨rfl, rfl⟩
theorem c5_7 : q_cat 5 7 (.i2l) 1 0 0 (0) := ⟨rfl, rfl⟩
theorem c5_8 : q_cat 5 8 (.lastore) 1 0 0 (0) := ⟨rfl, rfl⟩
theorem c5_9 : q_cat 5 9 (.goto 6) 3 15 0 (0) := ⟨rfl, rfl⟩
theorem c5_12 : q_cat 5 12 (.astore_n 3) 1 3 0 (0) := ⟨rfl, rfl⟩
theorem c5_13 : q_cat 5 13 (.iconst 1) 1 0 0 (0) := ⟨rfl, rfl⟩
theorem c5_14 : q_cat 5 14 (.ireturn) 1 0 0 (0) := ⟨rfl, rfl⟩
theorem c5_15 : q_cat 5 15 (.iconst 0) 1 0 0 (0) := ⟨rfl, rfl⟩
theorem c5_16 : q_cat 5 16 (.ireturn) 1 0 0 (0) := ⟨rfl, rfl⟩
noncomputable def fn5 (v1 : Int) (h : q_F) : Option (Int × q_F) :=
  (fn171 v1 h).bind fun x1 =>
  if x1.1 = 1 then (
    q_let (q_ud x1.2.2 153 0 x1.2.1) fun g2 =>
    some ((0 : Int), g2))
  else if x1.1 = 2 then (
      some ((1 : Int), x1.2.2))
  else none
theorem wn5 {Γ : q_Γ} (hG : q_GG Γ) {v1 : Int} (hr1 : q_r32 v1) {h : q_F} (hA : q_Al 0 155 h) {r : Int × q_F} (hf : fn5 v1 h = some r) :
    q_M Γ q_K 155 5 [(2, Int.ofNat 0), (0, v1), (2, Int.ofNat 153)] h (q_PW 0 155 0 0 r) := by
  unfold fn5 at hf
  refine q_M.of (by decide) (Nat.le_of_ble_eq_true rfl) hG ?_
  refine r_aload_n c5_0 rfl rfl ?_
  refine r_iconst c5_1 rfl ?_
  refine r_aload_n c5_2 rfl rfl ?_
  refine r_iload_n c5_3 rfl rfl ?_
  obtain ⟨x1, e1, hf⟩ := q_bd_i hf
  refine r_vcG c5_4 (by decide) (by decide) rfl rfl rfl rfl (wn171 hG hr1 hA e1) ?_
  intro t1 w1 k1 p1
  obtain ⟨rfl, hw1, rfl, hA_x1⟩ := p1
  rcases qx_sp hf with ⟨c1, hf⟩ | ⟨c1, hf⟩
  · obtain ⟨rfl, hv1⟩ := hw1 c1
    refine Or.inr (Or.inl ⟨c1, ?_⟩)
    refine r_i2l c5_7 (q_w32_r hv1) rfl ?_
    refine x_last hA_x1 c5_8 (by decide) rfl (by decide) ⟨by decide, by decide⟩ (by decide) (by decide) (show Int.toNat (0 : Int) = 0 from rfl) (q_r34 hv1) rfl ?_
    intro g2 e_g2 hA_g2
    replace hf := q_let_i hf e_g2
    refine r_goto c5_9 ?_
    refine r_iconst c5_15 rfl ?_
    cases q_so hf
    exact r_iret c5_16 ⟨rfl, rfl, rfl⟩ ⟨rfl, rfl, rfl, (⟨by decide, by decide⟩ : q_r32 (0 : Int)), hA_g2⟩
  · rcases qx_sp hf with ⟨c1e0, hf⟩ | ⟨c1e0, hf⟩
    · refine Or.inr (Or.inr ⟨0, c1e0, ?_⟩)
      refine Or.inl ⟨12, rfl, ?_⟩
      refine r_astore10_n c5_12 (lo' := [(3, _), (0, _), (1, _), (2, _)]) rfl rfl rfl ?_
      refine r_iconst c5_13 rfl ?_
      cases q_so hf
      exact r_iret c5_14 ⟨rfl, rfl, rfl⟩ ⟨rfl, rfl, rfl, (⟨by decide, by decide⟩ : q_r32 (1 : Int)), hA_x1⟩
    · cases hf
theorem c6_0 : q_cat 6 0 (.aload_n 2) 1 2 0 (0) := ⟨rfl, rfl⟩
theorem c6_1 : q_cat 6 1 (.iconst 0) 1 0 0 (0) := ⟨rfl, rfl⟩
theorem c6_2 : q_cat 6 2 (.aload_n 0) 1 0 0 (0) := ⟨rfl, rfl⟩
theorem c6_3 : q_cat 6 3 (.iload_n 1) 1 1 0 (0) := ⟨rfl, rfl⟩
theorem c6_4 : q_cat 6 4 (.invokevirtual 70) 3 172 0 (0) := ⟨rfl, rfl⟩
theorem c6_7 : q_cat 6 7 (.f2d) 1 0 0 (0) := ⟨rfl, rfl⟩
theorem c6_8 : q_cat 6 8 (.dastore) 1 0 0 (0) := ⟨rfl, rfl⟩
theorem c6_9 : q_cat 6 9 (.goto 6) 3 15 0 (0) := ⟨rfl, rfl⟩
theorem c6_12 : q_cat 6 12 (.astore_n 3) 1 3 0 (0) := ⟨rfl, rfl⟩
theorem c6_13 : q_cat 6 13 (.iconst 1) 1 0 0 (0) := ⟨rfl, rfl⟩
theorem c6_14 : q_cat 6 14 (.ireturn) 1 0 0 (0) := ⟨rfl, rfl⟩
theorem c6_15 : q_cat 6 15 (.iconst 0) 1 0 0 (0) := ⟨rfl, rfl⟩
theorem c6_16 : q_cat 6 16 (.ireturn) 1 0 0 (0) := ⟨rfl, rfl⟩
noncomputable def fn6 (v1 : Int) (h : q_F) : Option (Int × q_F) :=
  (fn172 v1 h).bind fun x1 =>
  if x1.1 = 1 then (
    if q_n64 (FP.f2d (UInt32.ofNat (x1.2.1).toNat)) = true then
    q_let (q_ud x1.2.2 154 0 (q_f2d x1.2.1)) fun g3 =>
    some ((0 : Int), g3)
    else none)
  else if x1.1 = 3 then (
      some ((1 : Int), x1.2.2))
  else none
theorem wn6 {Γ : q_Γ} (hG : q_GG Γ) {v1 : Int} (hr1 : q_r32 v1) {h : q_F} (hA : q_Al 0 155 h) {r : Int × q_F} (hf : fn6 v1 h = some r) :
    q_M Γ q_K 155 6 [(2, Int.ofNat 0), (0, v1), (2, Int.ofNat 154)] h (q_PW 0 155 0 0 r) := by
  unfold fn6 at hf
  refine q_M.of (by decide) (Nat.le_of_ble_eq_true rfl) hG ?_
  refine r_aload_n c6_0 rfl rfl ?_
  refine r_iconst c6_1 rfl ?_
  refine r_aload_n c6_2 rfl rfl ?_
  refine r_iload_n c6_3 rfl rfl ?_
  obtain ⟨x1, e1, hf⟩ := q_bd_i hf
  refine r_vcG c6_4 (by decide) (by decide) rfl rfl rfl rfl (wn172 hG hr1 hA e1) ?_
  intro t1 w1 k1 p1
  obtain ⟨rfl, hw1, rfl, hA_x1⟩ := p1
  rcases qx_sp hf with ⟨c1, hf⟩ | ⟨c1, hf⟩
  · obtain ⟨rfl, hv1⟩ := hw1 c1
    refine Or.inr (Or.inl ⟨c1, ?_⟩)
    obtain ⟨b2, hf⟩ := qx_ck hf
    refine r_f2d c6_7 b2 (q_df_f2d x1.2.1) rfl ?_
    refine x_dast hA_x1 c6_8 (by decide) rfl (by decide) ⟨by decide, by decide⟩ (by decide) (by decide) (show Int.toNat (0 : Int) = 0 from rfl) rfl ?_
    intro g3 e_g3 hA_g3
    replace hf := q_let_i hf e_g3
    refine r_goto c6_9 ?_
    refine r_iconst c6_15 rfl ?_
    cases q_so hf
    exact r_iret c6_16 ⟨rfl, rfl, rfl⟩ ⟨rfl, rfl, rfl, (⟨by decide, by decide⟩ : q_r32 (0 : Int)), hA_g3⟩
  · rcases qx_sp hf with ⟨c1e1, hf⟩ | ⟨c1e1, hf⟩
    · refine Or.inr (Or.inr ⟨1, c1e1, ?_⟩)
      refine Or.inl ⟨12, rfl, ?_⟩
      refine r_astore10_n c6_12 (lo' := [(3, _), (0, _), (1, _), (2, _)]) rfl rfl rfl ?_
      refine r_iconst c6_13 rfl ?_
      cases q_so hf
      exact r_iret c6_14 ⟨rfl, rfl, rfl⟩ ⟨rfl, rfl, rfl, (⟨by decide, by decide⟩ : q_r32 (1 : Int)), hA_x1⟩
    · cases hf
theorem c7_0 : q_cat 7 0 (.aload_n 2) 1 2 0 (0) := ⟨rfl, rfl⟩
theorem c7_1 : q_cat 7 1 (.iconst 0) 1 0 0 (0) := ⟨rfl, rfl⟩
theorem c7_2 : q_cat 7 2 (.aload_n 0) 1 0 0 (0) := ⟨rfl, rfl⟩
theorem c7_3 : q_cat 7 3 (.iload_n 1) 1 1 0 (0) := ⟨rfl, rfl⟩
theorem c7_4 : q_cat 7 4 (.invokevirtual 81) 3 173 0 (0) := ⟨rfl, rfl⟩
theorem c7_7 : q_cat 7 7 (.i2l) 1 0 0 (0) := ⟨rfl, rfl⟩
theorem c7_8 : q_cat 7 8 (.lastore) 1 0 0 (0) := ⟨rfl, rfl⟩
theorem c7_9 : q_cat 7 9 (.goto 9) 3 18 0 (0) := ⟨rfl, rfl⟩
theorem c7_12 : q_cat 7 12 (.astore_n 3) 1 3 0 (0) := ⟨rfl, rfl⟩
theorem c7_13 : q_cat 7 13 (.iconst 1) 1 0 0 (0) := ⟨rfl, rfl⟩
theorem c7_14 : q_cat 7 14 (.ireturn) 1 0 0 (0) := ⟨rfl, rfl⟩
theorem c7_15 : q_cat 7 15 (.astore_n 3) 1 3 0 (0) := ⟨rfl, rfl⟩
theorem c7_16 : q_cat 7 16 (.iconst 2) 1 0 0 (0) := ⟨rfl, rfl⟩
theorem c7_17 : q_cat 7 17 (.ireturn) 1 0 0 (0) := ⟨rfl, rfl⟩
theorem c7_18 : q_cat 7 18 (.iconst 0) 1 0 0 (0) := ⟨rfl, rfl⟩
theorem c7_19 : q_cat 7 19 (.ireturn) 1 0 0 (0) := ⟨rfl, rfl⟩
noncomputable def fn7 (v1 : Int) (h : q_F) : Option (Int × q_F) :=
  (fn173 v1 h).bind fun x1 =>
  if x1.1 = 1 then (
    q_let (q_ud x1.2.2 153 0 x1.2.1) fun g2 =>
    some ((0 : Int), g2))
  else if x1.1 = 3 then (
      some ((1 : Int), x1.2.2))
  else if x1.1 = 4 then (
        some ((2 : Int), x1.2.2))
  else none
theorem wn7 {Γ : q_Γ} (hG : q_GG Γ) {v1 : Int} (hr1 : q_r32 v1) {h : q_F} (hA : q_Al 0 155 h) {r : Int × q_F} (hf : fn7 v1 h = some r) :
    q_M Γ q_K 155 7 [(2, Int.ofNat 0), (0, v1), (2, Int.ofNat 153)] h (q_PW 0 155 0 0 r) := by
  unfold fn7 at hf
  refine q_M.of (by decide) (Nat.le_of_ble_eq_true rfl) hG ?_
  refine r_aload_n c7_0 rfl rfl ?_
  refine r_iconst c7_1 rfl ?_
  refine r_aload_n c7_2 rfl rfl ?_
  refine r_iload_n c7_3 rfl rfl ?_
  obtain ⟨x1, e1, hf⟩ := q_bd_i hf
  refine r_vcG c7_4 (by decide) (by decide) rfl rfl rfl rfl (wn173 hG hr1 hA e1) ?_
  intro t1 w1 k1 p1
  obtain ⟨rfl, hw1, rfl, hA_x1⟩ := p1
  rcases qx_sp hf with ⟨c1, hf⟩ | ⟨c1, hf⟩
  · obtain ⟨rfl, hv1⟩ := hw1 c1
    refine Or.inr (Or.inl ⟨c1, ?_⟩)
    refine r_i2l c7_7 (q_w32_r hv1) rfl ?_
    refine x_last hA_x1 c7_8 (by decide) rfl (by decide) ⟨by decide, by decide⟩ (by decide) (by decide) (show Int.toNat (0 : Int) = 0 from rfl) (q_r34 hv1) rfl ?_
    intro g2 e_g2 hA_g2
    replace hf := q_let_i hf e_g2
    refine r_goto c7_9 ?_
    refine r_iconst c7_18 rfl ?_
    cases q_so hf
    exact r_iret c7_19 ⟨rfl, rfl, rfl⟩ ⟨rfl, rfl, rfl, (⟨by decide, by decide⟩ : q_r32 (0 : Int)), hA_g2⟩
  · rcases qx_sp hf with ⟨c1e1, hf⟩ | ⟨c1e1, hf⟩
    · refine Or.inr (Or.inr ⟨1, c1e1, ?_⟩)
      refine Or.inl ⟨12, rfl, ?_⟩
      refine r_astore10_n c7_12 (lo' := [(3, _), (0, _), (1, _), (2, _)]) rfl rfl rfl ?_
      refine r_iconst c7_13 rfl ?_
      cases q_so hf
      exact r_iret c7_14 ⟨rfl, rfl, rfl⟩ ⟨rfl, rfl, rfl, (⟨by decide, by decide⟩ : q_r32 (1 : Int)), hA_x1⟩
    · rcases qx_sp hf with ⟨c1e2, hf⟩ | ⟨c1e2, hf⟩
      · refine Or.inr (Or.inr ⟨2, c1e2, ?_⟩)
        refine Or.inl ⟨15, rfl, ?_⟩
        refine r_astore10_n c7_15 (lo' := [(3, _), (0, _), (1, _), (2, _)]) rfl rfl rfl ?_
        refine r_iconst c7_16 rfl ?_
        cases q_so hf
        exact r_iret c7_17 ⟨rfl, rfl, rfl⟩ ⟨rfl, rfl, rfl, (⟨by decide, by decide⟩ : q_r32 (2 : Int)), hA_x1⟩
      · cases hf
theorem c8_0 : q_cat 8 0 (.aload_n 2) 1 2 0 (0) := ⟨rfl, rfl⟩
theorem c8_1 : q_cat 8 1 (.iconst 0) 1 0 0 (0) := ⟨rfl, rfl⟩
theorem c8_2 : q_cat 8 2 (.aload_n 0) 1 0 0 (0) := ⟨rfl, rfl⟩
theorem c8_3 : q_cat 8 3 (.iload_n 1) 1 1 0 (0) := ⟨rfl, rfl⟩
theorem c8_4 : q_cat 8 4 (.invokevirtual 26) 3 176 0 (0) := ⟨rfl, rfl⟩
theorem c8_7 : q_cat 8 7 (.i2l) 1 0 0 (0) := ⟨rfl, rfl⟩
theorem c8_8 : q_cat 8 8 (.lastore) 1 0 0 (0) := ⟨rfl, rfl⟩
theorem c8_9 : q_cat 8 9 (.goto 9) 3 18 0 (0) := ⟨rfl, rfl⟩
theorem c8_12 : q_cat 8 12 (.astore_n 3) 1 3 0 (0) := ⟨rfl, rfl⟩
theorem c8_13 : q_cat 8 13 (.iconst 1) 1 0 0 (0) := ⟨rfl, rfl⟩
theorem c8_14 : q_cat 8 14 (.ireturn) 1 0 0 (0) := ⟨rfl, rfl⟩
theorem c8_15 : q_cat 8 15 (.astore_n 3) 1 3 0 (0) := ⟨rfl, rfl⟩
theorem c8_16 : q_cat 8 16 (.iconst 2) 1 0 0 (0) := ⟨rfl, rfl⟩
theorem c8_17 : q_cat 8 17 (.ireturn) 1 0 0 (0) := ⟨rfl, rfl⟩
theorem c8_18 : q_cat 8 18 (.iconst 0) 1 0 0 (0) := ⟨rfl, rfl⟩
theorem c8_19 : q_cat 8 19 (.ireturn) 1 0 0 (0) := ⟨rfl, rfl⟩
noncomputable def fn8 (v1 : Int) (h : q_F) : Option (Int × q_F) :=
  (fn176 v1 h).bind fun x1 =>
  if x1.1 = 1 then (
    q_let (q_ud x1.2.2 153 0 x1.2.1) fun g2 =>
    some ((0 : Int), g2))
  else if x1.1 = 3 then (
      some ((1 : Int), x1.2.2))
  else if x1.1 = 4 then (
        some ((2 : Int), x1.2.2))
  else none
theorem wn8 {Γ : q_Γ} (hG : q_GG Γ) {v1 : Int} (hr1 : q_r32 v1) {h : q_F} (hA : q_Al 0 155 h) {r : Int × q_F} (hf : fn8 v1 h = some r) :
    q_M Γ q_K 155 8 [(2, Int.ofNat 0), (0, v1), (2, Int.ofNat 153)] h (q_PW 0 155 0 0 r) := by
  unfold fn8 at hf
  refine q_M.of (by decide) (Nat.le_of_ble_eq_true rfl) hG ?_
  refine r_aload_n c8_0 rfl rfl ?_
  refine r_iconst c8_1 rfl ?_
  refine r_aload_n c8_2 rfl rfl ?_
  refine r_iload_n c8_3 rfl rfl ?_
  obtain ⟨x1, e1, hf⟩ := q_bd_i hf
  refine r_vcG c8_4 (by decide) (by decide) rfl rfl rfl rfl (wn176 hG hr1 hA e1) ?_
  intro t1 w1 k1 p1
  obtain ⟨rfl, hw1, rfl, hA_x1⟩ := p1
  rcases qx_sp hf with ⟨c1, hf⟩ | ⟨c1, hf⟩
  · obtain ⟨rfl, hv1⟩ := hw1 c1
    refine Or.inr (Or.inl ⟨c1, ?_⟩)
    refine r_i2l c8_7 (q_w32_r hv1) rfl ?_
    refine x_last hA_x1 c8_8 (by decide) rfl (by decide) ⟨by decide, by decide⟩ (by decide) (by decide) (show Int.toNat (0 : Int) = 0 from rfl) (q_r34 hv1) rfl ?_
    intro g2 e_g2 hA_g2
    replace hf := q_let_i hf e_g2
    refine r_goto c8_9 ?_
    refine r_iconst c8_18 rfl ?_
    cases q_so hf
    exact r_iret c8_19 ⟨rfl, rfl, rfl⟩ ⟨rfl, rfl, rfl, (⟨by decide, by decide⟩ : q_r32 (0 : Int)), hA_g2⟩
  · rcases qx_sp hf with ⟨c1e1, hf⟩ | ⟨c1e1, hf⟩
    · refine Or.inr (Or.inr ⟨1, c1e1, ?_⟩)
      refine Or.inl ⟨12, rfl, ?_⟩
      refine r_astore10_n c8_12 (lo' := [(3, _), (0, _), (1, _), (2, _)]) rfl rfl rfl ?_
      refine r_iconst c8_13 rfl ?_
      cases q_so hf
      exact r_iret c8_14 ⟨rfl, rfl, rfl⟩ ⟨rfl, rfl, rfl, (⟨by decide, by decide⟩ : q_r32 (1 : Int)), hA_x1⟩
    · rcases qx_sp hf with ⟨c1e2, hf⟩ | ⟨c1e2, hf⟩
      · refine Or.inr (Or.inr ⟨2, c1e2, ?_⟩)
        refine Or.inl ⟨15, rfl, ?_⟩
        refine r_astore10_n c8_15 (lo' := [(3, _), (0, _), (1, _), (2, _)]) rfl rfl rfl ?_
        refine r_iconst c8_16 rfl ?_
        cases q_so hf
        exact r_iret c8_17 ⟨rfl, rfl, rfl⟩ ⟨rfl, rfl, rfl, (⟨by decide, by decide⟩ : q_r32 (2 : Int)), hA_x1⟩
      · cases hf
theorem c9_0 : q_cat 9 0 (.aload_n 2) 1 2 0 (0) := ⟨rfl, rfl⟩
theorem c9_1 : q_cat 9 1 (.iconst 0) 1 0 0 (0) := ⟨rfl, rfl⟩
theorem c9_2 : q_cat 9 2 (.aload_n 0) 1 0 0 (0) := ⟨rfl, rfl⟩
theorem c9_3 : q_cat 9 3 (.iload_n 1) 1 1 0 (0) := ⟨rfl, rfl⟩
theorem c9_4 : q_cat 9 4 (.invokevirtual 33) 3 180 0 (0) := ⟨rfl, rfl⟩
theorem c9_7 : q_cat 9 7 (.i2l) 1 0 0 (0) := ⟨rfl, rfl⟩
theorem c9_8 : q_cat 9 8 (.lastore) 1 0 0 (0) := ⟨rfl, rfl⟩
theorem c9_9 : q_cat 9 9 (.goto 9) 3 18 0 (0) := ⟨rfl, rfl⟩
theorem c9_12 : q_cat 9 12 (.astore_n 3) 1 3 0 (0) := ⟨rfl, rfl⟩
theorem c9_13 : q_cat 9 13 (.iconst 1) 1 0 0 (0) := ⟨rfl, rfl⟩
theorem c9_14 : q_cat 9 14 (.ireturn) 1 0 0 (0) := ⟨rfl, rfl⟩
theorem c9_15 : q_cat 9 15 (.astore_n 3) 1 3 0 (0) := ⟨rfl, rfl⟩
theorem c9_16 : q_cat 9 16 (.iconst 2) 1 0 0 (0) := ⟨rfl, rfl⟩
theorem c9_17 : q_cat 9 17 (.ireturn) 1 0 0 (0) := ⟨rfl, rfl⟩
theorem c9_18 : q_cat 9 18 (.iconst 0) 1 0 0 (0) := ⟨rfl, rfl⟩
theorem c9_19 : q_cat 9 19 (.ireturn) 1 0 0 (0) := ⟨rfl, rfl⟩
noncomputable def fn9 (v1 : Int) (h : q_F) : Option (Int × q_F) :=
  (fn180 v1 h).bind fun x1 =>
  if x1.1 = 1 then (
    q_let (q_ud x1.2.2 153 0 x1.2.1) fun g2 =>
    some ((0 : Int), g2))
  else if x1.1 = 3 then (
      some ((1 : Int), x1.2.2))
  else if x1.1 = 4 then (
        some ((2 : Int), x1.2.2))
  else none
theorem wn9 {Γ : q_Γ} (hG : q_GG Γ) {v1 : Int} (hr1 : q_r32 v1) {h : q_F} (hA : q_Al 0 155 h) {r : Int × q_F} (hf : fn9 v1 h = some r) :
    q_M Γ q_K 155 9 [(2, Int.ofNat 0), (0, v1), (2, Int.ofNat 153)] h (q_PW 0 155 0 0 r) := by
  unfold fn9 at hf
  refine q_M.of (by decide) (Nat.le_of_ble_eq_true rfl) hG ?_
  refine r_aload_n c9_0 rfl rfl ?_
  refine r_iconst c9_1 rfl ?_
  refine r_aload_n c9_2 rfl rfl ?_
  refine r_iload_n c9_3 rfl rfl ?_
  obtain ⟨x1, e1, hf⟩ := q_bd_i hf
  refine r_vcG c9_4 (by decide) (by decide) rfl rfl rfl rfl (wn180 hG hr1 hA e1) ?_
  intro t1 w1 k1 p1
  obtain ⟨rfl, hw1, rfl, hA_x1⟩ := p1
  rcases qx_sp hf with ⟨c1, hf⟩ | ⟨c1, hf⟩
  · obtain ⟨rfl, hv1⟩ := hw1 c1
    refine Or.inr (Or.inl ⟨c1, ?_⟩)
    refine r_i2l c9_7 (q_w32_r hv1) rfl ?_
    refine x_last hA_x1 c9_8 (by decide) rfl (by decide) ⟨by decide, by decide⟩ (by decide) (by decide) (show Int.toNat (0 : Int) = 0 from rfl) (q_r34 hv1) rfl ?_
    intro g2 e_g2 hA_g2
    replace hf := q_let_i hf e_g2
    refine r_goto c9_9 ?_
    refine r_iconst c9_18 rfl ?_
    cases q_so hf
    exact r_iret c9_19 ⟨rfl, rfl, rfl⟩ ⟨rfl, rfl, rfl, (⟨by decide, by decide⟩ : q_r32 (0 : Int)), hA_g2⟩
  · rcases qx_sp hf with ⟨c1e1, hf⟩ | ⟨c1e1, hf⟩
    · refine Or.inr (Or.inr ⟨1, c1e1, ?_⟩)
      refine Or.inl ⟨12, rfl, ?_⟩
      refine r_astore10_n c9_12 (lo' := [(3, _), (0, _), (1, _), (2, _)]) rfl rfl rfl ?_
      refine r_iconst c9_13 rfl ?_
      cases q_so hf
      exact r_iret c9_14 ⟨rfl, rfl, rfl⟩ ⟨rfl, rfl, rfl, (⟨by decide, by decide⟩ : q_r32 (1 : Int)), hA_x1⟩
    · rcases qx_sp hf with ⟨c1e2, hf⟩ | ⟨c1e2, hf⟩
      · refine Or.inr (Or.inr ⟨2, c1e2, ?_⟩)
        refine Or.inl ⟨15, rfl, ?_⟩
        refine r_astore10_n c9_15 (lo' := [(3, _), (0, _), (1, _), (2, _)]) rfl rfl rfl ?_
        refine r_iconst c9_16 rfl ?_
        cases q_so hf
        exact r_iret c9_17 ⟨rfl, rfl, rfl⟩ ⟨rfl, rfl, rfl, (⟨by decide, by decide⟩ : q_r32 (2 : Int)), hA_x1⟩
      · cases hf
theorem c10_0 : q_cat 10 0 (.aload_n 1) 1 1 0 (0) := ⟨rfl, rfl⟩
theorem c10_1 : q_cat 10 1 (.iconst 0) 1 0 0 (0) := ⟨rfl, rfl⟩
theorem c10_2 : q_cat 10 2 (.aload_n 0) 1 0 0 (0) := ⟨rfl, rfl⟩
theorem c10_3 : q_cat 10 3 (.invokevirtual 74) 3 181 0 (0) := ⟨rfl, rfl⟩
theorem c10_6 : q_cat 10 6 (.i2l) 1 0 0 (0) := ⟨rfl, rfl⟩
theorem c10_7 : q_cat 10 7 (.lastore) 1 0 0 (0) := ⟨rfl, rfl⟩
theorem c10_8 : q_cat 10 8 (.goto 6) 3 14 0 (0) := ⟨rfl, rfl⟩
theorem c10_11 : q_cat 10 11 (.astore_n 2) 1 2 0 (0) := ⟨rfl, rfl⟩
theorem c10_12 : q_cat 10 12 (.iconst 1) 1 0 0 (0) := ⟨rfl, rfl⟩
theorem c10_13 : q_cat 10 13 (.ireturn) 1 0 0 (0) := ⟨rfl, rfl⟩
theorem c10_14 : q_cat 10 14 (.iconst 0) 1 0 0 (0) := ⟨rfl, rfl⟩
theorem c10_15 : q_cat 10 15 (.ireturn) 1 0 0 (0) := ⟨rfl, rfl⟩
noncomputable def fn10  (h : q_F) : Option (Int × q_F) :=
  (fn181 h).bind fun x1 =>
  if x1.1 = 1 then (
    q_let (q_ud x1.2.2 153 0 x1.2.1) fun g2 =>
    some ((0 : Int), g2))
  else if x1.1 = 4 then (
      some ((1 : Int), x1.2.2))
  else none
theorem wn10 {Γ : q_Γ} (hG : q_GG Γ)   {h : q_F} (hA : q_Al 0 155 h) {r : Int × q_F} (hf : fn10  h = some r) :
    q_M Γ q_K 155 10 [(2, Int.ofNat 0), (2, Int.ofNat 153)] h (q_PW 0 155 0 0 r) := by
  unfold fn10 at hf
  refine q_M.of (by decide) (Nat.le_of_ble_eq_true rfl) hG ?_
  refine r_aload_n c10_0 rfl rfl ?_
  refine r_iconst c10_1 rfl ?_
  refine r_aload_n c10_2 rfl rfl ?_
  obtain ⟨x1, e1, hf⟩ := q_bd_i hf
  refine r_vcG c10_3 (by decide) (by decide) rfl rfl rfl rfl (wn181 hG  hA e1) ?_
  intro t1 w1 k1 p1
  obtain ⟨rfl, hw1, rfl, hA_x1⟩ := p1
  rcases qx_sp hf with ⟨c1, hf⟩ | ⟨c1, hf⟩
  · obtain ⟨rfl, hv1⟩ := hw1 c1
    refine Or.inr (Or.inl ⟨c1, ?_⟩)
    refine r_i2l c10_6 (q_w32_r hv1) rfl ?_
    refine x_last hA_x1 c10_7 (by decide) rfl (by decide) ⟨by decide, by decide⟩ (by decide) (by decide) (show Int.toNat (0 : Int) = 0 from rfl) (q_r34 hv1) rfl ?_
    intro g2 e_g2 hA_g2
    replace hf := q_let_i hf e_g2
    refine r_goto c10_8 ?_
    refine r_iconst c10_14 rfl ?_
    cases q_so hf
    exact r_iret c10_15 ⟨rfl, rfl, rfl⟩ ⟨rfl, rfl, rfl, (⟨by decide, by decide⟩ : q_r32 (0 : Int)), hA_g2⟩
  · rcases qx_sp hf with ⟨c1e2, hf⟩ | ⟨c1e2, hf⟩
    · refine Or.inr (Or.inr ⟨2, c1e2, ?_⟩)
      refine Or.inl ⟨11, rfl, ?_⟩
      refine r_astore10_n c10_11 (lo' := [(2, _), (0, _), (1, _)]) rfl rfl rfl ?_
      refine r_iconst c10_12 rfl ?_
      cases q_so hf
      exact r_iret c10_13 ⟨rfl, rfl, rfl⟩ ⟨rfl, rfl, rfl, (⟨by decide, by decide⟩ : q_r32 (1 : Int)), hA_x1⟩
    · cases hf
theorem c11_0 : q_cat 11 0 (.aload 5) 2 5 0 (0) := ⟨rfl, rfl⟩
theorem c11_2 : q_cat 11 2 (.iconst 0) 1 0 0 (0) := ⟨rfl, rfl⟩
theorem c11_3 : q_cat 11 3 (.aload_n 0) 1 0 0 (0) := ⟨rfl, rfl⟩
theorem c11_4 : q_cat 11 4 (.iload_n 1) 1 1 0 (0) := ⟨rfl, rfl⟩
theorem c11_5 : q_cat 11 5 (.iload_n 2) 1 2 0 (0) := ⟨rfl, rfl⟩
theorem c11_6 : q_cat 11 6 (.iload_n 3) 1 3 0 (0) := ⟨rfl, rfl⟩
theorem c11_7 : q_cat 11 7 (.iload 4) 2 4 0 (0) := ⟨rfl, rfl⟩
theorem c11_9 : q_cat 11 9 (.invokevirtual 77) 3 183 0 (0) := ⟨rfl, rfl⟩
theorem c11_12 : q_cat 11 12 (.i2l) 1 0 0 (0) := ⟨rfl, rfl⟩
theorem c11_13 : q_cat 11 13 (.lastore) 1 0 0 (0) := ⟨rfl, rfl⟩
theorem c11_14 : q_cat 11 14 (.goto 11) 3 25 0 (0) := ⟨rfl, rfl⟩
theorem c11_17 : q_cat 11 17 (.astore 6) 2 6 0 (0) := ⟨rfl, rfl⟩
theorem c11_19 : q_cat 11 19 (.iconst 1) 1 0 0 (0) := ⟨rfl, rfl⟩
theorem c11_20 : q_cat 11 20 (.ireturn) 1 0 0 (0) := ⟨rfl, rfl⟩
theorem c11_21 : q_cat 11 21 (.astore 6) 2 6 0 (0) := ⟨rfl, rfl⟩
theorem c11_23 : q_cat 11 23 (.iconst 2) 1 0 0 (0) := ⟨rfl, rfl⟩
theorem c11_24 : q_cat 11 24 (.ireturn) 1 0 0 (0) := ⟨rfl, rfl⟩
theorem c11_25 : q_cat 11 25 (.iconst 0) 1 0 0 (0) := ⟨rfl, rfl⟩
theorem c11_26 : q_cat 11 26 (.ireturn) 1 0 0 (0) := ⟨rfl, rfl⟩
noncomputable def fn11 (v1 : Int) (v2 : Int) (v3 : Int) (v4 : Int) (h : q_F) : Option (Int × q_F) :=
  (fn183 v1 v2 v3 v4 h).bind fun x1 =>
  if x1.1 = 1 then (
    q_let (q_ud x1.2.2 153 0 x1.2.1) fun g2 =>
    some ((0 : Int), g2))
  else if x1.1 = 2 then (
      some ((1 : Int), x1.2.2))
  else if x1.1 = 4 then (
        some ((2 : Int), x1.2.2))
  else none
theorem wn11 {Γ : q_Γ} (hG : q_GG Γ) {v1 : Int} {v2 : Int} {v3 : Int} {v4 : Int} (hr1 : q_r32 v1) (hr2 : q_r32 v2) (hr3 : q_r32 v3) (hr4 : q_r32 v4) {h : q_F} (hA : q_Al 0 155 h) {r : Int × q_F} (hf : fn11 v1 v2 v3 v4 h = some r) :
    q_M Γ q_K 155 11 [(2, Int.ofNat 0), (0, v1), (0, v2), (0, v3), (0, v4), (2, Int.ofNat 153)] h (q_PW 0 155 0 0 r) := by
  unfold fn11 at hf
  refine q_M.of (by decide) (Nat.le_of_ble_eq_true rfl) hG ?_
  refine r_aload c11_0 rfl rfl ?_
  refine r_iconst c11_2 rfl ?_
  refine r_aload_n c11_3 rfl rfl ?_
  refine r_iload_n c11_4 rfl rfl ?_
  refine r_iload_n c11_5 rfl rfl ?_
  refine r_iload_n c11_6 rfl rfl ?_
  refine r_iload c11_7 rfl rfl ?_
  obtain ⟨x1, e1, hf⟩ := q_bd_i hf
  refine r_vcG c11_9 (by decide) (by decide) rfl rfl rfl rfl (wn183 hG hr1 hr2 hr3 hr4 hA e1) ?_
  intro t1 w1 k1 p1
  obtain ⟨rfl, hw1, rfl, hA_x1⟩ := p1
  rcases qx_sp hf with ⟨c1, hf⟩ | ⟨c1, hf⟩
  · obtain ⟨rfl, hv1⟩ := hw1 c1
    refine Or.inr (Or.inl ⟨c1, ?_⟩)
    refine r_i2l c11_12 (q_w32_r hv1) rfl ?_
    refine x_last hA_x1 c11_13 (by decide) rfl (by decide) ⟨by decide, by decide⟩ (by decide) (by decide) (show Int.toNat (0 : Int) = 0 from rfl) (q_r34 hv1) rfl ?_
    intro g2 e_g2 hA_g2
    replace hf := q_let_i hf e_g2
    refine r_goto c11_14 ?_
    refine r_iconst c11_25 rfl ?_
    cases q_so hf
    exact r_iret c11_26 ⟨rfl, rfl, rfl⟩ ⟨rfl, rfl, rfl, (⟨by decide, by decide⟩ : q_r32 (0 : Int)), hA_g2⟩
  · rcases qx_sp hf with ⟨c1e0, hf⟩ | ⟨c1e0, hf⟩
    · refine Or.inr (Or.inr ⟨0, c1e0, ?_⟩)
      refine Or.inl ⟨17, rfl, ?_⟩
      refine r_astore10 c11_17 (lo' := [(6, _), (0, _), (1, _), (2, _), (3, _), (4, _), (5, _)]) rfl rfl rfl ?_
      refine r_iconst c11_19 rfl ?_
      cases q_so hf
      exact r_iret c11_20 ⟨rfl, rfl, rfl⟩ ⟨rfl, rfl, rfl, (⟨by decide, by decide⟩ : q_r32 (1 : Int)), hA_x1⟩
    · rcases qx_sp hf with ⟨c1e2, hf⟩ | ⟨c1e2, hf⟩
      · refine Or.inr (Or.inr ⟨2, c1e2, ?_⟩)
        refine Or.inl ⟨21, rfl, ?_⟩
        refine r_astore10 c11_21 (lo' := [(6, _), (0, _), (1, _), (2, _), (3, _), (4, _), (5, _)]) rfl rfl rfl ?_
        refine r_iconst c11_23 rfl ?_
        cases q_so hf
        exact r_iret c11_24 ⟨rfl, rfl, rfl⟩ ⟨rfl, rfl, rfl, (⟨by decide, by decide⟩ : q_r32 (2 : Int)), hA_x1⟩
      · cases hf
theorem c12_0 : q_cat 12 0 (.aload_n 3) 1 3 0 (0) := ⟨rfl, rfl⟩
theorem c12_1 : q_cat 12 1 (.iconst 0) 1 0 0 (0) := ⟨rfl, rfl⟩
theorem c12_2 : q_cat 12 2 (.aload_n 0) 1 0 0 (0) := ⟨rfl, rfl⟩
theorem c12_3 : q_cat 12 3 (.iload_n 1) 1 1 0 (0) := ⟨rfl, rfl⟩
theorem c12_4 : q_cat 12 4 (.iload_n 2) 1 2 0 (0) := ⟨rfl, rfl⟩
theorem c12_5 : q_cat 12 5 (.invokevirtual 36) 3 184 0 (0) := ⟨rfl, rfl⟩
theorem c12_8 : q_cat 12 8 (.i2l) 1 0 0 (0) := ⟨rfl, rfl⟩
theorem c12_9 : q_cat 12 9 (.lastore) 1 0 0 (0) := ⟨rfl, rfl⟩
theorem c12_10 : q_cat 12 10 (.goto 15) 3 25 0 (0) := ⟨rfl, rfl⟩
theorem c12_13 : q_cat 12 13 (.astore 4) 2 4 0 (0) := ⟨rfl, rfl⟩
theorem c12_15 : q_cat 12 15 (.iconst 1) 1 0 0 (0) := ⟨rfl, rfl⟩
theorem c12_16 : q_cat 12 16 (.ireturn) 1 0 0 (0) := ⟨rfl, rfl⟩
theorem c12_17 : q_cat 12 17 (.astore 4) 2 4 0 (0) := ⟨rfl, rfl⟩
theorem c12_19 : q_cat 12 19 (.iconst 2) 1 0 0 (0) := ⟨rfl, rfl⟩
theorem c12_20 : q_cat 12 20 (.ireturn) 1 0 0 (0) := ⟨rfl, rfl⟩
theorem c12_21 : q_cat 12 21 (.astore 4) 2 4 0 (0) := ⟨rfl, rfl⟩
theorem c12_23 : q_cat 12 23 (.iconst 3) 1 0 0 (0) := ⟨rfl, rfl⟩
theorem c12_24 : q_cat 12 24 (.ireturn) 1 0 0 (0) := ⟨rfl, rfl⟩
theorem c12_25 : q_cat 12 25 (.iconst 0) 1 0 0 (0) := ⟨rfl, rfl⟩
theorem c12_26 : q_cat 12 26 (.ireturn) 1 0 0 (0) := ⟨rfl, rfl⟩
noncomputable def fn12 (v1 : Int) (v2 : Int) (h : q_F) : Option (Int × q_F) :=
  (fn184 v1 v2 h).bind fun x1 =>
  if x1.1 = 1 then (
    q_let (q_ud x1.2.2 153 0 x1.2.1) fun g2 =>
    some ((0 : Int), g2))
  else if x1.1 = 2 then (
      some ((2 : Int), x1.2.2))
  else if x1.1 = 3 then (
        some ((1 : Int), x1.2.2))
  else if x1.1 = 4 then (
          some ((3 : Int), x1.2.2))
  else none
theorem wn12 {Γ : q_Γ} (hG : q_GG Γ) {v1 : Int} {v2 : Int} (hr1 : q_r32 v1) (hr2 : q_r32 v2) {h : q_F} (hA : q_Al 0 155 h) {r : Int × q_F} (hf : fn12 v1 v2 h = some r) :
    q_M Γ q_K 155 12 [(2, Int.ofNat 0), (0, v1), (0, v2), (2, Int.ofNat 153)] h (q_PW 0 155 0 0 r) := by
  unfold fn12 at hf
  refine q_M.of (by decide) (Nat.le_of_ble_eq_true rfl) hG ?_
  refine r_aload_n c12_0 rfl rfl ?_
  refine r_iconst c12_1 rfl ?_
  refine r_aload_n c12_2 rfl rfl ?_
  refine r_iload_n c12_3 rfl rfl ?_
  refine r_iload_n c12_4 rfl rfl ?_
  obtain ⟨x1, e1, hf⟩ := q_bd_i hf
  refine r_vcG c12_5 (by decide) (by decide) rfl rfl rfl rfl (wn184 hG hr1 hr2 hA e1) ?_
  intro t1 w1 k1 p1
  obtain ⟨rfl, hw1, rfl, hA_x1⟩ := p1
  rcases qx_sp hf with ⟨c1, hf⟩ | ⟨c1, hf⟩
  · obtain ⟨rfl, hv1⟩ := hw1 c1
    refine Or.inr (Or.inl ⟨c1, ?_⟩)
    refine r_i2l c12_8 (q_w32_r hv1) rfl ?_
    refine x_last hA_x1 c12_9 (by decide) rfl (by decide) ⟨by decide, by decide⟩ (by decide) (by decide) (show Int.toNat (0 : Int) = 0 from rfl) (q_r34 hv1) rfl ?_
    intro g2 e_g2 hA_g2
    replace hf := q_let_i hf e_g2
    refine r_goto c12_10 ?_
    refine r_iconst c12_25 rfl ?_
    cases q_so hf
    exact r_iret c12_26 ⟨rfl, rfl, rfl⟩ ⟨rfl, rfl, rfl, (⟨by decide, by decide⟩ : q_r32 (0 : Int)), hA_g2⟩
  · rcases qx_sp hf with ⟨c1e0, hf⟩ | ⟨c1e0, hf⟩
    · refine Or.inr (Or.inr ⟨0, c1e0, ?_⟩)
      refine Or.inl ⟨17, rfl, ?_⟩
      refine r_astore10 c12_17 (lo' := [(4, _), (0, _), (1, _), (2, _), (3, _)]) rfl rfl rfl ?_
      refine r_iconst c12_19 rfl ?_
      cases q_so hf
      exact r_iret c12_20 ⟨rfl, rfl, rfl⟩ ⟨rfl, rfl, rfl, (⟨by decide, by decide⟩ : q_r32 (2 : Int)), hA_x1⟩
    · rcases qx_sp hf with ⟨c1e1, hf⟩ | ⟨c1e1, hf⟩
      · refine Or.inr (Or.inr ⟨1, c1e1, ?_⟩)
        refine Or.inl ⟨13, rfl, ?_⟩
        refine r_astore10 c12_13 (lo' := [(4, _), (0, _), (1, _), (2, _), (3, _)]) rfl rfl rfl ?_
        refine r_iconst c12_15 rfl ?_
        cases q_so hf
        exact r_iret c12_16 ⟨rfl, rfl, rfl⟩ ⟨rfl, rfl, rfl, (⟨by decide, by decide⟩ : q_r32 (1 : Int)), hA_x1⟩
      · rcases qx_sp hf with ⟨c1e2, hf⟩ | ⟨c1e2, hf⟩
        · refine Or.inr (Or.inr ⟨2, c1e2, ?_⟩)
          refine Or.inl ⟨21, rfl, ?_⟩
          refine r_astore10 c12_21 (lo' := [(4, _), (0, _), (1, _), (2, _), (3, _)]) rfl rfl rfl ?_
          refine r_iconst c12_23 rfl ?_
          cases q_so hf
          exact r_iret c12_24 ⟨rfl, rfl, rfl⟩ ⟨rfl, rfl, rfl, (⟨by decide, by decide⟩ : q_r32 (3 : Int)), hA_x1⟩
        · cases hf
theorem c13_0 : q_cat 13 0 (.aload_n 2) 1 2 0 (0) := ⟨rfl, rfl⟩
theorem c13_1 : q_cat 13 1 (.iconst 0) 1 0 0 (0) := ⟨rfl, rfl⟩
theorem c13_2 : q_cat 13 2 (.aload_n 0) 1 0 0 (0) := ⟨rfl, rfl⟩
theorem c13_3 : q_cat 13 3 (.iload_n 1) 1 1 0 (0) := ⟨rfl, rfl⟩
theorem c13_4 : q_cat 13 4 (.invokevirtual 103) 3 185 0 (0) := ⟨rfl, rfl⟩
theorem c13_7 : q_cat 13 7 (.lastore) 1 0 0 (0) := ⟨rfl, rfl⟩
theorem c13_8 : q_cat 13 8 (.goto 6) 3 14 0 (0) := ⟨rfl, rfl⟩
theorem c13_11 : q_cat 13 11 (.astore_n 3) 1 3 0 (0) := ⟨rfl, rfl⟩
theorem c13_12 : q_cat 13 12 (.iconst 1) 1 0 0 (0) := ⟨rfl, rfl⟩
theorem c13_13 : q_cat 13 13 (.ireturn) 1 0 0 (0) := ⟨rfl, rfl⟩
theorem c13_14 : q_cat 13 14 (.iconst 0) 1 0 0 (0) := ⟨rfl, rfl⟩
theorem c13_15 : q_cat 13 15 (.ireturn) 1 0 0 (0) := ⟨rfl, rfl⟩
noncomputable def fn13 (v1 : Int) (h : q_F) : Option (Int × q_F) :=
  (fn185 v1 h).bind fun x1 =>
  if x1.1 = 1 then (
    q_let (q_ud x1.2.2 153 0 x1.2.1) fun g2 =>
    some ((0 : Int), g2))
  else if x1.1 = 3 then (
      some ((1 : Int), x1.2.2))
  else none
theorem wn13 {Γ : q_Γ} (hG : q_GG Γ) {v1 : Int} (hr1 : q_r32 v1) {h : q_F} (hA : q_Al 0 155 h) {r : Int × q_F} (hf : fn13 v1 h = some r) :
    q_M Γ q_K 155 13 [(2, Int.ofNat 0), (0, v1), (2, Int.ofNat 153)] h (q_PW 0 155 0 0 r) := by
  unfold fn13 at hf
  refine q_M.of (by decide) (Nat.le_of_ble_eq_true rfl) hG ?_
  refine r_aload_n c13_0 rfl rfl ?_
  refine r_iconst c13_1 rfl ?_
  refine r_aload_n c13_2 rfl rfl ?_
  refine r_iload_n c13_3 rfl rfl ?_
  obtain ⟨x1, e1, hf⟩ := q_bd_i hf
  refine r_vcG c13_4 (by decide) (by decide) rfl rfl rfl rfl (wn185 hG hr1 hA e1) ?_
  intro t1 w1 k1 p1
  obtain ⟨rfl, hw1, rfl, hA_x1⟩ := p1
  rcases qx_sp hf with ⟨c1, hf⟩ | ⟨c1, hf⟩
  · obtain ⟨rfl, hv1⟩ := hw1 c1
    refine Or.inr (Or.inl ⟨c1, ?_⟩)
    refine x_last hA_x1 c13_7 (by decide) rfl (by decide) ⟨by decide, by decide⟩ (by decide) (by decide) (show Int.toNat (0 : Int) = 0 from rfl) hv1 rfl ?_
    intro g2 e_g2 hA_g2
    replace hf := q_let_i hf e_g2
    refine r_goto c13_8 ?_
    refine r_iconst c13_14 rfl ?_
    cases q_so hf
    exact r_iret c13_15 ⟨rfl, rfl, rfl⟩ ⟨rfl, rfl, rfl, (⟨by decide, by decide⟩ : q_r32 (0 : Int)), hA_g2⟩
  · rcases qx_sp hf with ⟨c1e1, hf⟩ | ⟨c1e1, hf⟩
    · refine Or.inr (Or.inr ⟨1, c1e1, ?_⟩)
      refine Or.inl ⟨11, rfl, ?_⟩
      refine r_astore10_n c13_11 (lo' := [(3, _), (0, _), (1, _), (2, _)]) rfl rfl rfl ?_
      refine r_iconst c13_12 rfl ?_
      cases q_so hf
      exact r_iret c13_13 ⟨rfl, rfl, rfl⟩ ⟨rfl, rfl, rfl, (⟨by decide, by decide⟩ : q_r32 (1 : Int)), hA_x1⟩
    · cases hf
theorem c14_0 : q_cat 14 0 (.aload_n 2) 1 2 0 (0) := ⟨rfl, rfl⟩
theorem c14_1 : q_cat 14 1 (.iconst 0) 1 0 0 (0) := ⟨rfl, rfl⟩
theorem c14_2 : q_cat 14 2 (.aload_n 0) 1 0 0 (0) := ⟨rfl, rfl⟩
theorem c14_3 : q_cat 14 3 (.iload_n 1) 1 1 0 (0) := ⟨rfl, rfl⟩
theorem c14_4 : q_cat 14 4 (.invokevirtual 113) 3 186 0 (0) := ⟨rfl, rfl⟩
theorem c14_7 : q_cat 14 7 (.dastore) 1 0 0 (0) := ⟨rfl, rfl⟩
theorem c14_8 : q_cat 14 8 (.goto 6) 3 14 0 (0) := ⟨rfl, rfl⟩
theorem c14_11 : q_cat 14 11 (.astore_n 3) 1 3 0 (0) := ⟨rfl, rfl⟩
theorem c14_12 : q_cat 14 12 (.iconst 1) 1 0 0 (0) := ⟨rfl, rfl⟩
theorem c14_13 : q_cat 14 13 (.ireturn) 1 0 0 (0) := ⟨rfl, rfl⟩
theorem c14_14 : q_cat 14 14 (.iconst 0) 1 0 0 (0) := ⟨rfl, rfl⟩
theorem c14_15 : q_cat 14 15 (.ireturn) 1 0 0 (0) := ⟨rfl, rfl⟩
noncomputable def fn14 (v1 : Int) (h : q_F) : Option (Int × q_F) :=
  (fn186 v1 h).bind fun x1 =>
  if x1.1 = 1 then (
    q_let (q_ud x1.2.2 154 0 x1.2.1) fun g2 =>
    some ((0 : Int), g2))
  else if x1.1 = 3 then (
      some ((1 : Int), x1.2.2))
  else none
theorem wn14 {Γ : q_Γ} (hG : q_GG Γ) {v1 : Int} (hr1 : q_r32 v1) {h : q_F} (hA : q_Al 0 155 h) {r : Int × q_F} (hf : fn14 v1 h = some r) :
    q_M Γ q_K 155 14 [(2, Int.ofNat 0), (0, v1), (2, Int.ofNat 154)] h (q_PW 0 155 0 0 r) := by
  unfold fn14 at hf
  refine q_M.of (by decide) (Nat.le_of_ble_eq_true rfl) hG ?_
  refine r_aload_n c14_0 rfl rfl ?_
  refine r_iconst c14_1 rfl ?_
  refine r_aload_n c14_2 rfl rfl ?_
  refine r_iload_n c14_3 rfl rfl ?_
  obtain ⟨x1, e1, hf⟩ := q_bd_i hf
  refine r_vcG c14_4 (by decide) (by decide) rfl rfl rfl rfl (wn186 hG hr1 hA e1) ?_
  intro t1 w1 k1 p1
  obtain ⟨rfl, hw1, rfl, hA_x1⟩ := p1
  rcases qx_sp hf with ⟨c1, hf⟩ | ⟨c1, hf⟩
  · obtain ⟨rfl, hv1⟩ := hw1 c1
    refine Or.inr (Or.inl ⟨c1, ?_⟩)
    refine x_dast hA_x1 c14_7 (by decide) rfl (by decide) ⟨by decide, by decide⟩ (by decide) (by decide) (show Int.toNat (0 : Int) = 0 from rfl) rfl ?_
    intro g2 e_g2 hA_g2
    replace hf := q_let_i hf e_g2
    refine r_goto c14_8 ?_
    refine r_iconst c14_14 rfl ?_
    cases q_so hf
    exact r_iret c14_15 ⟨rfl, rfl, rfl⟩ ⟨rfl, rfl, rfl, (⟨by decide, by decide⟩ : q_r32 (0 : Int)), hA_g2⟩
  · rcases qx_sp hf with ⟨c1e1, hf⟩ | ⟨c1e1, hf⟩
    · refine Or.inr (Or.inr ⟨1, c1e1, ?_⟩)
      refine Or.inl ⟨11, rfl, ?_⟩
      refine r_astore10_n c14_11 (lo' := [(3, _), (0, _), (1, _), (2, _)]) rfl rfl rfl ?_
      refine r_iconst c14_12 rfl ?_
      cases q_so hf
      exact r_iret c14_13 ⟨rfl, rfl, rfl⟩ ⟨rfl, rfl, rfl, (⟨by decide, by decide⟩ : q_r32 (1 : Int)), hA_x1⟩
    · cases hf
theorem c15_0 : q_cat 15 0 (.aload_n 2) 1 2 0 (0) := ⟨rfl, rfl⟩
theorem c15_1 : q_cat 15 1 (.iconst 0) 1 0 0 (0) := ⟨rfl, rfl⟩
theorem c15_2 : q_cat 15 2 (.aload_n 0) 1 0 0 (0) := ⟨rfl, rfl⟩
theorem c15_3 : q_cat 15 3 (.iload_n 1) 1 1 0 (0) := ⟨rfl, rfl⟩
theorem c15_4 : q_cat 15 4 (.invokevirtual 145) 3 188 0 (0) := ⟨rfl, rfl⟩
theorem c15_7 : q_cat 15 7 (.f2d) 1 0 0 (0) := ⟨rfl, rfl⟩
theorem c15_8 : q_cat 15 8 (.dastore) 1 0 0 (0) := ⟨rfl, rfl⟩
theorem c15_9 : q_cat 15 9 (.goto 6) 3 15 0 (0) := ⟨rfl, rfl⟩
theorem c15_12 : q_cat 15 12 (.astore_n 3) 1 3 0 (0) := ⟨rfl, rfl⟩
theorem c15_13 : q_cat 15 13 (.iconst 1) 1 0 0 (0) := ⟨rfl, rfl⟩
theorem c15_14 : q_cat 15 14 (.ireturn) 1 0 0 (0) := ⟨rfl, rfl⟩
theorem c15_15 : q_cat 15 15 (.iconst 0) 1 0 0 (0) := ⟨rfl, rfl⟩
theorem c15_16 : q_cat 15 16 (.ireturn) 1 0 0 (0) := ⟨rfl, rfl⟩
noncomputable def fn15 (v1 : Int) (h : q_F) : Option (Int × q_F) :=
  (fn188 v1 h).bind fun x1 =>
  if x1.1 = 1 then (
    if q_n64 (FP.f2d (UInt32.ofNat (x1.2.1).toNat)) = true then
    q_let (q_ud x1.2.2 154 0 (q_f2d x1.2.1)) fun g3 =>
    some ((0 : Int), g3)
    else none)
  else if x1.1 = 3 then (
      some ((1 : Int), x1.2.2))
  else none
theorem wn15 {Γ : q_Γ} (hG : q_GG Γ) {v1 : Int} (hr1 : q_r32 v1) {h : q_F} (hA : q_Al 0 155 h) {r : Int × q_F} (hf : fn15 v1 h = some r) :
    q_M Γ q_K 155 15 [(2, Int.ofNat 0), (0, v1), (2, Int.ofNat 154)] h (q_PW 0 155 0 0 r) := by
  unfold fn15 at hf
  refine q_M.of (by decide) (Nat.le_of_ble_eq_true rfl) hG ?_
  refine r_aload_n c15_0 rfl rfl ?_
  refine r_iconst c15_1 rfl ?_
  refine r_aload_n c15_2 rfl rfl ?_
  refine r_iload_n c15_3 rfl rfl ?_
  obtain ⟨x1, e1, hf⟩ := q_bd_i hf
  refine r_vcG c15_4 (by decide) (by decide) rfl rfl rfl rfl (wn188 hG hr1 hA e1) ?_
  intro t1 w1 k1 p1
  obtain ⟨rfl, hw1, rfl, hA_x1⟩ := p1
  rcases qx_sp hf with ⟨c1, hf⟩ | ⟨c1, hf⟩
  · obtain ⟨rfl, hv1⟩ := hw1 c1
    refine Or.inr (Or.inl ⟨c1, ?_⟩)
    obtain ⟨b2, hf⟩ := qx_ck hf
    refine r_f2d c15_7 b2 (q_df_f2d x1.2.1) rfl ?_
    refine x_dast hA_x1 c15_8 (by decide) rfl (by decide) ⟨by decide, by decide⟩ (by decide) (by decide) (show Int.toNat (0 : Int) = 0 from rfl) rfl ?_
    intro g3 e_g3 hA_g3
    replace hf := q_let_i hf e_g3
    refine r_goto c15_9 ?_
    refine r_iconst c15_15 rfl ?_
    cases q_so hf
    exact r_iret c15_16 ⟨rfl, rfl, rfl⟩ ⟨rfl, rfl, rfl, (⟨by decide, by decide⟩ : q_r32 (0 : Int)), hA_g3⟩
  · rcases qx_sp hf with ⟨c1e1, hf⟩ | ⟨c1e1, hf⟩
    · refine Or.inr (Or.inr ⟨1, c1e1, ?_⟩)
      refine Or.inl ⟨12, rfl, ?_⟩
      refine r_astore10_n c15_12 (lo' := [(3, _), (0, _), (1, _), (2, _)]) rfl rfl rfl ?_
      refine r_iconst c15_13 rfl ?_
      cases q_so hf
      exact r_iret c15_14 ⟨rfl, rfl, rfl⟩ ⟨rfl, rfl, rfl, (⟨by decide, by decide⟩ : q_r32 (1 : Int)), hA_x1⟩
    · cases hf
theorem c16_0 : q_cat 16 0 (.aload_n 2) 1 2 0 (0) := ⟨rfl, rfl⟩
theorem c16_1 : q_cat 16 1 (.iconst 0) 1 0 0 (0) := ⟨rfl, rfl⟩
theorem c16_2 : q_cat 16 2 (.aload_n 0) 1 0 0 (0) := ⟨rfl, rfl⟩
theorem c16_3 : q_cat 16 3 (.iload_n 1) 1 1 0 (0) := ⟨rfl, rfl⟩
theorem c16_4 : q_cat 16 4 (.invokevirtual 117) 3 190 0 (0) := ⟨rfl, rfl⟩
theorem c16_7 : q_cat 16 7 (.dastore) 1 0 0 (0) := ⟨rfl, rfl⟩
theorem c16_8 : q_cat 16 8 (.goto 6) 3 14 0 (0) := ⟨rfl, rfl⟩
theorem c16_11 : q_cat 16 11 (.astore_n 3) 1 3 0 (0) := ⟨rfl, rfl⟩
theorem c16_12 : q_cat 16 12 (.iconst 1) 1 0 0 (0) := ⟨rfl, rfl⟩
theorem c16_13 : q_cat 16 13 (.ireturn) 1 0 0 (0) := ⟨rfl, rfl⟩
theorem c16_14 : q_cat 16 14 (.iconst 0) 1 0 0 (0) := ⟨rfl, rfl⟩
theorem c16_15 : q_cat 16 15 (.ireturn) 1 0 0 (0) := ⟨rfl, rfl⟩
noncomputable def fn16 (v1 : Int) (h : q_F) : Option (Int × q_F) :=
  (fn190 v1 h).bind fun x1 =>
  if x1.1 = 1 then (
    q_let (q_ud x1.2.2 154 0 x1.2.1) fun g2 =>
    some ((0 : Int), g2))
  else if x1.1 = 3 then (
      some ((1 : Int), x1.2.2))
  else none
theorem wn16 {Γ : q_Γ} (hG : q_GG Γ) {v1 : Int} (hr1 : q_r32 v1) {h : q_F} (hA : q_Al 0 155 h) {r : Int × q_F} (hf : fn16 v1 h = some r) :
    q_M Γ q_K 155 16 [(2, Int.ofNat 0), (0, v1), (2, Int.ofNat 154)] h (q_PW 0 155 0 0 r) := by
  unfold fn16 at hf
  refine q_M.of (by decide) (Nat.le_of_ble_eq_true rfl) hG ?_
  refine r_aload_n c16_0 rfl rfl ?_
  refine r_iconst c16_1 rfl ?_
  refine r_aload_n c16_2 rfl rfl ?_
  refine r_iload_n c16_3 rfl rfl ?_
  obtain ⟨x1, e1, hf⟩ := q_bd_i hf
  refine r_vcG c16_4 (by decide) (by decide) rfl rfl rfl rfl (wn190 hG hr1 hA e1) ?_
  intro t1 w1 k1 p1
  obtain ⟨rfl, hw1, rfl, hA_x1⟩ := p1
  rcases qx_sp hf with ⟨c1, hf⟩ | ⟨c1, hf⟩
  · obtain ⟨rfl, hv1⟩ := hw1 c1
    refine Or.inr (Or.inl ⟨c1, ?_⟩)
    refine x_dast hA_x1 c16_7 (by decide) rfl (by decide) ⟨by decide, by decide⟩ (by decide) (by decide) (show Int.toNat (0 : Int) = 0 from rfl) rfl ?_
    intro g2 e_g2 hA_g2
    replace hf := q_let_i hf e_g2
    refine r_goto c16_8 ?_
    refine r_iconst c16_14 rfl ?_
    cases q_so hf
    exact r_iret c16_15 ⟨rfl, rfl, rfl⟩ ⟨rfl, rfl, rfl, (⟨by decide, by decide⟩ : q_r32 (0 : Int)), hA_g2⟩
  · rcases qx_sp hf with ⟨c1e1, hf⟩ | ⟨c1e1, hf⟩
    · refine Or.inr (Or.inr ⟨1, c1e1, ?_⟩)
      refine Or.inl ⟨11, rfl, ?_⟩
      refine r_astore10_n c16_11 (lo' := [(3, _), (0, _), (1, _), (2, _)]) rfl rfl rfl ?_
      refine r_iconst c16_12 rfl ?_
      cases q_so hf
      exact r_iret c16_13 ⟨rfl, rfl, rfl⟩ ⟨rfl, rfl, rfl, (⟨by decide, by decide⟩ : q_r32 (1 : Int)), hA_x1⟩
    · cases hf
theorem c17_0 : q_cat 17 0 (.aload_n 3) 1 3 0 (0) := ⟨rfl, rfl⟩
theorem c17_1 : q_cat 17 1 (.iconst 0) 1 0 0 (0) := ⟨rfl, rfl⟩
theorem c17_2 : q_cat 17 2 (.aload_n 0) 1 0 0 (0) := ⟨rfl, rfl⟩
theorem c17_3 : q_cat 17 3 (.iload_n 1) 1 1 0 (0) := ⟨rfl, rfl⟩
theorem c17_4 : q_cat 17 4 (.iload_n 2) 1 2 0 (0) := ⟨rfl, rfl⟩
theorem c17_5 : q_cat 17 5 (.invokevirtual 61) 3 191 0 (0) := ⟨rfl, rfl⟩
theorem c17_8 : q_cat 17 8 (.i2l) 1 0 0 (0) := ⟨rfl, rfl⟩
theorem c17_9 : q_cat 17 9 (.lastore) 1 0 0 (0) := ⟨rfl, rfl⟩
theorem c17_10 : q_cat 17 10 (.goto 11) 3 21 0 (0) := ⟨rfl, rfl⟩
theorem c17_13 : q_cat 17 13 (.astore 4) 2 4 0 (0) := ⟨rfl, rfl⟩
theorem c17_15 : q_cat 17 15 (.iconst 1) 1 0 0 (0) := ⟨rfl, rfl⟩
theorem c17_16 : q_cat 17 16 (.ireturn) 1 0 0 (0) := ⟨rfl, rfl⟩
theorem c17_17 : q_cat 17 17 (.astore 4) 2 4 0 (0) := ⟨rfl, rfl⟩
theorem c17_19 : q_cat 17 19 (.iconst 2) 1 0 0 (0) := ⟨rfl, rfl⟩
theorem c17_20 : q_cat 17 20 (.ireturn) 1 0 0 (0) := ⟨rfl, rfl⟩
theorem c17_21 : q_cat 17 21 (.iconst 0) 1 0 0 (0) := ⟨rfl, rfl⟩
theorem c17_22 : q_cat 17 22 (.ireturn) 1 0 0 (0) := ⟨rfl, rfl⟩
noncomputable def fn17 (v1 : Int) (v2 : Int) (h : q_F) : Option (Int × q_F) :=
  (fn191 v1 v2 h).bind fun x1 =>
  if x1.1 = 1 then (
    q_let (q_ud x1.2.2 153 0 x1.2.1) fun g2 =>
    some ((0 : Int), g2))
  else if x1.1 = 2 then (
      some ((2 : Int), x1.2.2))
  else if x1.1 = 3 then (
        some ((1 : Int), x1.2.2))
  else none
theorem wn17 {Γ : q_Γ} (hG : q_GG Γ) {v1 : Int} {v2 : Int} (hr1 : q_r32 v1) (hr2 : q_r32 v2) {h : q_F} (hA : q_Al 0 155 h) {r : Int × q_F} (hf : fn17 v1 v2 h = some r) :
    q_M Γ q_K 155 17 [(2, Int.ofNat 0), (0, v1), (0, v2), (2, Int.ofNat 153)] h (q_PW 0 155 0 0 r) := by
  unfold fn17 at hf
  refine q_M.of (by decide) (Nat.le_of_ble_eq_true rfl) hG ?_
  refine r_aload_n c17_0 rfl rfl ?_
  refine r_iconst c17_1 rfl ?_
  refine r_aload_n c17_2 rfl rfl ?_
  refine r_iload_n c17_3 rfl rfl ?_
  refine r_iload_n c17_4 rfl rfl ?_
  obtain ⟨x1, e1, hf⟩ := q_bd_i hf
  refine r_vcG c17_5 (by decide) (by decide) rfl rfl rfl rfl (wn191 hG hr1 hr2 hA e1) ?_
  intro t1 w1 k1 p1
  obtain ⟨rfl, hw1, rfl, hA_x1⟩ := p1
  rcases qx_sp hf with ⟨c1, hf⟩ | ⟨c1, hf⟩
  · obtain ⟨rfl, hv1⟩ := hw1 c1
    refine Or.inr (Or.inl ⟨c1, ?_⟩)
    refine r_i2l c17_8 (q_w32_r hv1) rfl ?_
    refine x_last hA_x1 c17_9 (by decide) rfl (by decide) ⟨by decide, by decide⟩ (by decide) (by decide) (show Int.toNat (0 : Int) = 0 from rfl) (q_r34 hv1) rfl ?_
    intro g2 e_g2 hA_g2
    replace hf := q_let_i hf e_g2
    refine r_goto c17_10 ?_
    refine r_iconst c17_21 rfl ?_
    cases q_so hf
    exact r_iret c17_22 ⟨rfl, rfl, rfl⟩ ⟨rfl, rfl, rfl, (⟨by decide, by decide⟩ : q_r32 (0 : Int)), hA_g2⟩
  · rcases qx_sp hf with ⟨c1e0, hf⟩ | ⟨c1e0, hf⟩
    · refine Or.inr (Or.inr ⟨0, c1e0, ?_⟩)
      refine Or.inl ⟨17, rfl, ?_⟩
      refine r_astore10 c17_17 (lo' := [(4, _), (0, _), (1, _), (2, _), (3, _)]) rfl rfl rfl ?_
      refine r_iconst c17_19 rfl ?_
      cases q_so hf
      exact r_iret c17_20 ⟨rfl, rfl, rfl⟩ ⟨rfl, rfl, rfl, (⟨by decide, by decide⟩ : q_r32 (2 : Int)), hA_x1⟩
    · rcases qx_sp hf with ⟨c1e1, hf⟩ | ⟨c1e1, hf⟩
      · refine Or.inr (Or.inr ⟨1, c1e1, ?_⟩)
        refine Or.inl ⟨13, rfl, ?_⟩
        refine r_astore10 c17_13 (lo' := [(4, _), (0, _), (1, _), (2, _), (3, _)]) rfl rfl rfl ?_
        refine r_iconst c17_15 rfl ?_
        cases q_so hf
        exact r_iret c17_16 ⟨rfl, rfl, rfl⟩ ⟨rfl, rfl, rfl, (⟨by decide, by decide⟩ : q_r32 (1 : Int)), hA_x1⟩
      · cases hf
theorem c18_0 : q_cat 18 0 (.aload_n 2) 1 2 0 (0) := ⟨rfl, rfl⟩
theorem c18_1 : q_cat 18 1 (.iconst 0) 1 0 0 (0) := ⟨rfl, rfl⟩
theorem c18_2 : q_cat 18 2 (.aload_n 0) 1 0 0 (0) := ⟨rfl, rfl⟩
theorem c18_3 : q_cat 18 3 (.iload_n 1) 1 1 0 (0) := ⟨rfl, rfl⟩
theorem c18_4 : q_cat 18 4 (.invokevirtual 100) 3 193 0 (0) := ⟨rfl, rfl⟩
theorem c18_7 : q_cat 18 7 (.i2l) 1 0 0 (0) := ⟨rfl, rfl⟩
theorem c18_8 : q_cat 18 8 (.lastore) 1 0 0 (0) := ⟨rfl, rfl⟩
theorem c18_9 : q_cat 18 9 (.goto 6) 3 15 0 (0) := ⟨rfl, rfl⟩
theorem c18_12 : q_cat 18 12 (.astore_n 3) 1 3 0 (0) := ⟨rfl, rfl⟩
theorem c18_13 : q_cat 18 13 (.iconst 1) 1 0 0 (0) := ⟨rfl, rfl⟩
theorem c18_14 : q_cat 18 14 (.ireturn) 1 0 0 (0) := ⟨rfl, rfl⟩
theorem c18_15 : q_cat 18 15 (.iconst 0) 1 0 0 (0) := ⟨rfl, rfl⟩
theorem c18_16 : q_cat 18 16 (.ireturn) 1 0 0 (0) := ⟨rfl, rfl⟩
noncomputable def fn18 (v1 : Int) (h : q_F) : Option (Int × q_F) :=
  (fn193 v1 h).bind fun x1 =>
  if x1.1 = 1 then (
    q_let (q_ud x1.2.2 153 0 x1.2.1) fun g2 =>
    some ((0 : Int), g2))
  else if x1.1 = 5 then (
      some ((1 : Int), x1.2.2))
  else none
theorem wn18 {Γ : q_Γ} (hG : q_GG Γ) {v1 : Int} (hr1 : q_r32 v1) {h : q_F} (hA : q_Al 0 155 h) {r : Int × q_F} (hf : fn18 v1 h = some r) :
    q_M Γ q_K 155 18 [(2, Int.ofNat 0), (0, v1), (2, Int.ofNat 153)] h (q_PW 0 155 0 0 r) := by
  unfold fn18 at hf
  refine q_M.of (by decide) (Nat.le_of_ble_eq_true rfl) hG ?_
  refine r_aload_n c18_0 rfl rfl ?_
  refine r_iconst c18_1 rfl ?_
  refine r_aload_n c18_2 rfl rfl ?_
  refine r_iload_n c18_3 rfl rfl ?_
  obtain ⟨x1, e1, hf⟩ := q_bd_i hf
  refine r_vcG c18_4 (by decide) (by decide) rfl rfl rfl rfl (wn193 hG hr1 hA e1) ?_
  intro t1 w1 k1 p1
  obtain ⟨rfl, hw1, rfl, hA_x1⟩ := p1
  rcases qx_sp hf with ⟨c1, hf⟩ | ⟨c1, hf⟩
  · obtain ⟨rfl, hv1⟩ := hw1 c1
    refine Or.inr (Or.inl ⟨c1, ?_⟩)
    refine r_i2l c18_7 (q_w32_r hv1) rfl ?_
    refine x_last hA_x1 c18_8 (by decide) rfl (by decide) ⟨by decide, by decide⟩ (by decide) (by decide) (show Int.toNat (0 : Int) = 0 from rfl) (q_r34 hv1) rfl ?_
    intro g2 e_g2 hA_g2
    replace hf := q_let_i hf e_g2
    refine r_goto c18_9 ?_
    refine r_iconst c18_15 rfl ?_
    cases q_so hf
    exact r_iret c18_16 ⟨rfl, rfl, rfl⟩ ⟨rfl, rfl, rfl, (⟨by decide, by decide⟩ : q_r32 (0 : Int)), hA_g2⟩
  · rcases qx_sp hf with ⟨c1e3, hf⟩ | ⟨c1e3, hf⟩
    · refine Or.inr (Or.inr ⟨3, c1e3, ?_⟩)
      refine Or.inl ⟨12, rfl, ?_⟩
      refine r_astore10_n c18_12 (lo' := [(3, _), (0, _), (1, _), (2, _)]) rfl rfl rfl ?_
      refine r_iconst c18_13 rfl ?_
      cases q_so hf
      exact r_iret c18_14 ⟨rfl, rfl, rfl⟩ ⟨rfl, rfl, rfl, (⟨by decide, by decide⟩ : q_r32 (1 : Int)), hA_x1⟩
    · cases hf
theorem c19_0 : q_cat 19 0 (.aload 4) 2 4 0 (0) := ⟨rfl, rfl⟩
theorem c19_2 : q_cat 19 2 (.iconst 0) 1 0 0 (0) := ⟨rfl, rfl⟩
theorem c19_3 : q_cat 19 3 (.aload_n 0) 1 0 0 (0) := ⟨rfl, rfl⟩
theorem c19_4 : q_cat 19 4 (.iload_n 1) 1 1 0 (0) := ⟨rfl, rfl⟩
theorem c19_5 : q_cat 19 5 (.iload_n 2) 1 2 0 (0) := ⟨rfl, rfl⟩
theorem c19_6 : q_cat 19 6 (.iload_n 3) 1 3 0 (0) := ⟨rfl, rfl⟩
theorem c19_7 : q_cat 19 7 (.invokevirtual 87) 3 196 0 (0) := ⟨rfl, rfl⟩
theorem c19_10 : q_cat 19 10 (.i2l) 1 0 0 (0) := ⟨rfl, rfl⟩
theorem c19_11 : q_cat 19 11 (.lastore) 1 0 0 (0) := ⟨rfl, rfl⟩
theorem c19_12 : q_cat 19 12 (.goto 11) 3 23 0 (0) := ⟨rfl, rfl⟩
theorem c19_15 : q_cat 19 15 (.astore 5) 2 5 0 (0) := ⟨rfl, rfl⟩
theorem c19_17 : q_cat 19 17 (.iconst 1) 1 0 0 (0) := ⟨rfl, rfl⟩
theorem c19_18 : q_cat 19 18 (.ireturn) 1 0 0 (0) := ⟨rfl, rfl⟩
theorem c19_19 : q_cat 19 19 (.astore 5) 2 5 0 (0) := ⟨rfl, rfl⟩
theorem c19_21 : q_cat 19 21 (.iconst 2) 1 0 0 (0) := ⟨rfl, rfl⟩
theorem c19_22 : q_cat 19 22 (.ireturn) 1 0 0 (0) := ⟨rfl, rfl⟩
theorem c19_23 : q_cat 19 23 (.iconst 0) 1 0 0 (0) := ⟨rfl, rfl⟩
theorem c19_24 : q_cat 19 24 (.ireturn) 1 0 0 (0) := ⟨rfl, rfl⟩
noncomputable def fn19 (v1 : Int) (v2 : Int) (v3 : Int) (h : q_F) : Option (Int × q_F) :=
  (fn196 v1 v2 v3 h).bind fun x1 =>
  if x1.1 = 1 then (
    q_let (q_ud x1.2.2 153 0 x1.2.1) fun g2 =>
    some ((0 : Int), g2))
  else if x1.1 = 2 then (
      some ((2 : Int), x1.2.2))
  else if x1.1 = 3 then (
        some ((1 : Int), x1.2.2))
  else none
theorem wn19 {Γ : q_Γ} (hG : q_GG Γ) {v1 : Int} {v2 : Int} {v3 : Int} (hr1 : q_r32 v1) (hr2 : q_r32 v2) (hr3 : q_r32 v3) {h : q_F} (hA : q_Al 0 155 h) {r : Int × q_F} (hf : fn19 v1 v2 v3 h = some r) :
    q_M Γ q_K 155 19 [(2, Int.ofNat 0), (0, v1), (0, v2), (0, v3), (2, Int.ofNat 153)] h (q_PW 0 155 0 0 r) := by
  unfold fn19 at hf
  refine q_M.of (by decide) (Nat.le_of_ble_eq_true rfl) hG ?_
  refine r_aload c19_0 rfl rfl ?_
  refine r_iconst c19_2 rfl ?_
  refine r_aload_n c19_3 rfl rfl ?_
  refine r_iload_n c19_4 rfl rfl ?_
  refine r_iload_n c19_5 rfl rfl ?_
  refine r_iload_n c19_6 rfl rfl ?_
  obtain ⟨x1, e1, hf⟩ := q_bd_i hf
  refine r_vcG c19_7 (by decide) (by decide) rfl rfl rfl rfl (wn196 hG hr1 hr2 hr3 hA e1) ?_
  intro t1 w1 k1 p1
  obtain ⟨rfl, hw1, rfl, hA_x1⟩ := p1
  rcases qx_sp hf with ⟨c1, hf⟩ | ⟨c1, hf⟩
  · obtain ⟨rfl, hv1⟩ := hw1 c1
    refine Or.inr (Or.inl ⟨c1, ?_⟩)
    refine r_i2l c19_10 (q_w32_r hv1) rfl ?_
    refine x_last hA_x1 c19_11 (by decide) rfl (by decide) ⟨by decide, by decide⟩ (by decide) (by decide) (show Int.toNat (0 : Int) = 0 from rfl) (q_r34 hv1) rfl ?_
    intro g2 e_g2 hA_g2
    replace hf := q_let_i hf e_g2
    refine r_goto c19_12 ?_
    refine r_iconst c19_23 rfl ?_
    cases q_so hf
    exact r_iret c19_24 ⟨rfl, rfl, rfl⟩ ⟨rfl, rfl, rfl, (⟨by decide, by decide⟩ : q_r32 (0 : Int)), hA_g2⟩
  · rcases qx_sp hf with ⟨c1e0, hf⟩ | ⟨c1e0, hf⟩
    · refine Or.inr (Or.inr ⟨0, c1e0, ?_⟩)
      refine Or.inl ⟨19, rfl, ?_⟩
      refine r_astore10 c19_19 (lo' := [(5, _), (0, _), (1, _), (2, _), (3, _), (4, _)]) rfl rfl rfl ?_
      refine r_iconst c19_21 rfl ?_
      cases q_so hf
      exact r_iret c19_22 ⟨rfl, rfl, rfl⟩ ⟨rfl, rfl, rfl, (⟨by decide, by decide⟩ : q_r32 (2 : Int)), hA_x1⟩
    · rcases qx_sp hf with ⟨c1e1, hf⟩ | ⟨c1e1, hf⟩
      · refine Or.inr (Or.inr ⟨1, c1e1, ?_⟩)
        refine Or.inl ⟨15, rfl, ?_⟩
        refine r_astore10 c19_15 (lo' := [(5, _), (0, _), (1, _), (2, _), (3, _), (4, _)]) rfl rfl rfl ?_
        refine r_iconst c19_17 rfl ?_
        cases q_so hf
        exact r_iret c19_18 ⟨rfl, rfl, rfl⟩ ⟨rfl, rfl, rfl, (⟨by decide, by decide⟩ : q_r32 (1 : Int)), hA_x1⟩
      · cases hf
theorem c20_0 : q_cat 20 0 (.aload 4) 2 4 0 (0) := ⟨rfl, rfl⟩
theorem c20_2 : q_cat 20 2 (.iconst 0) 1 0 0 (0) := ⟨rfl, rfl⟩
theorem c20_3 : q_cat 20 3 (.aload_n 0) 1 0 0 (0) := ⟨rfl, rfl⟩
theorem c20_4 : q_cat 20 4 (.iload_n 1) 1 1 0 (0) := ⟨rfl, rfl⟩
theorem c20_5 : q_cat 20 5 (.iload_n 2) 1 2 0 (0) := ⟨rfl, rfl⟩
theorem c20_6 : q_cat 20 6 (.iload_n 3) 1 3 0 (0) := ⟨rfl, rfl⟩
theorem c20_7 : q_cat 20 7 (.invokevirtual 39) 3 198 0 (0) := ⟨rfl, rfl⟩
theorem c20_10 : q_cat 20 10 (.i2l) 1 0 0 (0) := ⟨rfl, rfl⟩
theorem c20_11 : q_cat 20 11 (.lastore) 1 0 0 (0) := ⟨rfl, rfl⟩
theorem c20_12 : q_cat 20 12 (.goto 11) 3 23 0 (0) := ⟨rfl, rfl⟩
theorem c20_15 : q_cat 20 15 (.astore 5) 2 5 0 (0) := ⟨rfl, rfl⟩
theorem c20_17 : q_cat 20 17 (.iconst 1) 1 0 0 (0) := ⟨rfl, rfl⟩
theorem c20_18 : q_cat 20 18 (.ireturn) 1 0 0 (0) := ⟨rfl, rfl⟩
theorem c20_19 : q_cat 20 19 (.astore 5) 2 5 0 (0) := ⟨rfl, rfl⟩
theorem c20_21 : q_cat 20 21 (.iconst 2) 1 0 0 (0) := ⟨rfl, rfl⟩
theorem c20_22 : q_cat 20 22 (.ireturn) 1 0 0 (0) := ⟨rfl, rfl⟩
theorem c20_23 : q_cat 20 23 (.iconst 0) 1 0 0 (0) := ⟨rfl, rfl⟩
theorem c20_24 : q_cat 20 24 (.ireturn) 1 0 0 (0) := ⟨rfl, rfl⟩
noncomputable def fn20 (v1 : Int) (v2 : Int) (v3 : Int) (h : q_F) : Option (Int × q_F) :=
  (fn198 v1 v2 v3 h).bind fun x1 =>
  if x1.1 = 1 then (
    q_let (q_ud x1.2.2 153 0 x1.2.1) fun g2 =>
    some ((0 : Int), g2))
  else if x1.1 = 2 then (
      some ((1 : Int), x1.2.2))
  else if x1.1 = 4 then (
        some ((2 : Int), x1.2.2))
  else none
theorem wn20 {Γ : q_Γ} (hG : q_GG Γ) {v1 : Int} {v2 : Int} {v3 : Int} (hr1 : q_r32 v1) (hr2 : q_r32 v2) (hr3 : q_r32 v3) {h : q_F} (hA : q_Al 0 155 h) {r : Int × q_F} (hf : fn20 v1 v2 v3 h = some r) :
    q_M Γ q_K 155 20 [(2, Int.ofNat 0), (0, v1), (0, v2), (0, v3), (2, Int.ofNat 153)] h (q_PW 0 155 0 0 r) := by
  unfold fn20 at hf
  refine q_M.of (by decide) (Nat.le_of_ble_eq_true rfl) hG ?_
  refine r_aload c20_0 rfl rfl ?_
  refine r_iconst c20_2 rfl ?_
  refine r_aload_n c20_3 rfl rfl ?_
  refine r_iload_n c20_4 rfl rfl ?_
  refine r_iload_n c20_5 rfl rfl ?_
  refine r_iload_n c20_6 rfl rfl ?_
  obtain ⟨x1, e1, hf⟩ := q_bd_i hf
  refine r_vcG c20_7 (by decide) (by decide) rfl rfl rfl rfl (wn198 hG hr1 hr2 hr3 hA e1) ?_
  intro t1 w1 k1 p1
  obtain ⟨rfl, hw1, rfl, hA_x1⟩ := p1
  rcases qx_sp hf with ⟨c1, hf⟩ | ⟨c1, hf⟩
  · obtain ⟨rfl, hv1⟩ := hw1 c1
    refine Or.inr (Or.inl ⟨c1, ?_⟩)
    refine r_i2l c20_10 (q_w32_r hv1) rfl ?_
    refine x_last hA_x1 c20_11 (by decide) rfl (by decide) ⟨by decide, by decide⟩ (by decide) (by decide) (show Int.toNat (0 : Int) = 0 from rfl) (q_r34 hv1) rfl ?_
    intro g2 e_g2 hA_g2
    replace hf := q_let_i hf e_g2
    refine r_goto c20_12 ?_
    refine r_iconst c20_23 rfl ?_
    cases q_so hf
    exact r_iret c20_24 ⟨rfl, rfl, rfl⟩ ⟨rfl, rfl, rfl, (⟨by decide, by decide⟩ : q_r32 (0 : Int)), hA_g2⟩
  · rcases qx_sp hf with ⟨c1e0, hf⟩ | ⟨c1e0, hf⟩
    · refine Or.inr (Or.inr ⟨0, c1e0, ?_⟩)
      refine Or.inl ⟨15, rfl, ?_⟩
      refine r_astore10 c20_15 (lo' := [(5, _), (0, _), (1, _), (2, _), (3, _), (4, _)]) rfl rfl rfl ?_
      refine r_iconst c20_17 rfl ?_
      cases q_so hf
      exact r_iret c20_18 ⟨rfl, rfl, rfl⟩ ⟨rfl, rfl, rfl, (⟨by decide, by decide⟩ : q_r32 (1 : Int)), hA_x1⟩
    · rcases qx_sp hf with ⟨c1e2, hf⟩ | ⟨c1e2, hf⟩
      · refine Or.inr (Or.inr ⟨2, c1e2, ?_⟩)
        refine Or.inl ⟨19, rfl, ?_⟩
        refine r_astore10 c20_19 (lo' := [(5, _), (0, _), (1, _), (2, _), (3, _), (4, _)]) rfl rfl rfl ?_
        refine r_iconst c20_21 rfl ?_
        cases q_so hf
        exact r_iret c20_22 ⟨rfl, rfl, rfl⟩ ⟨rfl, rfl, rfl, (⟨by decide, by decide⟩ : q_r32 (2 : Int)), hA_x1⟩
      · cases hf
theorem c21_0 : q_cat 21 0 (.aload_n 3) 1 3 0 (0) := ⟨rfl, rfl⟩
theorem c21_1 : q_cat 21 1 (.iconst 0) 1 0 0 (0) := ⟨rfl, rfl⟩
theorem c21_2 : q_cat 21 2 (.aload_n 0) 1 0 0 (0) := ⟨rfl, rfl⟩
theorem c21_3 : q_cat 21 3 (.iload_n 1) 1 1 0 (0) := ⟨rfl, rfl⟩
theorem c21_4 : q_cat 21 4 (.iload_n 2) 1 2 0 (0) := ⟨rfl, rfl⟩
theorem c21_5 : q_cat 21 5 (.invokevirtual 90) 3 202 0 (0) := ⟨rfl, rfl⟩
theorem c21_8 : q_cat 21 8 (.i2l) 1 0 0 (0) := ⟨rfl, rfl⟩
theorem c21_9 : q_cat 21 9 (.lastore) 1 0 0 (0) := ⟨rfl, rfl⟩
theorem c21_10 : q_cat 21 10 (.goto 7) 3 17 0 (0) := ⟨rfl, rfl⟩
theorem c21_13 : q_cat 21 13 (.astore 4) 2 4 0 (0) := ⟨rfl, rfl⟩
theorem c21_15 : q_cat 21 15 (.iconst 1) 1 0 0 (0) := ⟨rfl, rfl⟩
theorem c21_16 : q_cat 21 16 (.ireturn) 1 0 0 (0) := ⟨rfl, rfl⟩
theorem c21_17 : q_cat 21 17 (.iconst 0) 1 0 0 (0) := ⟨rfl, rfl⟩
theorem c21_18 : q_cat 21 18 (.ireturn) 1 0 0 (0) := ⟨rfl, rfl⟩
noncomputable def fn21 (v1 : Int) (v2 : Int) (h : q_F) : Option (Int × q_F) :=
  (fn202 v1 v2 h).bind fun x1 =>
  if x1.1 = 1 then (
    q_let (q_ud x1.2.2 153 0 x1.2.1) fun g2 =>
    some ((0 : Int), g2))
  else if x1.1 = 3 then (
      some ((1 : Int), x1.2.2))
  else none
theorem wn21 {Γ : q_Γ} (hG : q_GG Γ) {v1 : Int} {v2 : Int} (hr1 : q_r32 v1) (hz2 : v2 = 0 ∨ v2 = 1) {h : q_F} (hA : q_Al 0 155 h) {r : Int × q_F} (hf : fn21 v1 v2 h = some r) :
    q_M Γ q_K 155 21 [(2, Int.ofNat 0), (0, v1), (0, v2), (2, Int.ofNat 153)] h (q_PW 0 155 0 0 r) := by
  unfold fn21 at hf
  refine q_M.of (by decide) (Nat.le_of_ble_eq_true rfl) hG ?_
  refine r_aload_n c21_0 rfl rfl ?_
  refine r_iconst c21_1 rfl ?_
  refine r_aload_n c21_2 rfl rfl ?_
  refine r_iload_n c21_3 rfl rfl ?_
  refine r_iload_n c21_4 rfl rfl ?_
  obtain ⟨x1, e1, hf⟩ := q_bd_i hf
  refine r_vcG c21_5 (by decide) (by decide) rfl rfl rfl rfl (wn202 hG hr1 hz2 hA e1) ?_
  intro t1 w1 k1 p1
  obtain ⟨rfl, hw1, rfl, hA_x1⟩ := p1
  rcases qx_sp hf with ⟨c1, hf⟩ | ⟨c1, hf⟩
  · obtain ⟨rfl, hv1⟩ := hw1 c1
    refine Or.inr (Or.inl ⟨c1, ?_⟩)
    refine r_i2l c21_8 (q_w32_r hv1) rfl ?_
    refine x_last hA_x1 c21_9 (by decide) rfl (by decide) ⟨by decide, by decide⟩ (by decide) (by decide) (show Int.toNat (0 : Int) = 0 from rfl) (q_r34 hv1) rfl ?_
    intro g2 e_g2 hA_g2
    replace hf := q_let_i hf e_g2
    refine r_goto c21_10 ?_
    refine r_iconst c21_17 rfl ?_
    cases q_so hf
    exact r_iret c21_18 ⟨rfl, rfl, rfl⟩ ⟨rfl, rfl, rfl, (⟨by decide, by decide⟩ : q_r32 (0 : Int)), hA_g2⟩
  · rcases qx_sp hf with ⟨c1e1, hf⟩ | ⟨c1e1, hf⟩
    · refine Or.inr (Or.inr ⟨1, c1e1, ?_⟩)
      refine Or.inl ⟨13, rfl, ?_⟩
      refine r_astore10 c21_13 (lo' := [(4, _), (0, _), (1, _), (2, _), (3, _)]) rfl rfl rfl ?_
      refine r_iconst c21_15 rfl ?_
      cases q_so hf
      exact r_iret c21_16 ⟨rfl, rfl, rfl⟩ ⟨rfl, rfl, rfl, (⟨by decide, by decide⟩ : q_r32 (1 : Int)), hA_x1⟩
    · cases hf
theorem c22_0 : q_cat 22 0 (.aload_n 2) 1 2 0 (0) := ⟨rfl, rfl⟩
theorem c22_1 : q_cat 22 1 (.iconst 0) 1 0 0 (0) := ⟨rfl, rfl⟩
theorem c22_2 : q_cat 22 2 (.aload_n 0) 1 0 0 (0) := ⟨rfl, rfl⟩
theorem c22_3 : q_cat 22 3 (.iload_n 1) 1 1 0 (0) := ⟨rfl, rfl⟩
theorem c22_4 : q_cat 22 4 (.invokevirtual 29) 3 204 0 (0) := ⟨rfl, rfl⟩
theorem c22_7 : q_cat 22 7 (.ifCond .eq 7) 3 14 0 (0) := ⟨rfl, rfl⟩
theorem c22_10 : q_cat 22 10 (.lconst 1) 1 0 0 (1) := ⟨rfl, rfl⟩
theorem c22_11 : q_cat 22 11 (.goto 4) 3 15 0 (0) := ⟨rfl, rfl⟩
theorem c22_14 : q_cat 22 14 (.lconst 0) 1 0 0 (0) := ⟨rfl, rfl⟩
theorem c22_15 : q_cat 22 15 (.lastore) 1 0 0 (0) := ⟨rfl, rfl⟩
theorem c22_16 : q_cat 22 16 (.goto 6) 3 22 0 (0) := ⟨rfl, rfl⟩
theorem c22_19 : q_cat 22 19 (.astore_n 3) 1 3 0 (0) := ⟨rfl, rfl⟩
theorem c22_20 : q_cat 22 20 (.iconst 1) 1 0 0 (0) := ⟨rfl, rfl⟩
theorem c22_21 : q_cat 22 21 (.ireturn) 1 0 0 (0) := ⟨rfl, rfl⟩
theorem c22_22 : q_cat 22 22 (.iconst 0) 1 0 0 (0) := ⟨rfl, rfl⟩
theorem c22_23 : q_cat 22 23 (.ireturn) 1 0 0 (0) := ⟨rfl, rfl⟩
noncomputable def fn22_15  (p0 : Int) (p1 : Int) (h : q_F) : Option (Int × q_F) :=
  if 0 ≤ p1 ∧ p1 < 1 then
  q_let (q_ud h 153 (p1).toNat p0) fun g3 =>
  some ((0 : Int), g3)
  else none
theorem wn22_15 {Γ : q_Γ} (hG : q_GG Γ)   {h : q_F} (hA : q_Al 0 155 h) {p0 : Int} {p1 : Int} (hr_p0 : q_r64 p0) (hz_p1 : p1 = 0 ∨ p1 = 1) {r : Int × q_F} (hf : fn22_15 p0 p1 h = some r) :
    q_R Γ q_K 155 22 (q_PW 0 155 0 0 r) (15, [], [(1, p0), (0, p1), (2, Int.ofNat 153)], q_hp q_K 155 h, [], 1, 6) := by
  unfold fn22_15 at hf
  obtain ⟨b4, hf⟩ := qx_ck hf
  refine x_last hA c22_15 (by decide) rfl (by decide) (q_z32 hz_p1) b4.1 b4.2 rfl hr_p0 rfl ?_
  intro g3 e_g3 hA_g3
  replace hf := q_let_i hf e_g3
  refine r_goto c22_16 ?_
  refine r_iconst c22_22 rfl ?_
  cases q_so hf
  exact r_iret c22_23 ⟨rfl, rfl, rfl⟩ ⟨rfl, rfl, rfl, (⟨by decide, by decide⟩ : q_r32 (0 : Int)), hA_g3⟩
noncomputable def fn22 (v1 : Int) (h : q_F) : Option (Int × q_F) :=
  (fn204 v1 h).bind fun x1 =>
  if x1.1 = 1 then (
    if x1.2.1 = 0 then (
      fn22_15 (0 : Int) (0 : Int) x1.2.2)
    else (
      fn22_15 (1 : Int) (0 : Int) x1.2.2))
  else if x1.1 = 3 then (
      some ((1 : Int), x1.2.2))
  else none
theorem wn22 {Γ : q_Γ} (hG : q_GG Γ) {v1 : Int} (hr1 : q_r32 v1) {h : q_F} (hA : q_Al 0 155 h) {r : Int × q_F} (hf : fn22 v1 h = some r) :
    q_M Γ q_K 155 22 [(2, Int.ofNat 0), (0, v1), (2, Int.ofNat 153)] h (q_PW 0 155 0 0 r) := by
  unfold fn22 at hf
  refine q_M.of (by decide) (Nat.le_of_ble_eq_true rfl) hG ?_
  refine r_aload_n c22_0 rfl rfl ?_
  refine r_iconst c22_1 rfl ?_
  refine r_aload_n c22_2 rfl rfl ?_
  refine r_iload_n c22_3 rfl rfl ?_
  obtain ⟨x1, e1, hf⟩ := q_bd_i hf
  refine r_vcG c22_4 (by decide) (by decide) rfl rfl rfl rfl (wn204 hG hr1 hA e1) ?_
  intro t1 w1 k1 p1
  obtain ⟨rfl, hw1, rfl, hA_x1⟩ := p1
  rcases qx_sp hf with ⟨c1, hf⟩ | ⟨c1, hf⟩
  · obtain ⟨rfl, hv1⟩ := hw1 c1
    refine Or.inr (Or.inl ⟨c1, ?_⟩)
    refine r_if_eq c22_7 rfl (q_w32_r (q_z32 hv1)) ?_ ?_
    · intro b2
      replace hf := qx_it hf b2.1
      refine r_lconst c22_14 rfl ?_
      refine q_R.wk (ks := []) (lo' := []) rfl ?_
      exact wn22_15 hG  hA_x1 (⟨by decide, by decide⟩ : q_r64 (0 : Int)) (by decide) hf
    · intro b2
      replace hf := qx_ie hf b2.1
      refine r_lconst c22_10 rfl ?_
      refine r_goto c22_11 ?_
      refine q_R.wk (ks := []) (lo' := []) rfl ?_
      exact wn22_15 hG  hA_x1 (⟨by decide, by decide⟩ : q_r64 (1 : Int)) (by decide) hf
  · rcases qx_sp hf with ⟨c1e1, hf⟩ | ⟨c1e1, hf⟩
    · refine Or.inr (Or.inr ⟨1, c1e1, ?_⟩)
      refine Or.inl ⟨19, rfl, ?_⟩
      refine r_astore10_n c22_19 (lo' := [(3, _), (0, _), (1, _), (2, _)]) rfl rfl rfl ?_
      refine r_iconst c22_20 rfl ?_
      cases q_so hf
      exact r_iret c22_21 ⟨rfl, rfl, rfl⟩ ⟨rfl, rfl, rfl, (⟨by decide, by decide⟩ : q_r32 (1 : Int)), hA_x1⟩
    · cases hf
theorem c23_0 : q_cat 23 0 (.aload_n 1) 1 1 0 (0) := ⟨rfl, rfl⟩
theorem c23_1 : q_cat 23 1 (.iconst 0) 1 0 0 (0) := ⟨rfl, rfl⟩
theorem c23_2 : q_cat 23 2 (.aload_n 0) 1 0 0 (0) := ⟨rfl, rfl⟩
theorem c23_3 : q_cat 23 3 (.invokevirtual 148) 3 206 0 (0) := ⟨rfl, rfl⟩
theorem c23_6 : q_cat 23 6 (.i2l) 1 0 0 (0) := ⟨rfl, rfl⟩
theorem c23_7 : q_cat 23 7 (.lastore) 1 0 0 (0) := ⟨rfl, rfl⟩
theorem c23_8 : q_cat 23 8 (.goto 6) 3 14 0 (0) := ⟨rfl, rfl⟩
theorem c23_11 : q_cat 23 11 (.astore_n 2) 1 2 0 (0) := ⟨rfl, rfl⟩
theorem c23_12 : q_cat 23 12 (.iconst 1) 1 0 0 (0) := ⟨rfl, rfl⟩
theorem c23_13 : q_cat 23 13 (.ireturn) 1 0 0 (0) := ⟨rfl, rfl⟩
theorem c23_14 : q_cat 23 14 (.iconst 0) 1 0 0 (0) := ⟨rfl, rfl⟩
theorem c23_15 : q_cat 23 15 (.ireturn) 1 0 0 (0) := ⟨rfl, rfl⟩
noncomputable def fn23  (h : q_F) : Option (Int × q_F) :=
  (fn206 h).bind fun x1 =>
  if x1.1 = 1 then (
    q_let (q_ud x1.2.2 153 0 x1.2.1) fun g2 =>
    some ((0 : Int), g2))
  else if x1.1 = 4 then (
      some ((1 : Int), x1.2.2))
  else none
theorem wn23 {Γ : q_Γ} (hG : q_GG Γ)   {h : q_F} (hA : q_Al 0 155 h) {r : Int × q_F} (hf : fn23  h = some r) :
    q_M Γ q_K 155 23 [(2, Int.ofNat 0), (2, Int.ofNat 153)] h (q_PW 0 155 0 0 r) := by
  unfold fn23 at hf
  refine q_M.of (by decide) (Nat.le_of_ble_eq_true rfl) hG ?_
  refine r_aload_n c23_0 rfl rfl ?_
  refine r_iconst c23_1 rfl ?_
  refine r_aload_n c23_2 rfl rfl ?_
  obtain ⟨x1, e1, hf⟩ := q_bd_i hf
  refine r_vcG c23_3 (by decide) (by decide) rfl rfl rfl rfl (wn206 hG  hA e1) ?_
  intro t1 w1 k1 p1
  obtain ⟨rfl, hw1, rfl, hA_x1⟩ := p1
  rcases qx_sp hf with ⟨c1, hf⟩ | ⟨c1, hf⟩
  · obtain ⟨rfl, hv1⟩ := hw1 c1
    refine Or.inr (Or.inl ⟨c1, ?_⟩)
    refine r_i2l c23_6 (q_w32_r hv1) rfl ?_
    refine x_last hA_x1 c23_7 (by decide) rfl (by decide) ⟨by decide, by decide⟩ (by decide) (by decide) (show Int.toNat (0 : Int) = 0 from rfl) (q_r34 hv1) rfl ?_
    intro g2 e_g2 hA_g2
    replace hf := q_let_i hf e_g2
    refine r_goto c23_8 ?_
    refine r_iconst c23_14 rfl ?_
    cases q_so hf
    exact r_iret c23_15 ⟨rfl, rfl, rfl⟩ ⟨rfl, rfl, rfl, (⟨by decide, by decide⟩ : q_r32 (0 : Int)), hA_g2⟩
  · rcases qx_sp hf with ⟨c1e2, hf⟩ | ⟨c1e2, hf⟩
    · refine Or.inr (Or.inr ⟨2, c1e2, ?_⟩)
      refine Or.inl ⟨11, rfl, ?_⟩
      refine r_astore10_n c23_11 (lo' := [(2, _), (0, _), (1, _)]) rfl rfl rfl ?_
      refine r_iconst c23_12 rfl ?_
      cases q_so hf
      exact r_iret c23_13 ⟨rfl, rfl, rfl⟩ ⟨rfl, rfl, rfl, (⟨by decide, by decide⟩ : q_r32 (1 : Int)), hA_x1⟩
    · cases hf
theorem c24_0 : q_cat 24 0 (.aload_n 2) 1 2 0 (0) := ⟨rfl, rfl⟩
theorem c24_1 : q_cat 24 1 (.iconst 0) 1 0 0 (0) := ⟨rfl, rfl⟩
theorem c24_2 : q_cat 24 2 (.aload_n 0) 1 0 0 (0) := ⟨rfl, rfl⟩
theorem c24_3 : q_cat 24 3 (.iload_n 1) 1 1 0 (0) := ⟨rfl, rfl⟩
theorem c24_4 : q_cat 24 4 (.invokevirtual 49) 3 207 0 (0) := ⟨rfl, rfl⟩
theorem c24_7 : q_cat 24 7 (.i2l) 1 0 0 (0) := ⟨rfl, rfl⟩
theorem c24_8 : q_cat 24 8 (.lastore) 1 0 0 (0) := ⟨rfl, rfl⟩
theorem c24_9 : q_cat 24 9 (.goto 9) 3 18 0 (0) := ⟨rfl, rfl⟩
theorem c24_12 : q_cat 24 12 (.astore_n 3) 1 3 0 (0) := ⟨rfl, rfl⟩
theorem c24_13 : q_cat 24 13 (.iconst 1) 1 0 0 (0) := ⟨rfl, rfl⟩
theorem c24_14 : q_cat 24 14 (.ireturn) 1 0 0 (0) := ⟨rfl, rfl⟩
theorem c24_15 : q_cat 24 15 (.astore_n 3) 1 3 0 (0) := ⟨rfl, rfl⟩
theorem c24_16 : q_cat 24 16 (.iconst 2) 1 0 0 (0) := ⟨rfl, rfl⟩
theorem c24_17 : q_cat 24 17 (.ireturn) 1 0 0 (0) := ⟨rfl, rfl⟩
theorem c24_18 : q_cat 24 18 (.iconst 0) 1 0 0 (0) := ⟨rfl, rfl⟩
theorem c24_19 : q_cat 24 19 (.ireturn) 1 0 0 (0) := ⟨rfl, rfl⟩
noncomputable def fn24 (v1 : Int) (h : q_F) : Option (Int × q_F) :=
  (fn207 v1 h).bind fun x1 =>
  if x1.1 = 1 then (
    q_let (q_ud x1.2.2 153 0 x1.2.1) fun g2 =>
    some ((0 : Int), g2))
  else if x1.1 = 2 then (
      some ((1 : Int), x1.2.2))
  else if x1.1 = 5 then (
        some ((2 : Int), x1.2.2))
  else none
theorem wn24 {Γ : q_Γ} (hG : q_GG Γ) {v1 : Int} (hr1 : q_r32 v1) {h : q_F} (hA : q_Al 0 155 h) {r : Int × q_F} (hf : fn24 v1 h = some r) :
    q_M Γ q_K 155 24 [(2, Int.ofNat 0), (0, v1), (2, Int.ofNat 153)] h (q_PW 0 155 0 0 r) := by
  unfold fn24 at hf
  refine q_M.of (by decide) (Nat.le_of_ble_eq_true rfl) hG ?_
  refine r_aload_n c24_0 rfl rfl ?_
  refine r_iconst c24_1 rfl ?_
  refine r_aload_n c24_2 rfl rfl ?_
  refine r_iload_n c24_3 rfl rfl ?_
  obtain ⟨x1, e1, hf⟩ := q_bd_i hf
  refine r_vcG c24_4 (by decide) (by decide) rfl rfl rfl rfl (wn207 hG hr1 hA e1) ?_
  intro t1 w1 k1 p1
  obtain ⟨rfl, hw1, rfl, hA_x1⟩ := p1
  rcases qx_sp hf with ⟨c1, hf⟩ | ⟨c1, hf⟩
  · obtain ⟨rfl, hv1⟩ := hw1 c1
    refine Or.inr (Or.inl ⟨c1, ?_⟩)
    refine r_i2l c24_7 (q_w32_r hv1) rfl ?_
    refine x_last hA_x1 c24_8 (by decide) rfl (by decide) ⟨by decide, by decide⟩ (by decide) (by decide) (show Int.toNat (0 : Int) = 0 from rfl) (q_r34 hv1) rfl ?_
    intro g2 e_g2 hA_g2
    replace hf := q_let_i hf e_g2
    refine r_goto c24_9 ?_
    refine r_iconst c24_18 rfl ?_
    cases q_so hf
    exact r_iret c24_19 ⟨rfl, rfl, rfl⟩ ⟨rfl, rfl, rfl, (⟨by decide, by decide⟩ : q_r32 (0 : Int)), hA_g2⟩
  · rcases qx_sp hf with ⟨c1e0, hf⟩ | ⟨c1e0, hf⟩
    · refine Or.inr (Or.inr ⟨0, c1e0, ?_⟩)
      refine Or.inl ⟨12, rfl, ?_⟩
      refine r_astore10_n c24_12 (lo' := [(3, _), (0, _), (1, _), (2, _)]) rfl rfl rfl ?_
      refine r_iconst c24_13 rfl ?_
      cases q_so hf
      exact r_iret c24_14 ⟨rfl, rfl, rfl⟩ ⟨rfl, rfl, rfl, (⟨by decide, by decide⟩ : q_r32 (1 : Int)), hA_x1⟩
    · rcases qx_sp hf with ⟨c1e3, hf⟩ | ⟨c1e3, hf⟩
      · refine Or.inr (Or.inr ⟨3, c1e3, ?_⟩)
        refine Or.inl ⟨15, rfl, ?_⟩
        refine r_astore10_n c24_15 (lo' := [(3, _), (0, _), (1, _), (2, _)]) rfl rfl rfl ?_
        refine r_iconst c24_16 rfl ?_
        cases q_so hf
        exact r_iret c24_17 ⟨rfl, rfl, rfl⟩ ⟨rfl, rfl, rfl, (⟨by decide, by decide⟩ : q_r32 (2 : Int)), hA_x1⟩
      · cases hf
theorem c25_0 : q_cat 25 0 (.aload_n 2) 1 2 0 (0) := ⟨rfl, rfl⟩
theorem c25_1 : q_cat 25 1 (.iconst 0) 1 0 0 (0) := ⟨rfl, rfl⟩
theorem c25_2 : q_cat 25 2 (.aload_n 0) 1 0 0 (0) := ⟨rfl, rfl⟩
theorem c25_3 : q_cat 25 3 (.iload_n 1) 1 1 0 (0) := ⟨rfl, rfl⟩
theorem c25_4 : q_cat 25 4 (.invokevirtual 55) 3 212 0 (0) := ⟨rfl, rfl⟩
theorem c25_7 : q_cat 25 7 (.i2l) 1 0 0 (0) := ⟨rfl, rfl⟩
theorem c25_8 : q_cat 25 8 (.lastore) 1 0 0 (0) := ⟨rfl, rfl⟩
theorem c25_9 : q_cat 25 9 (.goto 6) 3 15 0 (0) := ⟨rfl, rfl⟩
theorem c25_12 : q_cat 25 12 (.astore_n 3) 1 3 0 (0) := ⟨rfl, rfl⟩
theorem c25_13 : q_cat 25 13 (.iconst 1) 1 0 0 (0) := ⟨rfl, rfl⟩
theorem c25_14 : q_cat 25 14 (.ireturn) 1 0 0 (0) := ⟨rfl, rfl⟩
theorem c25_15 : q_cat 25 15 (.iconst 0) 1 0 0 (0) := ⟨rfl, rfl⟩
theorem c25_16 : q_cat 25 16 (.ireturn) 1 0 0 (0) := ⟨rfl, rfl⟩
noncomputable def fn25 (v1 : Int) (h : q_F) : Option (Int × q_F) :=
  (fn212 v1 h).bind fun x1 =>
  if x1.1 = 1 then (
    q_let (q_ud x1.2.2 153 0 x1.2.1) fun g2 =>
    some ((0 : Int), g2))
  else if x1.1 = 2 then (
      some ((1 : Int), x1.2.2))
  else none
theorem wn25 {Γ : q_Γ} (hG : q_GG Γ) {v1 : Int} (hr1 : q_r32 v1) {h : q_F} (hA : q_Al 0 155 h) {r : Int × q_F} (hf : fn25 v1 h = some r) :
    q_M Γ q_K 155 25 [(2, Int.ofNat 0), (0, v1), (2, Int.ofNat 153)] h (q_PW 0 155 0 0 r) := by
  unfold fn25 at hf
  refine q_M.of (by decide) (Nat.le_of_ble_eq_true rfl) hG ?_
  refine r_aload_n c25_0 rfl rfl ?_
  refine r_iconst c25_1 rfl ?_
  refine r_aload_n c25_2 rfl rfl ?_
  refine r_iload_n c25_3 rfl rfl ?_
  obtain ⟨x1, e1, hf⟩ := q_bd_i hf
  refine r_vcG c25_4 (by decide) (by decide) rfl rfl rfl rfl (wn212 hG hr1 hA e1) ?_
  intro t1 w1 k1 p1
  obtain ⟨rfl, hw1, rfl, hA_x1⟩ := p1
  rcases qx_sp hf with ⟨c1, hf⟩ | ⟨c1, hf⟩
  · obtain ⟨rfl, hv1⟩ := hw1 c1
    refine Or.inr (Or.inl ⟨c1, ?_⟩)
    refine r_i2l c25_7 (q_w32_r hv1) rfl ?_
    refine x_last hA_x1 c25_8 (by decide) rfl (by decide) ⟨by decide, by decide⟩ (by decide) (by decide) (show Int.toNat (0 : Int) = 0 from rfl) (q_r34 hv1) rfl ?_
    intro g2 e_g2 hA_g2
    replace hf := q_let_i hf e_g2
    refine r_goto c25_9 ?_
    refine r_iconst c25_15 rfl ?_
    cases q_so hf
    exact r_iret c25_16 ⟨rfl, rfl, rfl⟩ ⟨rfl, rfl, rfl, (⟨by decide, by decide⟩ : q_r32 (0 : Int)), hA_g2⟩
  · rcases qx_sp hf with ⟨c1e0, hf⟩ | ⟨c1e0, hf⟩
    · refine Or.inr (Or.inr ⟨0, c1e0, ?_⟩)
      refine Or.inl ⟨12, rfl, ?_⟩
      refine r_astore10_n c25_12 (lo' := [(3, _), (0, _), (1, _), (2, _)]) rfl rfl rfl ?_
      refine r_iconst c25_13 rfl ?_
      cases q_so hf
      exact r_iret c25_14 ⟨rfl, rfl, rfl⟩ ⟨rfl, rfl, rfl, (⟨by decide, by decide⟩ : q_r32 (1 : Int)), hA_x1⟩
    · cases hf
theorem c26_0 : q_cat 26 0 (.aload_n 3) 1 3 0 (0) := ⟨rfl, rfl⟩
theorem c26_1 : q_cat 26 1 (.iconst 0) 1 0 0 (0) := ⟨rfl, rfl⟩
theorem c26_2 : q_cat 26 2 (.aload_n 0) 1 0 0 (0) := ⟨rfl, rfl⟩
theorem c26_3 : q_cat 26 3 (.iload_n 1) 1 1 0 (0) := ⟨rfl, rfl⟩
theorem c26_4 : q_cat 26 4 (.iload_n 2) 1 2 0 (0) := ⟨rfl, rfl⟩
theorem c26_5 : q_cat 26 5 (.invokevirtual 52) 3 213 0 (0) := ⟨rfl, rfl⟩
theorem c26_8 : q_cat 26 8 (.i2l) 1 0 0 (0) := ⟨rfl, rfl⟩
theorem c26_9 : q_cat 26 9 (.lastore) 1 0 0 (0) := ⟨rfl, rfl⟩
theorem c26_10 : q_cat 26 10 (.goto 11) 3 21 0 (0) := ⟨rfl, rfl⟩
theorem c26_13 : q_cat 26 13 (.astore 4) 2 4 0 (0) := ⟨rfl, rfl⟩
theorem c26_15 : q_cat 26 15 (.iconst 1) 1 0 0 (0) := ⟨rfl, rfl⟩
theorem c26_16 : q_cat 26 16 (.ireturn) 1 0 0 (0) := ⟨rfl, rfl⟩
theorem c26_17 : q_cat 26 17 (.astore 4) 2 4 0 (0) := ⟨rfl, rfl⟩
theorem c26_19 : q_cat 26 19 (.iconst 2) 1 0 0 (0) := ⟨rfl, rfl⟩
theorem c26_20 : q_cat 26 20 (.ireturn) 1 0 0 (0) := ⟨rfl, rfl⟩
theorem c26_21 : q_cat 26 21 (.iconst 0) 1 0 0 (0) := ⟨rfl, rfl⟩
theorem c26_22 : q_cat 26 22 (.ireturn) 1 0 0 (0) := ⟨rfl, rfl⟩
noncomputable def fn26 (v1 : Int) (v2 : Int) (h : q_F) : Option (Int × q_F) :=
  (fn213 v1 v2 h).bind fun x1 =>
  if x1.1 = 1 then (
    q_let (q_ud x1.2.2 153 0 x1.2.1) fun g2 =>
    some ((0 : Int), g2))
  else if x1.1 = 2 then (
      some ((2 : Int), x1.2.2))
  else if x1.1 = 3 then (
        some ((1 : Int), x1.2.2))
  else none
theorem wn26 {Γ : q_Γ} (hG : q_GG Γ) {v1 : Int} {v2 : Int} (hr1 : q_r32 v1) (hr2 : q_r32 v2) {h : q_F} (hA : q_Al 0 155 h) {r : Int × q_F} (hf : fn26 v1 v2 h = some r) :
    q_M Γ q_K 155 26 [(2, Int.ofNat 0), (0, v1), (0, v2), (2, Int.ofNat 153)] h (q_PW 0 155 0 0 r) := by
  unfold fn26 at hf
  refine q_M.of (by decide) (Nat.le_of_ble_eq_true rfl) hG ?_
  refine r_aload_n c26_0 rfl rfl ?_
  refine r_iconst c26_1 rfl ?_
  refine r_aload_n c26_2 rfl rfl ?_
  refine r_iload_n c26_3 rfl rfl ?_
  refine r_iload_n c26_4 rfl rfl ?_
  obtain ⟨x1, e1, hf⟩ := q_bd_i hf
  refine r_vcG c26_5 (by decide) (by decide) rfl rfl rfl rfl (wn213 hG hr1 hr2 hA e1) ?_
  intro t1 w1 k1 p1
  obtain ⟨rfl, hw1, rfl, hA_x1⟩ := p1
  rcases qx_sp hf with ⟨c1, hf⟩ | ⟨c1, hf⟩
  · obtain ⟨rfl, hv1⟩ := hw1 c1
    refine Or.inr (Or.inl ⟨c1, ?_⟩)
    refine r_i2l c26_8 (q_w32_r hv1) rfl ?_
    refine x_last hA_x1 c26_9 (by decide) rfl (by decide) ⟨by decide, by decide⟩ (by decide) (by decide) (show Int.toNat (0 : Int) = 0 from rfl) (q_r34 hv1) rfl ?_
    intro g2 e_g2 hA_g2
    replace hf := q_let_i hf e_g2
    refine r_goto c26_10 ?_
    refine r_iconst c26_21 rfl ?_
    cases q_so hf
    exact r_iret c26_22 ⟨rfl, rfl, rfl⟩ ⟨rfl, rfl, rfl, (⟨by decide, by decide⟩ : q_r32 (0 : Int)), hA_g2⟩
  · rcases qx_sp hf with ⟨c1e0, hf⟩ | ⟨c1e0, hf⟩
    · refine Or.inr (Or.inr ⟨0, c1e0, ?_⟩)
      refine Or.inl ⟨17, rfl, ?_⟩
      refine r_astore10 c26_17 (lo' := [(4, _), (0, _), (1, _), (2, _), (3, _)]) rfl rfl rfl ?_
      refine r_iconst c26_19 rfl ?_
      cases q_so hf
      exact r_iret c26_20 ⟨rfl, rfl, rfl⟩ ⟨rfl, rfl, rfl, (⟨by decide, by decide⟩ : q_r32 (2 : Int)), hA_x1⟩
    · rcases qx_sp hf with ⟨c1e1, hf⟩ | ⟨c1e1, hf⟩
      · refine Or.inr (Or.inr ⟨1, c1e1, ?_⟩)
        refine Or.inl ⟨13, rfl, ?_⟩
        refine r_astore10 c26_13 (lo' := [(4, _), (0, _), (1, _), (2, _), (3, _)]) rfl rfl rfl ?_
        refine r_iconst c26_15 rfl ?_
        cases q_so hf
        exact r_iret c26_16 ⟨rfl, rfl, rfl⟩ ⟨rfl, rfl, rfl, (⟨by decide, by decide⟩ : q_r32 (1 : Int)), hA_x1⟩
      · cases hf
theorem c27_0 : q_cat 27 0 (.aload_n 3) 1 3 0 (0) := ⟨rfl, rfl⟩
theorem c27_1 : q_cat 27 1 (.iconst 0) 1 0 0 (0) := ⟨rfl, rfl⟩
theorem c27_2 : q_cat 27 2 (.aload_n 0) 1 0 0 (0) := ⟨rfl, rfl⟩
theorem c27_3 : q_cat 27 3 (.iload_n 1) 1 1 0 (0) := ⟨rfl, rfl⟩
theorem c27_4 : q_cat 27 4 (.iload_n 2) 1 2 0 (0) := ⟨rfl, rfl⟩
theorem c27_5 : q_cat 27 5 (.invokevirtual 139) 3 214 0 (0) := ⟨rfl, rfl⟩
theorem c27_8 : q_cat 27 8 (.i2l) 1 0 0 (0) := ⟨rfl, rfl⟩
theorem c27_9 : q_cat 27 9 (.lastore) 1 0 0 (0) := ⟨rfl, rfl⟩
theorem c27_10 : q_cat 27 10 (.goto 7) 3 17 0 (0) := ⟨rfl, rfl⟩
theorem c27_13 : q_cat 27 13 (.astore 4) 2 4 0 (0) := ⟨rfl, rfl⟩
theorem c27_15 : q_cat 27 15 (.iconst 1) 1 0 0 (0) := ⟨rfl, rfl⟩
theorem c27_16 : q_cat 27 16 (.ireturn) 1 0 0 (0) := ⟨rfl, rfl⟩
theorem c27_17 : q_cat 27 17 (.iconst 0) 1 0 0 (0) := ⟨rfl, rfl⟩
theorem c27_18 : q_cat 27 18 (.ireturn) 1 0 0 (0) := ⟨rfl, rfl⟩
noncomputable def fn27 (v1 : Int) (v2 : Int) (h : q_F) : Option (Int × q_F) :=
  (fn214 v1 v2 h).bind fun x1 =>
  if x1.1 = 1 then (
    q_let (q_ud x1.2.2 153 0 x1.2.1) fun g2 =>
    some ((0 : Int), g2))
  else if x1.1 = 3 then (
      some ((1 : Int), x1.2.2))
  else none
theorem wn27 {Γ : q_Γ} (hG : q_GG Γ) {v1 : Int} {v2 : Int} (hr1 : q_r32 v1) (hz2 : v2 = 0 ∨ v2 = 1) {h : q_F} (hA : q_Al 0 155 h) {r : Int × q_F} (hf : fn27 v1 v2 h = some r) :
    q_M Γ q_K 155 27 [(2, Int.ofNat 0), (0, v1), (0, v2), (2, Int.ofNat 153)] h (q_PW 0 155 0 0 r) := by
  unfold fn27 at hf
  refine q_M.of (by decide) (Nat.le_of_ble_eq_true rfl) hG ?_
  refine r_aload_n c27_0 rfl rfl ?_
  refine r_iconst c27_1 rfl ?_
  refine r_aload_n c27_2 rfl rfl ?_
  refine r_iload_n c27_3 rfl rfl ?_
  refine r_iload_n c27_4 rfl rfl ?_
  obtain ⟨x1, e1, hf⟩ := q_bd_i hf
  refine r_vcG c27_5 (by decide) (by decide) rfl rfl rfl rfl (wn214 hG hr1 hz2 hA e1) ?_
  intro t1 w1 k1 p1
  obtain ⟨rfl, hw1, rfl, hA_x1⟩ := p1
  rcases qx_sp hf with ⟨c1, hf⟩ | ⟨c1, hf⟩
  · obtain ⟨rfl, hv1⟩ := hw1 c1
    refine Or.inr (Or.inl ⟨c1, ?_⟩)
    refine r_i2l c27_8 (q_w32_r hv1) rfl ?_
    refine x_last hA_x1 c27_9 (by decide) rfl (by decide) ⟨by decide, by decide⟩ (by decide) (by decide) (show Int.toNat (0 : Int) = 0 from rfl) (q_r34 hv1) rfl ?_
    intro g2 e_g2 hA_g2
    replace hf := q_let_i hf e_g2
    refine r_goto c27_10 ?_
    refine r_iconst c27_17 rfl ?_
    cases q_so hf
    exact r_iret c27_18 ⟨rfl, rfl, rfl⟩ ⟨rfl, rfl, rfl, (⟨by decide, by decide⟩ : q_r32 (0 : Int)), hA_g2⟩
  · rcases qx_sp hf with ⟨c1e1, hf⟩ | ⟨c1e1, hf⟩
    · refine Or.inr (Or.inr ⟨1, c1e1, ?_⟩)
      refine Or.inl ⟨13, rfl, ?_⟩
      refine r_astore10 c27_13 (lo' := [(4, _), (0, _), (1, _), (2, _), (3, _)]) rfl rfl rfl ?_
      refine r_iconst c27_15 rfl ?_
      cases q_so hf
      exact r_iret c27_16 ⟨rfl, rfl, rfl⟩ ⟨rfl, rfl, rfl, (⟨by decide, by decide⟩ : q_r32 (1 : Int)), hA_x1⟩
    · cases hf
theorem c28_0 : q_cat 28 0 (.aload_n 2) 1 2 0 (0) := ⟨rfl, rfl⟩
theorem c28_1 : q_cat 28 1 (.iconst 0) 1 0 0 (0) := ⟨rfl, rfl⟩
theorem c28_2 : q_cat 28 2 (.aload_n 0) 1 0 0 (0) := ⟨rfl, rfl⟩
theorem c28_3 : q_cat 28 3 (.iload_n 1) 1 1 0 (0) := ⟨rfl, rfl⟩
theorem c28_4 : q_cat 28 4 (.invokevirtual 94) 3 215 0 (0) := ⟨rfl, rfl⟩
theorem c28_7 : q_cat 28 7 (.i2l) 1 0 0 (0) := ⟨rfl, rfl⟩
theorem c28_8 : q_cat 28 8 (.lastore) 1 0 0 (0) := ⟨rfl, rfl⟩
theorem c28_9 : q_cat 28 9 (.goto 6) 3 15 0 (0) := ⟨rfl, rfl⟩
theorem c28_12 : q_cat 28 12 (.astore_n 3) 1 3 0 (0) := ⟨rfl, rfl⟩
theorem c28_13 : q_cat 28 13 (.iconst 1) 1 0 0 (0) := ⟨rfl, rfl⟩
theorem c28_14 : q_cat 28 14 (.ireturn) 1 0 0 (0) := ⟨rfl, rfl⟩
theorem c28_15 : q_cat 28 15 (.iconst 0) 1 0 0 (0) := ⟨rfl, rfl⟩
theorem c28_16 : q_cat 28 16 (.ireturn) 1 0 0 (0) := ⟨rfl, rfl⟩
noncomputable def fn28 (v1 : Int) (h : q_F) : Option (Int × q_F) :=
  (fn215 v1 h).bind fun x1 =>
  if x1.1 = 1 then (
    q_let (q_ud x1.2.2 153 0 x1.2.1) fun g2 =>
    some ((0 : Int), g2))
  else if x1.1 = 3 then (
      some ((1 : Int), x1.2.2))
  else none
theorem wn28 {Γ : q_Γ} (hG : q_GG Γ) {v1 : Int} (hr1 : q_r32 v1) {h : q_F} (hA : q_Al 0 155 h) {r : Int × q_F} (hf : fn28 v1 h = some r) :
    q_M Γ q_K 155 28 [(2, Int.ofNat 0), (0, v1), (2, Int.ofNat 153)] h (q_PW 0 155 0 0 r) := by
  unfold fn28 at hf
  refine q_M.of (by decide) (Nat.le_of_ble_eq_true rfl) hG ?_
  refine r_aload_n c28_0 rfl rfl ?_
  refine r_iconst c28_1 rfl ?_
  refine r_aload_n c28_2 rfl rfl ?_
  refine r_iload_n c28_3 rfl rfl ?_
  obtain ⟨x1, e1, hf⟩ := q_bd_i hf
  refine r_vcG c28_4 (by decide) (by decide) rfl rfl rfl rfl (wn215 hG hr1 hA e1) ?_
  intro t1 w1 k1 p1
  obtain ⟨rfl, hw1, rfl, hA_x1⟩ := p1
  rcases qx_sp hf with ⟨c1, hf⟩ | ⟨c1, hf⟩
  · obtain ⟨rfl, hv1⟩ := hw1 c1
    refine Or.inr (Or.inl ⟨c1, ?_⟩)
    refine r_i2l c28_7 (q_w32_r hv1) rfl ?_
    refine x_last hA_x1 c28_8 (by decide) rfl (by decide) ⟨by decide, by decide⟩ (by decide) (by decide) (show Int.toNat (0 : Int) = 0 from rfl) (q_r34 hv1) rfl ?_
    intro g2 e_g2 hA_g2
    replace hf := q_let_i hf e_g2
    refine r_goto c28_9 ?_
    refine r_iconst c28_15 rfl ?_
    cases q_so hf
    exact r_iret c28_16 ⟨rfl, rfl, rfl⟩ ⟨rfl, rfl, rfl, (⟨by decide, by decide⟩ : q_r32 (0 : Int)), hA_g2⟩
  · rcases qx_sp hf with ⟨c1e1, hf⟩ | ⟨c1e1, hf⟩
    · refine Or.inr (Or.inr ⟨1, c1e1, ?_⟩)
      refine Or.inl ⟨12, rfl, ?_⟩
      refine r_astore10_n c28_12 (lo' := [(3, _), (0, _), (1, _), (2, _)]) rfl rfl rfl ?_
      refine r_iconst c28_13 rfl ?_
      cases q_so hf
      exact r_iret c28_14 ⟨rfl, rfl, rfl⟩ ⟨rfl, rfl, rfl, (⟨by decide, by decide⟩ : q_r32 (1 : Int)), hA_x1⟩
    · cases hf
theorem c29_0 : q_cat 29 0 (.aload_n 3) 1 3 0 (0) := ⟨rfl, rfl⟩
theorem c29_1 : q_cat 29 1 (.iconst 0) 1 0 0 (0) := ⟨rfl, rfl⟩
theorem c29_2 : q_cat 29 2 (.aload_n 0) 1 0 0 (0) := ⟨rfl, rfl⟩
theorem c29_3 : q_cat 29 3 (.iload_n 1) 1 1 0 (0) := ⟨rfl, rfl⟩
theorem c29_4 : q_cat 29 4 (.iload_n 2) 1 2 0 (0) := ⟨rfl, rfl⟩
theorem c29_5 : q_cat 29 5 (.invokevirtual 64) 3 216 0 (0) := ⟨rfl, rfl⟩
theorem c29_8 : q_cat 29 8 (.i2l) 1 0 0 (0) := ⟨rfl, rfl⟩
theorem c29_9 : q_cat 29 9 (.lastore) 1 0 0 (0) := ⟨rfl, rfl⟩
theorem c29_10 : q_cat 29 10 (.goto 11) 3 21 0 (0) := ⟨rfl, rfl⟩
theorem c29_13 : q_cat 29 13 (.astore 4) 2 4 0 (0) := ⟨rfl, rfl⟩
theorem c29_15 : q_cat 29 15 (.iconst 1) 1 0 0 (0) := ⟨rfl, rfl⟩
theorem c29_16 : q_cat 29 16 (.ireturn) 1 0 0 (0) := ⟨rfl, rfl⟩
theorem c29_17 : q_cat 29 17 (.astore 4) 2 4 0 (0) := ⟨rfl, rfl⟩
theorem c29_19 : q_cat 29 19 (.iconst 2) 1 0 0 (0) := ⟨rfl, rfl⟩
theorem c29_20 : q_cat 29 20 (.ireturn) 1 0 0 (0) := ⟨rfl, rfl⟩
theorem c29_21 : q_cat 29 21 (.iconst 0) 1 0 0 (0) := ⟨rfl, rfl⟩
theorem c29_22 : q_cat 29 22 (.ireturn) 1 0 0 (0) := ⟨rfl, rfl⟩
noncomputable def fn29 (v1 : Int) (v2 : Int) (h : q_F) : Option (Int × q_F) :=
  (fn216 v1 v2 h).bind fun x1 =>
  if x1.1 = 1 then (
    q_let (q_ud x1.2.2 153 0 x1.2.1) fun g2 =>
    some ((0 : Int), g2))
  else if x1.1 = 3 then (
      some ((1 : Int), x1.2.2))
  else if x1.1 = 5 then (
        some ((2 : Int), x1.2.2))
  else none
theorem wn29 {Γ : q_Γ} (hG : q_GG Γ) {v1 : Int} {v2 : Int} (hr1 : q_r32 v1) (hr2 : q_r32 v2) {h : q_F} (hA : q_Al 0 155 h) {r : Int × q_F} (hf : fn29 v1 v2 h = some r) :
    q_M Γ q_K 155 29 [(2, Int.ofNat 0), (0, v1), (0, v2), (2, Int.ofNat 153)] h (q_PW 0 155 0 0 r) := by
  unfold fn29 at hf
  refine q_M.of (by decide) (Nat.le_of_ble_eq_true rfl) hG ?_
  refine r_aload_n c29_0 rfl rfl ?_
  refine r_iconst c29_1 rfl ?_
  refine r_aload_n c29_2 rfl rfl ?_
  refine r_iload_n c29_3 rfl rfl ?_
  refine r_iload_n c29_4 rfl rfl ?_
  obtain ⟨x1, e1, hf⟩ := q_bd_i hf
  refine r_vcG c29_5 (by decide) (by decide) rfl rfl rfl rfl (wn216 hG hr1 hr2 hA e1) ?_
  intro t1 w1 k1 p1
  obtain ⟨rfl, hw1, rfl, hA_x1⟩ := p1
  rcases qx_sp hf with ⟨c1, hf⟩ | ⟨c1, hf⟩
  · obtain ⟨rfl, hv1⟩ := hw1 c1
    refine Or.inr (Or.inl ⟨c1, ?_⟩)
    refine r_i2l c29_8 (q_w32_r hv1) rfl ?_
    refine x_last hA_x1 c29_9 (by decide) rfl (by decide) ⟨by decide, by decide⟩ (by decide) (by decide) (show Int.toNat (0 : Int) = 0 from rfl) (q_r34 hv1) rfl ?_
    intro g2 e_g2 hA_g2
    replace hf := q_let_i hf e_g2
    refine r_goto c29_10 ?_
    refine r_iconst c29_21 rfl ?_
    cases q_so hf
    exact r_iret c29_22 ⟨rfl, rfl, rfl⟩ ⟨rfl, rfl, rfl, (⟨by decide, by decide⟩ : q_r32 (0 : Int)), hA_g2⟩
  · rcases qx_sp hf with ⟨c1e1, hf⟩ | ⟨c1e1, hf⟩
    · refine Or.inr (Or.inr ⟨1, c1e1, ?_⟩)
      refine Or.inl ⟨13, rfl, ?_⟩
      refine r_astore10 c29_13 (lo' := [(4, _), (0, _), (1, _), (2, _), (3, _)]) rfl rfl rfl ?_
      refine r_iconst c29_15 rfl ?_
      cases q_so hf
      exact r_iret c29_16 ⟨rfl, rfl, rfl⟩ ⟨rfl, rfl, rfl, (⟨by decide, by decide⟩ : q_r32 (1 : Int)), hA_x1⟩
    · rcases qx_sp hf with ⟨c1e3, hf⟩ | ⟨c1e3, hf⟩
      · refine Or.inr (Or.inr ⟨3, c1e3, ?_⟩)
        refine Or.inl ⟨17, rfl, ?_⟩
        refine r_astore10 c29_17 (lo' := [(4, _), (0, _), (1, _), (2, _), (3, _)]) rfl rfl rfl ?_
        refine r_iconst c29_19 rfl ?_
        cases q_so hf
        exact r_iret c29_20 ⟨rfl, rfl, rfl⟩ ⟨rfl, rfl, rfl, (⟨by decide, by decide⟩ : q_r32 (2 : Int)), hA_x1⟩
      · cases hf
theorem c30_0 : q_cat 30 0 (.aload 4) 2 4 0 (0) := ⟨rfl, rfl⟩
theorem c30_2 : q_cat 30 2 (.iconst 0) 1 0 0 (0) := ⟨rfl, rfl⟩
theorem c30_3 : q_cat 30 3 (.aload_n 0) 1 0 0 (0) := ⟨rfl, rfl⟩
theorem c30_4 : q_cat 30 4 (.iload_n 1) 1 1 0 (0) := ⟨rfl, rfl⟩
theorem c30_5 : q_cat 30 5 (.iload_n 2) 1 2 0 (0) := ⟨rfl, rfl⟩
theorem c30_6 : q_cat 30 6 (.iload_n 3) 1 3 0 (0) := ⟨rfl, rfl⟩
theorem c30_7 : q_cat 30 7 (.invokevirtual 67) 3 217 0 (0) := ⟨rfl, rfl⟩
theorem c30_10 : q_cat 30 10 (.i2l) 1 0 0 (0) := ⟨rfl, rfl⟩
theorem c30_11 : q_cat 30 11 (.lastore) 1 0 0 (0) := ⟨rfl, rfl⟩
theorem c30_12 : q_cat 30 12 (.goto 11) 3 23 0 (0) := ⟨rfl, rfl⟩
theorem c30_15 : q_cat 30 15 (.astore 5) 2 5 0 (0) := ⟨rfl, rfl⟩
theorem c30_17 : q_cat 30 17 (.iconst 1) 1 0 0 (0) := ⟨rfl, rfl⟩
theorem c30_18 : q_cat 30 18 (.ireturn) 1 0 0 (0) := ⟨rfl, rfl⟩
theorem c30_19 : q_cat 30 19 (.astore 5) 2 5 0 (0) := ⟨rfl, rfl⟩
theorem c30_21 : q_cat 30 21 (.iconst 2) 1 0 0 (0) := ⟨rfl, rfl⟩
theorem c30_22 : q_cat 30 22 (.ireturn) 1 0 0 (0) := ⟨rfl, rfl⟩
theorem c30_23 : q_cat 30 23 (.iconst 0) 1 0 0 (0) := ⟨rfl, rfl⟩
theorem c30_24 : q_cat 30 24 (.ireturn) 1 0 0 (0) := ⟨rfl, rfl⟩
noncomputable def fn30 (v1 : Int) (v2 : Int) (v3 : Int) (h : q_F) : Option (Int × q_F) :=
  (fn217 v1 v2 v3 h).bind fun x1 =>
  if x1.1 = 1 then (
    q_let (q_ud x1.2.2 153 0 x1.2.1) fun g2 =>
    some ((0 : Int), g2))
  else if x1.1 = 2 then (
      some ((2 : Int), x1.2.2))
  else if x1.1 = 3 then (
        some ((1 : Int), x1.2.2))
  else none
theorem wn30 {Γ : q_Γ} (hG : q_GG Γ) {v1 : Int} {v2 : Int} {v3 : Int} (hr1 : q_r32 v1) (hr2 : q_r32 v2) (hr3 : q_r32 v3) {h : q_F} (hA : q_Al 0 155 h) {r : Int × q_F} (hf : fn30 v1 v2 v3 h = some r) :
    q_M Γ q_K 155 30 [(2, Int.ofNat 0), (0, v1), (0, v2), (0, v3), (2, Int.ofNat 153)] h (q_PW 0 155 0 0 r) := by
  unfold fn30 at hf
  refine q_M.of (by decide) (Nat.le_of_ble_eq_true rfl) hG ?_
  refine r_aload c30_0 rfl rfl ?_
  refine r_iconst c30_2 rfl ?_
  refine r_aload_n c30_3 rfl rfl ?_
  refine r_iload_n c30_4 rfl rfl ?_
  refine r_iload_n c30_5 rfl rfl ?_
  refine r_iload_n c30_6 rfl rfl ?_
  obtain ⟨x1, e1, hf⟩ := q_bd_i hf
  refine r_vcG c30_7 (by decide) (by decide) rfl rfl rfl rfl (wn217 hG hr1 hr2 hr3 hA e1) ?_
  intro t1 w1 k1 p1
  obtain ⟨rfl, hw1, rfl, hA_x1⟩ := p1
  rcases qx_sp hf with ⟨c1, hf⟩ | ⟨c1, hf⟩
  · obtain ⟨rfl, hv1⟩ := hw1 c1
    refine Or.inr (Or.inl ⟨c1, ?_⟩)
    refine r_i2l c30_10 (q_w32_r hv1) rfl ?_
    refine x_last hA_x1 c30_11 (by decide) rfl (by decide) ⟨by decide, by decide⟩ (by decide) (by decide) (show Int.toNat (0 : Int) = 0 from rfl) (q_r34 hv1) rfl ?_
    intro g2 e_g2 hA_g2
    replace hf := q_let_i hf e_g2
    refine r_goto c30_12 ?_
    refine r_iconst c30_23 rfl ?_
    cases q_so hf
    exact r_iret c30_24 ⟨rfl, rfl, rfl⟩ ⟨rfl, rfl, rfl, (⟨by decide, by decide⟩ : q_r32 (0 : Int)), hA_g2⟩
  · rcases qx_sp hf with ⟨c1e0, hf⟩ | ⟨c1e0, hf⟩
    · refine Or.inr (Or.inr ⟨0, c1e0, ?_⟩)
      refine Or.inl ⟨19, rfl, ?_⟩
      refine r_astore10 c30_19 (lo' := [(5, _), (0, _), (1, _), (2, _), (3, _), (4, _)]) rfl rfl rfl ?_
      refine r_iconst c30_21 rfl ?_
      cases q_so hf
      exact r_iret c30_22 ⟨rfl, rfl, rfl⟩ ⟨rfl, rfl, rfl, (⟨by decide, by decide⟩ : q_r32 (2 : Int)), hA_x1⟩
    · rcases qx_sp hf with ⟨c1e1, hf⟩ | ⟨c1e1, hf⟩
      · refine Or.inr (Or.inr ⟨1, c1e1, ?_⟩)
        refine Or.inl ⟨15, rfl, ?_⟩
        refine r_astore10 c30_15 (lo' := [(5, _), (0, _), (1, _), (2, _), (3, _), (4, _)]) rfl rfl rfl ?_
        refine r_iconst c30_17 rfl ?_
        cases q_so hf
        exact r_iret c30_18 ⟨rfl, rfl, rfl⟩ ⟨rfl, rfl, rfl, (⟨by decide, by decide⟩ : q_r32 (1 : Int)), hA_x1⟩
      · cases hf
theorem c31_0 : q_cat 31 0 (.aload 4) 2 4 0 (0) := ⟨rfl, rfl⟩
theorem c31_2 : q_cat 31 2 (.iconst 0) 1 0 0 (0) := ⟨rfl, rfl⟩
theorem c31_3 : q_cat 31 3 (.aload_n 0) 1 0 0 (0) := ⟨rfl, rfl⟩
theorem c31_4 : q_cat 31 4 (.iload_n 1) 1 1 0 (0) := ⟨rfl, rfl⟩
theorem c31_5 : q_cat 31 5 (.iload_n 2) 1 2 0 (0) := ⟨rfl, rfl⟩
theorem c31_6 : q_cat 31 6 (.iload_n 3) 1 3 0 (0) := ⟨rfl, rfl⟩
theorem c31_7 : q_cat 31 7 (.invokevirtual 126) 3 219 0 (0) := ⟨rfl, rfl⟩
theorem c31_10 : q_cat 31 10 (.lastore) 1 0 0 (0) := ⟨rfl, rfl⟩
theorem c31_11 : q_cat 31 11 (.goto 11) 3 22 0 (0) := ⟨rfl, rfl⟩
theorem c31_14 : q_cat 31 14 (.astore 5) 2 5 0 (0) := ⟨rfl, rfl⟩
theorem c31_16 : q_cat 31 16 (.iconst 1) 1 0 0 (0) := ⟨rfl, rfl⟩
theorem c31_17 : q_cat 31 17 (.ireturn) 1 0 0 (0) := ⟨rfl, rfl⟩
theorem c31_18 : q_cat 31 18 (.astore 5) 2 5 0 (0) := ⟨rfl, rfl⟩
theorem c31_20 : q_cat 31 20 (.iconst 2) 1 0 0 (0) := ⟨rfl, rfl⟩
theorem c31_21 : q_cat 31 21 (.ireturn) 1 0 0 (0) := ⟨rfl, rfl⟩
theorem c31_22 : q_cat 31 22 (.iconst 0) 1 0 0 (0) := ⟨rfl, rfl⟩
theorem c31_23 : q_cat 31 23 (.ireturn) 1 0 0 (0) := ⟨rfl, rfl⟩
noncomputable def fn31 (v1 : Int) (v2 : Int) (v3 : Int) (h : q_F) : Option (Int × q_F) :=
  (fn219 v1 v2 v3 h).bind fun x1 =>
  if x1.1 = 1 then (
    q_let (q_ud x1.2.2 153 0 x1.2.1) fun g2 =>
    some ((0 : Int), g2))
  else if x1.1 = 2 then (
      some ((1 : Int), x1.2.2))
  else if x1.1 = 4 then (
        some ((2 : Int), x1.2.2))
  else none
theorem wn31 {Γ : q_Γ} (hG : q_GG Γ) {v1 : Int} {v2 : Int} {v3 : Int} (hr1 : q_r32 v1) (hr2 : q_r32 v2) (hr3 : q_r32 v3) {h : q_F} (hA : q_Al 0 155 h) {r : Int × q_F} (hf : fn31 v1 v2 v3 h = some r) :
    q_M Γ q_K 155 31 [(2, Int.ofNat 0), (0, v1), (0, v2), (0, v3), (2, Int.ofNat 153)] h (q_PW 0 155 0 0 r) := by
  unfold fn31 at hf
  refine q_M.of (by decide) (Nat.le_of_ble_eq_true rfl) hG ?_
  refine r_aload c31_0 rfl rfl ?_
  refine r_iconst c31_2 rfl ?_
  refine r_aload_n c31_3 rfl rfl ?_
  refine r_iload_n c31_4 rfl rfl ?_
  refine r_iload_n c31_5 rfl rfl ?_
  refine r_iload_n c31_6 rfl rfl ?_
  obtain ⟨x1, e1, hf⟩ := q_bd_i hf
  refine r_vcG c31_7 (by decide) (by decide) rfl rfl rfl rfl (wn219 hG hr1 hr2 hr3 hA e1) ?_
  intro t1 w1 k1 p1
  obtain ⟨rfl, hw1, rfl, hA_x1⟩ := p1
  rcases qx_sp hf with ⟨c1, hf⟩ | ⟨c1, hf⟩
  · obtain ⟨rfl, hv1⟩ := hw1 c1
    refine Or.inr (Or.inl ⟨c1, ?_⟩)
    refine x_last hA_x1 c31_10 (by decide) rfl (by decide) ⟨by decide, by decide⟩ (by decide) (by decide) (show Int.toNat (0 : Int) = 0 from rfl) hv1 rfl ?_
    intro g2 e_g2 hA_g2
    replace hf := q_let_i hf e_g2
    refine r_goto c31_11 ?_
    refine r_iconst c31_22 rfl ?_
    cases q_so hf
    exact r_iret c31_23 ⟨rfl, rfl, rfl⟩ ⟨rfl, rfl, rfl, (⟨by decide, by decide⟩ : q_r32 (0 : Int)), hA_g2⟩
  · rcases qx_sp hf with ⟨c1e0, hf⟩ | ⟨c1e0, hf⟩
    · refine Or.inr (Or.inr ⟨0, c1e0, ?_⟩)
      refine Or.inl ⟨14, rfl, ?_⟩
      refine r_astore10 c31_14 (lo' := [(5, _), (0, _), (1, _), (2, _), (3, _), (4, _)]) rfl rfl rfl ?_
      refine r_iconst c31_16 rfl ?_
      cases q_so hf
      exact r_iret c31_17 ⟨rfl, rfl, rfl⟩ ⟨rfl, rfl, rfl, (⟨by decide, by decide⟩ : q_r32 (1 : Int)), hA_x1⟩
    · rcases qx_sp hf with ⟨c1e2, hf⟩ | ⟨c1e2, hf⟩
      · refine Or.inr (Or.inr ⟨2, c1e2, ?_⟩)
        refine Or.inl ⟨18, rfl, ?_⟩
        refine r_astore10 c31_18 (lo' := [(5, _), (0, _), (1, _), (2, _), (3, _), (4, _)]) rfl rfl rfl ?_
        refine r_iconst c31_20 rfl ?_
        cases q_so hf
        exact r_iret c31_21 ⟨rfl, rfl, rfl⟩ ⟨rfl, rfl, rfl, (⟨by decide, by decide⟩ : q_r32 (2 : Int)), hA_x1⟩
      · cases hf
theorem c32_0 : q_cat 32 0 (.aload_n 3) 1 3 0 (0) := ⟨rfl, rfl⟩
theorem c32_1 : q_cat 32 1 (.iconst 0) 1 0 0 (0) := ⟨rfl, rfl⟩
theorem c32_2 : q_cat 32 2 (.aload_n 0) 1 0 0 (0) := ⟨rfl, rfl⟩
theorem c32_3 : q_cat 32 3 (.iload_n 1) 1 1 0 (0) := ⟨rfl, rfl⟩
theorem c32_4 : q_cat 32 4 (.iload_n 2) 1 2 0 (0) := ⟨rfl, rfl⟩
theorem c32_5 : q_cat 32 5 (.invokevirtual 84) 3 220 0 (0) := ⟨rfl, rfl⟩
theorem c32_8 : q_cat 32 8 (.i2l) 1 0 0 (0) := ⟨rfl, rfl⟩
theorem c32_9 : q_cat 32 9 (.lastore) 1 0 0 (0) := ⟨rfl, rfl⟩
theorem c32_10 : q_cat 32 10 (.goto 11) 3 21 0 (0) := ⟨rfl, rfl⟩
theorem c32_13 : q_cat 32 13 (.astore 4) 2 4 0 (0) := ⟨rfl, rfl⟩
theorem c32_15 : q_cat 32 15 (.iconst 1) 1 0 0 (0) := ⟨rfl, rfl⟩
theorem c32_16 : q_cat 32 16 (.ireturn) 1 0 0 (0) := ⟨rfl, rfl⟩
theorem c32_17 : q_cat 32 17 (.astore 4) 2 4 0 (0) := ⟨rfl, rfl⟩
theorem c32_19 : q_cat 32 19 (.iconst 2) 1 0 0 (0) := ⟨rfl, rfl⟩
theorem c32_20 : q_cat 32 20 (.ireturn) 1 0 0 (0) := ⟨rfl, rfl⟩
theorem c32_21 : q_cat 32 21 (.iconst 0) 1 0 0 (0) := ⟨rfl, rfl⟩
theorem c32_22 : q_cat 32 22 (.ireturn) 1 0 0 (0) := ⟨rfl, rfl⟩
noncomputable def fn32 (v1 : Int) (v2 : Int) (h : q_F) : Option (Int × q_F) :=
  (fn220 v1 v2 h).bind fun x1 =>
  if x1.1 = 1 then (
    q_let (q_ud x1.2.2 153 0 x1.2.1) fun g2 =>
    some ((0 : Int), g2))
  else if x1.1 = 3 then (
      some ((1 : Int), x1.2.2))
  else if x1.1 = 4 then (
        some ((2 : Int), x1.2.2))
  else none
theorem wn32 {Γ : q_Γ} (hG : q_GG Γ) {v1 : Int} {v2 : Int} (hr1 : q_r32 v1) (hr2 : q_r32 v2) {h : q_F} (hA : q_Al 0 155 h) {r : Int × q_F} (hf : fn32 v1 v2 h = some r) :
    q_M Γ q_K 155 32 [(2, Int.ofNat 0), (0, v1), (0, v2), (2, Int.ofNat 153)] h (q_PW 0 155 0 0 r) := by
  unfold fn32 at hf
  refine q_M.of (by decide) (Nat.le_of_ble_eq_true rfl) hG ?_
  refine r_aload_n c32_0 rfl rfl ?_
  refine r_iconst c32_1 rfl ?_
  refine r_aload_n c32_2 rfl rfl ?_
  refine r_iload_n c32_3 rfl rfl ?_
  refine r_iload_n c32_4 rfl rfl ?_
  obtain ⟨x1, e1, hf⟩ := q_bd_i hf
  refine r_vcG c32_5 (by decide) (by decide) rfl rfl rfl rfl (wn220 hG hr1 hr2 hA e1) ?_
  intro t1 w1 k1 p1
  obtain ⟨rfl, hw1, rfl, hA_x1⟩ := p1
  rcases qx_sp hf with ⟨c1, hf⟩ | ⟨c1, hf⟩
  · obtain ⟨rfl, hv1⟩ := hw1 c1
    refine Or.inr (Or.inl ⟨c1, ?_⟩)
    refine r_i2l c32_8 (q_w32_r hv1) rfl ?_
    refine x_last hA_x1 c32_9 (by decide) rfl (by decide) ⟨by decide, by decide⟩ (by decide) (by decide) (show Int.toNat (0 : Int) = 0 from rfl) (q_r34 hv1) rfl ?_
    intro g2 e_g2 hA_g2
    replace hf := q_let_i hf e_g2
    refine r_goto c32_10 ?_
    refine r_iconst c32_21 rfl ?_
    cases q_so hf
    exact r_iret c32_22 ⟨rfl, rfl, rfl⟩ ⟨rfl, rfl, rfl, (⟨by decide, by decide⟩ : q_r32 (0 : Int)), hA_g2⟩
  · rcases qx_sp hf with ⟨c1e1, hf⟩ | ⟨c1e1, hf⟩
    · refine Or.inr (Or.inr ⟨1, c1e1, ?_⟩)
      refine Or.inl ⟨13, rfl, ?_⟩
      refine r_astore10 c32_13 (lo' := [(4, _), (0, _), (1, _), (2, _), (3, _)]) rfl rfl rfl ?_
      refine r_iconst c32_15 rfl ?_
      cases q_so hf
      exact r_iret c32_16 ⟨rfl, rfl, rfl⟩ ⟨rfl, rfl, rfl, (⟨by decide, by decide⟩ : q_r32 (1 : Int)), hA_x1⟩
    · rcases qx_sp hf with ⟨c1e2, hf⟩ | ⟨c1e2, hf⟩
      · refine Or.inr (Or.inr ⟨2, c1e2, ?_⟩)
        refine Or.inl ⟨17, rfl, ?_⟩
        refine r_astore10 c32_17 (lo' := [(4, _), (0, _), (1, _), (2, _), (3, _)]) rfl rfl rfl ?_
        refine r_iconst c32_19 rfl ?_
        cases q_so hf
        exact r_iret c32_20 ⟨rfl, rfl, rfl⟩ ⟨rfl, rfl, rfl, (⟨by decide, by decide⟩ : q_r32 (2 : Int)), hA_x1⟩
      · cases hf
theorem c33_0 : q_cat 33 0 (.aload_n 3) 1 3 0 (0) := ⟨rfl, rfl⟩
theorem c33_1 : q_cat 33 1 (.iconst 0) 1 0 0 (0) := ⟨rfl, rfl⟩
theorem c33_2 : q_cat 33 2 (.aload_n 0) 1 0 0 (0) := ⟨rfl, rfl⟩
theorem c33_3 : q_cat 33 3 (.iload_n 1) 1 1 0 (0) := ⟨rfl, rfl⟩
theorem c33_4 : q_cat 33 4 (.iload_n 2) 1 2 0 (0) := ⟨rfl, rfl⟩
theorem c33_5 : q_cat 33 5 (.invokevirtual 58) 3 222 0 (0) := ⟨rfl, rfl⟩
theorem c33_8 : q_cat 33 8 (.i2l) 1 0 0 (0) := ⟨rfl, rfl⟩
theorem c33_9 : q_cat 33 9 (.lastore) 1 0 0 (0) := ⟨rfl, rfl⟩
theorem c33_10 : q_cat 33 10 (.goto 7) 3 17 0 (0) := ⟨rfl, rfl⟩
theorem c33_13 : q_cat 33 13 (.astore 4) 2 4 0 (0) := ⟨rfl, rfl⟩
theorem c33_15 : q_cat 33 15 (.iconst 1) 1 0 0 (0) := ⟨rfl, rfl⟩
theorem c33_16 : q_cat 33 16 (.ireturn) 1 0 0 (0) := ⟨rfl, rfl⟩
theorem c33_17 : q_cat 33 17 (.iconst 0) 1 0 0 (0) := ⟨rfl, rfl⟩
theorem c33_18 : q_cat 33 18 (.ireturn) 1 0 0 (0) := ⟨rfl, rfl⟩
noncomputable def fn33 (v1 : Int) (v2 : Int) (h : q_F) : Option (Int × q_F) :=
  (fn222 v1 v2 h).bind fun x1 =>
  if x1.1 = 1 then (
    q_let (q_ud x1.2.2 153 0 x1.2.1) fun g2 =>
    some ((0 : Int), g2))
  else if x1.1 = 3 then (
      some ((1 : Int), x1.2.2))
  else none
theorem wn33 {Γ : q_Γ} (hG : q_GG Γ) {v1 : Int} {v2 : Int} (hr1 : q_r32 v1) (hr2 : q_r32 v2) {h : q_F} (hA : q_Al 0 155 h) {r : Int × q_F} (hf : fn33 v1 v2 h = some r) :
    q_M Γ q_K 155 33 [(2, Int.ofNat 0), (0, v1), (0, v2), (2, Int.ofNat 153)] h (q_PW 0 155 0 0 r) := by
  unfold fn33 at hf
  refine q_M.of (by decide) (Nat.le_of_ble_eq_true rfl) hG ?_
  refine r_aload_n c33_0 rfl rfl ?_
  refine r_iconst c33_1 rfl ?_
  refine r_aload_n c33_2 rfl rfl ?_
  refine r_iload_n c33_3 rfl rfl ?_
  refine r_iload_n c33_4 rfl rfl ?_
  obtain ⟨x1, e1, hf⟩ := q_bd_i hf
  refine r_vcG c33_5 (by decide) (by decide) rfl rfl rfl rfl (wn222 hG hr1 hr2 hA e1) ?_
  intro t1 w1 k1 p1
  obtain ⟨rfl, hw1, rfl, hA_x1⟩ := p1
  rcases qx_sp hf with ⟨c1, hf⟩ | ⟨c1, hf⟩
  · obtain ⟨rfl, hv1⟩ := hw1 c1
    refine Or.inr (Or.inl ⟨c1, ?_⟩)
    refine r_i2l c33_8 (q_w32_r hv1) rfl ?_
    refine x_last hA_x1 c33_9 (by decide) rfl (by decide) ⟨by decide, by decide⟩ (by decide) (by decide) (show Int.toNat (0 : Int) = 0 from rfl) (q_r34 hv1) rfl ?_
    intro g2 e_g2 hA_g2
    replace hf := q_let_i hf e_g2
    refine r_goto c33_10 ?_
    refine r_iconst c33_17 rfl ?_
    cases q_so hf
    exact r_iret c33_18 ⟨rfl, rfl, rfl⟩ ⟨rfl, rfl, rfl, (⟨by decide, by decide⟩ : q_r32 (0 : Int)), hA_g2⟩
  · rcases qx_sp hf with ⟨c1e1, hf⟩ | ⟨c1e1, hf⟩
    · refine Or.inr (Or.inr ⟨1, c1e1, ?_⟩)
      refine Or.inl ⟨13, rfl, ?_⟩
      refine r_astore10 c33_13 (lo' := [(4, _), (0, _), (1, _), (2, _), (3, _)]) rfl rfl rfl ?_
      refine r_iconst c33_15 rfl ?_
      cases q_so hf
      exact r_iret c33_16 ⟨rfl, rfl, rfl⟩ ⟨rfl, rfl, rfl, (⟨by decide, by decide⟩ : q_r32 (1 : Int)), hA_x1⟩
    · cases hf
theorem c34_0 : q_cat 34 0 (.aload_n 2) 1 2 0 (0) := ⟨rfl, rfl⟩
theorem c34_1 : q_cat 34 1 (.iconst 0) 1 0 0 (0) := ⟨rfl, rfl⟩
theorem c34_2 : q_cat 34 2 (.aload_n 0) 1 0 0 (0) := ⟨rfl, rfl⟩
theorem c34_3 : q_cat 34 3 (.iload_n 1) 1 1 0 (0) := ⟨rfl, rfl⟩
theorem c34_4 : q_cat 34 4 (.invokevirtual 120) 3 224 0 (0) := ⟨rfl, rfl⟩
theorem c34_7 : q_cat 34 7 (.i2l) 1 0 0 (0) := ⟨rfl, rfl⟩
theorem c34_8 : q_cat 34 8 (.lastore) 1 0 0 (0) := ⟨rfl, rfl⟩
theorem c34_9 : q_cat 34 9 (.goto 6) 3 15 0 (0) := ⟨rfl, rfl⟩
theorem c34_12 : q_cat 34 12 (.astore_n 3) 1 3 0 (0) := ⟨rfl, rfl⟩
theorem c34_13 : q_cat 34 13 (.iconst 1) 1 0 0 (0) := ⟨rfl, rfl⟩
theorem c34_14 : q_cat 34 14 (.ireturn) 1 0 0 (0) := ⟨rfl, rfl⟩
theorem c34_15 : q_cat 34 15 (.iconst 0) 1 0 0 (0) := ⟨rfl, rfl⟩
theorem c34_16 : q_cat 34 16 (.ireturn) 1 0 0 (0) := ⟨rfl, rfl⟩
noncomputable def fn34 (v1 : Int) (h : q_F) : Option (Int × q_F) :=
  (fn224 v1 h).bind fun x1 =>
  if x1.1 = 1 then (
    q_let (q_ud x1.2.2 153 0 x1.2.1) fun g2 =>
    some ((0 : Int), g2))
  else if x1.1 = 3 then (
      some ((1 : Int), x1.2.2))
  else none
theorem wn34 {Γ : q_Γ} (hG : q_GG Γ) {v1 : Int} (hr1 : q_r32 v1) {h : q_F} (hA : q_Al 0 155 h) {r : Int × q_F} (hf : fn34 v1 h = some r) :
    q_M Γ q_K 155 34 [(2, Int.ofNat 0), (0, v1), (2, Int.ofNat 153)] h (q_PW 0 155 0 0 r) := by
  unfold fn34 at hf
  refine q_M.of (by decide) (Nat.le_of_ble_eq_true rfl) hG ?_
  refine r_aload_n c34_0 rfl rfl ?_
  refine r_iconst c34_1 rfl ?_
  refine r_aload_n c34_2 rfl rfl ?_
  refine r_iload_n c34_3 rfl rfl ?_
  obtain ⟨x1, e1, hf⟩ := q_bd_i hf
  refine r_vcG c34_4 (by decide) (by decide) rfl rfl rfl rfl (wn224 hG hr1 hA e1) ?_
  intro t1 w1 k1 p1
  obtain ⟨rfl, hw1, rfl, hA_x1⟩ := p1
  rcases qx_sp hf with ⟨c1, hf⟩ | ⟨c1, hf⟩
  · obtain ⟨rfl, hv1⟩ := hw1 c1
    refine Or.inr (Or.inl ⟨c1, ?_⟩)
    refine r_i2l c34_7 (q_w32_r hv1) rfl ?_
    refine x_last hA_x1 c34_8 (by decide) rfl (by decide) ⟨by decide, by decide⟩ (by decide) (by decide) (show Int.toNat (0 : Int) = 0 from rfl) (q_r34 hv1) rfl ?_
    intro g2 e_g2 hA_g2
    replace hf := q_let_i hf e_g2
    refine r_goto c34_9 ?_
    refine r_iconst c34_15 rfl ?_
    cases q_so hf
    exact r_iret c34_16 ⟨rfl, rfl, rfl⟩ ⟨rfl, rfl, rfl, (⟨by decide, by decide⟩ : q_r32 (0 : Int)), hA_g2⟩
  · rcases qx_sp hf with ⟨c1e1, hf⟩ | ⟨c1e1, hf⟩
    · refine Or.inr (Or.inr ⟨1, c1e1, ?_⟩)
      refine Or.inl ⟨12, rfl, ?_⟩
      refine r_astore10_n c34_12 (lo' := [(3, _), (0, _), (1, _), (2, _)]) rfl rfl rfl ?_
      refine r_iconst c34_13 rfl ?_
      cases q_so hf
      exact r_iret c34_14 ⟨rfl, rfl, rfl⟩ ⟨rfl, rfl, rfl, (⟨by decide, by decide⟩ : q_r32 (1 : Int)), hA_x1⟩
    · cases hf
theorem c35_0 : q_cat 35 0 (.aload_n 2) 1 2 0 (0) := ⟨rfl, rfl⟩
theorem c35_1 : q_cat 35 1 (.iconst 0) 1 0 0 (0) := ⟨rfl, rfl⟩
theorem c35_2 : q_cat 35 2 (.aload_n 0) 1 0 0 (0) := ⟨rfl, rfl⟩
theorem c35_3 : q_cat 35 3 (.iload_n 1) 1 1 0 (0) := ⟨rfl, rfl⟩
theorem c35_4 : q_cat 35 4 (.invokevirtual 110) 3 225 0 (0) := ⟨rfl, rfl⟩
theorem c35_7 : q_cat 35 7 (.i2l) 1 0 0 (0) := ⟨rfl, rfl⟩
theorem c35_8 : q_cat 35 8 (.lastore) 1 0 0 (0) := ⟨rfl, rfl⟩
theorem c35_9 : q_cat 35 9 (.goto 6) 3 15 0 (0) := ⟨rfl, rfl⟩
theorem c35_12 : q_cat 35 12 (.astore_n 3) 1 3 0 (0) := ⟨rfl, rfl⟩
theorem c35_13 : q_cat 35 13 (.iconst 1) 1 0 0 (0) := ⟨rfl, rfl⟩
theorem c35_14 : q_cat 35 14 (.ireturn) 1 0 0 (0) := ⟨rfl, rfl⟩
theorem c35_15 : q_cat 35 15 (.iconst 0) 1 0 0 (0) := ⟨rfl, rfl⟩
theorem c35_16 : q_cat 35 16 (.ireturn) 1 0 0 (0) := ⟨rfl, rfl⟩
noncomputable def fn35 (v1 : Int) (h : q_F) : Option (Int × q_F) :=
  (fn225 v1 h).bind fun x1 =>
  if x1.1 = 1 then (
    q_let (q_ud x1.2.2 153 0 x1.2.1) fun g2 =>
    some ((0 : Int), g2))
  else if x1.1 = 3 then (
      some ((1 : Int), x1.2.2))
  else none
theorem wn35 {Γ : q_Γ} (hG : q_GG Γ) {v1 : Int} (hr1 : q_r32 v1) {h : q_F} (hA : q_Al 0 155 h) {r : Int × q_F} (hf : fn35 v1 h = some r) :
    q_M Γ q_K 155 35 [(2, Int.ofNat 0), (0, v1), (2, Int.ofNat 153)] h (q_PW 0 155 0 0 r) := by
  unfold fn35 at hf
  refine q_M.of (by decide) (Nat.le_of_ble_eq_true rfl) hG ?_
  refine r_aload_n c35_0 rfl rfl ?_
  refine r_iconst c35_1 rfl ?_
  refine r_aload_n c35_2 rfl rfl ?_
  refine r_iload_n c35_3 rfl rfl ?_
  obtain ⟨x1, e1, hf⟩ := q_bd_i hf
  refine r_vcG c35_4 (by decide) (by decide) rfl rfl rfl rfl (wn225 hG hr1 hA e1) ?_
  intro t1 w1 k1 p1
  obtain ⟨rfl, hw1, rfl, hA_x1⟩ := p1
  rcases qx_sp hf with ⟨c1, hf⟩ | ⟨c1, hf⟩
  · obtain ⟨rfl, hv1⟩ := hw1 c1
    refine Or.inr (Or.inl ⟨c1, ?_⟩)
    refine r_i2l c35_7 (q_w32_r hv1) rfl ?_
    refine x_last hA_x1 c35_8 (by decide) rfl (by decide) ⟨by decide, by decide⟩ (by decide) (by decide) (show Int.toNat (0 : Int) = 0 from rfl) (q_r34 hv1) rfl ?_
    intro g2 e_g2 hA_g2
    replace hf := q_let_i hf e_g2
    refine r_goto c35_9 ?_
    refine r_iconst c35_15 rfl ?_
    cases q_so hf
    exact r_iret c35_16 ⟨rfl, rfl, rfl⟩ ⟨rfl, rfl, rfl, (⟨by decide, by decide⟩ : q_r32 (0 : Int)), hA_g2⟩
  · rcases qx_sp hf with ⟨c1e1, hf⟩ | ⟨c1e1, hf⟩
    · refine Or.inr (Or.inr ⟨1, c1e1, ?_⟩)
      refine Or.inl ⟨12, rfl, ?_⟩
      refine r_astore10_n c35_12 (lo' := [(3, _), (0, _), (1, _), (2, _)]) rfl rfl rfl ?_
      refine r_iconst c35_13 rfl ?_
      cases q_so hf
      exact r_iret c35_14 ⟨rfl, rfl, rfl⟩ ⟨rfl, rfl, rfl, (⟨by decide, by decide⟩ : q_r32 (1 : Int)), hA_x1⟩
    · cases hf
theorem c36_0 : q_cat 36 0 (.aload_n 2) 1 2 0 (0) := ⟨rfl, rfl⟩
theorem c36_1 : q_cat 36 1 (.iconst 0) 1 0 0 (0) := ⟨rfl, rfl⟩
theorem c36_2 : q_cat 36 2 (.aload_n 0) 1 0 0 (0) := ⟨rfl, rfl⟩
theorem c36_3 : q_cat 36 3 (.iload_n 1) 1 1 0 (0) := ⟨rfl, rfl⟩
theorem c36_4 : q_cat 36 4 (.invokevirtual 123) 3 227 0 (0) := ⟨rfl, rfl⟩
theorem c36_7 : q_cat 36 7 (.i2l) 1 0 0 (0) := ⟨rfl, rfl⟩
theorem c36_8 : q_cat 36 8 (.lastore) 1 0 0 (0) := ⟨rfl, rfl⟩
theorem c36_9 : q_cat 36 9 (.goto 6) 3 15 0 (0) := ⟨rfl, rfl⟩
theorem c36_12 : q_cat 36 12 (.astore_n 3) 1 3 0 (0) := ⟨rfl, rfl⟩
theorem c36_13 : q_cat 36 13 (.iconst 1) 1 0 0 (0) := ⟨rfl, rfl⟩
theorem c36_14 : q_cat 36 14 (.ireturn) 1 0 0 (0) := ⟨rfl, rfl⟩
theorem c36_15 : q_cat 36 15 (.iconst 0) 1 0 0 (0) := ⟨rfl, rfl⟩
theorem c36_16 : q_cat 36 16 (.ireturn) 1 0 0 (0) := ⟨rfl, rfl⟩
noncomputable def fn36 (v1 : Int) (h : q_F) : Option (Int × q_F) :=
  (fn227 v1 h).bind fun x1 =>
  if x1.1 = 1 then (
    q_let (q_ud x1.2.2 153 0 x1.2.1) fun g2 =>
    some ((0 : Int), g2))
  else if x1.1 = 3 then (
      some ((1 : Int), x1.2.2))
  else none
theorem wn36 {Γ : q_Γ} (hG : q_GG Γ) {v1 : Int} (hr1 : q_r32 v1) {h : q_F} (hA : q_Al 0 155 h) {r : Int × q_F} (hf : fn36 v1 h = some r) :
    q_M Γ q_K 155 36 [(2, Int.ofNat 0), (0, v1), (2, Int.ofNat 153)] h (q_PW 0 155 0 0 r) := by
  unfold fn36 at hf
  refine q_M.of (by decide) (Nat.le_of_ble_eq_true rfl) hG ?_
  refine r_aload_n c36_0 rfl rfl ?_
  refine r_iconst c36_1 rfl ?_
  refine r_aload_n c36_2 rfl rfl ?_
  refine r_iload_n c36_3 rfl rfl ?_
  obtain ⟨x1, e1, hf⟩ := q_bd_i hf
  refine r_vcG c36_4 (by decide) (by decide) rfl rfl rfl rfl (wn227 hG hr1 hA e1) ?_
  intro t1 w1 k1 p1
  obtain ⟨rfl, hw1, rfl, hA_x1⟩ := p1
  rcases qx_sp hf with ⟨c1, hf⟩ | ⟨c1, hf⟩
  · obtain ⟨rfl, hv1⟩ := hw1 c1
    refine Or.inr (Or.inl ⟨c1, ?_⟩)
    refine r_i2l c36_7 (q_w32_r hv1) rfl ?_
    refine x_last hA_x1 c36_8 (by decide) rfl (by decide) ⟨by decide, by decide⟩ (by decide) (by decide) (show Int.toNat (0 : Int) = 0 from rfl) (q_r34 hv1) rfl ?_
    intro g2 e_g2 hA_g2
    replace hf := q_let_i hf e_g2
    refine r_goto c36_9 ?_
    refine r_iconst c36_15 rfl ?_
    cases q_so hf
    exact r_iret c36_16 ⟨rfl, rfl, rfl⟩ ⟨rfl, rfl, rfl, (⟨by decide, by decide⟩ : q_r32 (0 : Int)), hA_g2⟩
  · rcases qx_sp hf with ⟨c1e1, hf⟩ | ⟨c1e1, hf⟩
    · refine Or.inr (Or.inr ⟨1, c1e1, ?_⟩)
      refine Or.inl ⟨12, rfl, ?_⟩
      refine r_astore10_n c36_12 (lo' := [(3, _), (0, _), (1, _), (2, _)]) rfl rfl rfl ?_
      refine r_iconst c36_13 rfl ?_
      cases q_so hf
      exact r_iret c36_14 ⟨rfl, rfl, rfl⟩ ⟨rfl, rfl, rfl, (⟨by decide, by decide⟩ : q_r32 (1 : Int)), hA_x1⟩
    · cases hf
theorem c37_0 : q_cat 37 0 (.aload_n 1) 1 1 0 (0) := ⟨rfl, rfl⟩
theorem c37_1 : q_cat 37 1 (.iconst 0) 1 0 0 (0) := ⟨rfl, rfl⟩
theorem c37_2 : q_cat 37 2 (.aload_n 0) 1 0 0 (0) := ⟨rfl, rfl⟩
theorem c37_3 : q_cat 37 3 (.invokevirtual 43) 3 229 0 (0) := ⟨rfl, rfl⟩
theorem c37_6 : q_cat 37 6 (.i2l) 1 0 0 (0) := ⟨rfl, rfl⟩
theorem c37_7 : q_cat 37 7 (.lastore) 1 0 0 (0) := ⟨rfl, rfl⟩
theorem c37_8 : q_cat 37 8 (.goto 6) 3 14 0 (0) := ⟨rfl, rfl⟩
theorem c37_11 : q_cat 37 11 (.astore_n 2) 1 2 0 (0) := ⟨rfl, rfl⟩
theorem c37_12 : q_cat 37 12 (.iconst 1) 1 0 0 (0) := ⟨rfl, rfl⟩
theorem c37_13 : q_cat 37 13 (.ireturn) 1 0 0 (0) := ⟨rfl, rfl⟩
theorem c37_14 : q_cat 37 14 (.iconst 0) 1 0 0 (0) := ⟨rfl, rfl⟩
theorem c37_15 : q_cat 37 15 (.ireturn) 1 0 0 (0) := ⟨rfl, rfl⟩
noncomputable def fn37  (h : q_F) : Option (Int × q_F) :=
  (fn229 h).bind fun x1 =>
  if x1.1 = 1 then (
    q_let (q_ud x1.2.2 153 0 x1.2.1) fun g2 =>
    some ((0 : Int), g2))
  else if x1.1 = 5 then (
      some ((1 : Int), x1.2.2))
  else none
theorem wn37 {Γ : q_Γ} (hG : q_GG Γ)   {h : q_F} (hA : q_Al 0 155 h) {r : Int × q_F} (hf : fn37  h = some r) :
    q_M Γ q_K 155 37 [(2, Int.ofNat 0), (2, Int.ofNat 153)] h (q_PW 0 155 0 0 r) := by
  unfold fn37 at hf
  refine q_M.of (by decide) (Nat.le_of_ble_eq_true rfl) hG ?_
  refine r_aload_n c37_0 rfl rfl ?_
  refine r_iconst c37_1 rfl ?_
  refine r_aload_n c37_2 rfl rfl ?_
  obtain ⟨x1, e1, hf⟩ := q_bd_i hf
  refine r_vcG c37_3 (by decide) (by decide) rfl rfl rfl rfl (wn229 hG  hA e1) ?_
  intro t1 w1 k1 p1
  obtain ⟨rfl, hw1, rfl, hA_x1⟩ := p1
  rcases qx_sp hf with ⟨c1, hf⟩ | ⟨c1, hf⟩
  · obtain ⟨rfl, hv1⟩ := hw1 c1
    refine Or.inr (Or.inl ⟨c1, ?_⟩)
    refine r_i2l c37_6 (q_w32_r hv1) rfl ?_
    refine x_last hA_x1 c37_7 (by decide) rfl (by decide) ⟨by decide, by decide⟩ (by decide) (by decide) (show Int.toNat (0 : Int) = 0 from rfl) (q_r34 hv1) rfl ?_
    intro g2 e_g2 hA_g2
    replace hf := q_let_i hf e_g2
    refine r_goto c37_8 ?_
    refine r_iconst c37_14 rfl ?_
    cases q_so hf
    exact r_iret c37_15 ⟨rfl, rfl, rfl⟩ ⟨rfl, rfl, rfl, (⟨by decide, by decide⟩ : q_r32 (0 : Int)), hA_g2⟩
  · rcases qx_sp hf with ⟨c1e3, hf⟩ | ⟨c1e3, hf⟩
    · refine Or.inr (Or.inr ⟨3, c1e3, ?_⟩)
      refine Or.inl ⟨11, rfl, ?_⟩
      refine r_astore10_n c37_11 (lo' := [(2, _), (0, _), (1, _)]) rfl rfl rfl ?_
      refine r_iconst c37_12 rfl ?_
      cases q_so hf
      exact r_iret c37_13 ⟨rfl, rfl, rfl⟩ ⟨rfl, rfl, rfl, (⟨by decide, by decide⟩ : q_r32 (1 : Int)), hA_x1⟩
    · cases hf
theorem c38_0 : q_cat 38 0 (.aload_n 3) 1 3 0 (0) := ⟨rfl, rfl⟩
theorem c38_1 : q_cat 38 1 (.iconst 0) 1 0 0 (0) := ⟨rfl, rfl⟩
theorem c38_2 : q_cat 38 2 (.aload_n 0) 1 0 0 (0) := ⟨rfl, rfl⟩
theorem c38_3 : q_cat 38 3 (.iload_n 1) 1 1 0 (0) := ⟨rfl, rfl⟩
theorem c38_4 : q_cat 38 4 (.iload_n 2) 1 2 0 (0) := ⟨rfl, rfl⟩
theorem c38_5 : q_cat 38 5 (.invokevirtual 107) 3 230 0 (0) := ⟨rfl, rfl⟩
theorem c38_8 : q_cat 38 8 (.i2l) 1 0 0 (0) := ⟨rfl, rfl⟩
theorem c38_9 : q_cat 38 9 (.lastore) 1 0 0 (0) := ⟨rfl, rfl⟩
theorem c38_10 : q_cat 38 10 (.goto 15) 3 25 0 (0) := ⟨rfl, rfl⟩
theorem c38_13 : q_cat 38 13 (.astore 4) 2 4 0 (0) := ⟨rfl, rfl⟩
theorem c38_15 : q_cat 38 15 (.iconst 1) 1 0 0 (0) := ⟨rfl, rfl⟩
theorem c38_16 : q_cat 38 16 (.ireturn) 1 0 0 (0) := ⟨rfl, rfl⟩
theorem c38_17 : q_cat 38 17 (.astore 4) 2 4 0 (0) := ⟨rfl, rfl⟩
theorem c38_19 : q_cat 38 19 (.iconst 2) 1 0 0 (0) := ⟨rfl, rfl⟩
theorem c38_20 : q_cat 38 20 (.ireturn) 1 0 0 (0) := ⟨rfl, rfl⟩
theorem c38_21 : q_cat 38 21 (.astore 4) 2 4 0 (0) := ⟨rfl, rfl⟩
theorem c38_23 : q_cat 38 23 (.iconst 3) 1 0 0 (0) := ⟨rfl, rfl⟩
theorem c38_24 : q_cat 38 24 (.ireturn) 1 0 0 (0) := ⟨rfl, rfl⟩
theorem c38_25 : q_cat 38 25 (.iconst 0) 1 0 0 (0) := ⟨rfl, rfl⟩
theorem c38_26 : q_cat 38 26 (.ireturn) 1 0 0 (0) := ⟨rfl, rfl⟩
noncomputable def fn38 (v1 : Int) (v2 : Int) (h : q_F) : Option (Int × q_F) :=
  (fn230 v1 v2 h).bind fun x1 =>
  if x1.1 = 1 then (
    q_let (q_ud x1.2.2 153 0 x1.2.1) fun g2 =>
    some ((0 : Int), g2))
  else if x1.1 = 2 then (
      some ((2 : Int), x1.2.2))
  else if x1.1 = 3 then (
        some ((1 : Int), x1.2.2))
  else if x1.1 = 4 then (
          some ((3 : Int), x1.2.2))
  else none
theorem wn38 {Γ : q_Γ} (hG : q_GG Γ) {v1 : Int} {v2 : Int} (hr1 : q_r32 v1) (hr2 : q_r32 v2) {h : q_F} (hA : q_Al 0 155 h) {r : Int × q_F} (hf : fn38 v1 v2 h = some r) :
    q_M Γ q_K 155 38 [(2, Int.ofNat 0), (0, v1), (0, v2), (2, Int.ofNat 153)] h (q_PW 0 155 0 0 r) := by
  unfold fn38 at hf
  refine q_M.of (by decide) (Nat.le_of_ble_eq_true rfl) hG ?_
  refine r_aload_n c38_0 rfl rfl ?_
  refine r_iconst c38_1 rfl ?_
  refine r_aload_n c38_2 rfl rfl ?_
  refine r_iload_n c38_3 rfl rfl ?_
  refine r_iload_n c38_4 rfl rfl ?_
  obtain ⟨x1, e1, hf⟩ := q_bd_i hf
  refine r_vcG c38_5 (by decide) (by decide) rfl rfl rfl rfl (wn230 hG hr1 hr2 hA e1) ?_
  intro t1 w1 k1 p1
  obtain ⟨rfl, hw1, rfl, hA_x1⟩ := p1
  rcases qx_sp hf with ⟨c1, hf⟩ | ⟨c1, hf⟩
  · obtain ⟨rfl, hv1⟩ := hw1 c1
    refine Or.inr (Or.inl ⟨c1, ?_⟩)
    refine r_i2l c38_8 (q_w32_r hv1) rfl ?_
    refine x_last hA_x1 c38_9 (by decide) rfl (by decide) ⟨by decide, by decide⟩ (by decide) (by decide) (show Int.toNat (0 : Int) = 0 from rfl) (q_r34 hv1) rfl ?_
    intro g2 e_g2 hA_g2
    replace hf := q_let_i hf e_g2
    refine r_goto c38_10 ?_
    refine r_iconst c38_25 rfl ?_
    cases q_so hf
    exact r_iret c38_26 ⟨rfl, rfl, rfl⟩ ⟨rfl, rfl, rfl, (⟨by decide, by decide⟩ : q_r32 (0 : Int)), hA_g2⟩
  · rcases qx_sp hf with ⟨c1e0, hf⟩ | ⟨c1e0, hf⟩
    · refine Or.inr (Or.inr ⟨0, c1e0, ?_⟩)
      refine Or.inl ⟨17, rfl, ?_⟩
      refine r_astore10 c38_17 (lo' := [(4, _), (0, _), (1, _), (2, _), (3, _)]) rfl rfl rfl ?_
      refine r_iconst c38_19 rfl ?_
      cases q_so hf
      exact r_iret c38_20 ⟨rfl, rfl, rfl⟩ ⟨rfl, rfl, rfl, (⟨by decide, by decide⟩ : q_r32 (2 : Int)), hA_x1⟩
    · rcases qx_sp hf with ⟨c1e1, hf⟩ | ⟨c1e1, hf⟩
      · refine Or.inr (Or.inr ⟨1, c1e1, ?_⟩)
        refine Or.inl ⟨13, rfl, ?_⟩
        refine r_astore10 c38_13 (lo' := [(4, _), (0, _), (1, _), (2, _), (3, _)]) rfl rfl rfl ?_
        refine r_iconst c38_15 rfl ?_
        cases q_so hf
        exact r_iret c38_16 ⟨rfl, rfl, rfl⟩ ⟨rfl, rfl, rfl, (⟨by decide, by decide⟩ : q_r32 (1 : Int)), hA_x1⟩
      · rcases qx_sp hf with ⟨c1e2, hf⟩ | ⟨c1e2, hf⟩
        · refine Or.inr (Or.inr ⟨2, c1e2, ?_⟩)
          refine Or.inl ⟨21, rfl, ?_⟩
          refine r_astore10 c38_21 (lo' := [(4, _), (0, _), (1, _), (2, _), (3, _)]) rfl rfl rfl ?_
          refine r_iconst c38_23 rfl ?_
          cases q_so hf
          exact r_iret c38_24 ⟨rfl, rfl, rfl⟩ ⟨rfl, rfl, rfl, (⟨by decide, by decide⟩ : q_r32 (3 : Int)), hA_x1⟩
        · cases hf
theorem c39_0 : q_cat 39 0 (.aload_n 2) 1 2 0 (0) := ⟨rfl, rfl⟩
theorem c39_1 : q_cat 39 1 (.iconst 0) 1 0 0 (0) := ⟨rfl, rfl⟩
theorem c39_2 : q_cat 39 2 (.aload_n 0) 1 0 0 (0) := ⟨rfl, rfl⟩
theorem c39_3 : q_cat 39 3 (.iload_n 1) 1 1 0 (0) := ⟨rfl, rfl⟩
theorem c39_4 : q_cat 39 4 (.invokevirtual 130) 3 231 0 (0) := ⟨rfl, rfl⟩
theorem c39_7 : q_cat 39 7 (.i2l) 1 0 0 (0) := ⟨rfl, rfl⟩
theorem c39_8 : q_cat 39 8 (.lastore) 1 0 0 (0) := ⟨rfl, rfl⟩
theorem c39_9 : q_cat 39 9 (.goto 9) 3 18 0 (0) := ⟨rfl, rfl⟩
theorem c39_12 : q_cat 39 12 (.astore_n 3) 1 3 0 (0) := ⟨rfl, rfl⟩
theorem c39_13 : q_cat 39 13 (.iconst 1) 1 0 0 (0) := ⟨rfl, rfl⟩
theorem c39_14 : q_cat 39 14 (.ireturn) 1 0 0 (0) := ⟨rfl, rfl⟩
theorem c39_15 : q_cat 39 15 (.astore_n 3) 1 3 0 (0) := ⟨rfl, rfl⟩
theorem c39_16 : q_cat 39 16 (.iconst 2) 1 0 0 (0) := ⟨rfl, rfl⟩
theorem c39_17 : q_cat 39 17 (.ireturn) 1 0 0 (0) := ⟨rfl, rfl⟩
theorem c39_18 : q_cat 39 18 (.iconst 0) 1 0 0 (0) := ⟨rfl, rfl⟩
theorem c39_19 : q_cat 39 19 (.ireturn) 1 0 0 (0) := ⟨rfl, rfl⟩
noncomputable def fn39 (v1 : Int) (h : q_F) : Option (Int × q_F) :=
  (fn231 v1 h).bind fun x1 =>
  if x1.1 = 1 then (
    q_let (q_ud x1.2.2 153 0 x1.2.1) fun g2 =>
    some ((0 : Int), g2))
  else if x1.1 = 3 then (
      some ((1 : Int), x1.2.2))
  else if x1.1 = 4 then (
        some ((2 : Int), x1.2.2))
  else none
theorem wn39 {Γ : q_Γ} (hG : q_GG Γ) {v1 : Int} (hr1 : q_r32 v1) {h : q_F} (hA : q_Al 0 155 h) {r : Int × q_F} (hf : fn39 v1 h = some r) :
    q_M Γ q_K 155 39 [(2, Int.ofNat 0), (0, v1), (2, Int.ofNat 153)] h (q_PW 0 155 0 0 r) := by
  unfold fn39 at hf
  refine q_M.of (by decide) (Nat.le_of_ble_eq_true rfl) hG ?_
  refine r_aload_n c39_0 rfl rfl ?_
  refine r_iconst c39_1 rfl ?_
  refine r_aload_n c39_2 rfl rfl ?_
  refine r_iload_n c39_3 rfl rfl ?_
  obtain ⟨x1, e1, hf⟩ := q_bd_i hf
  refine r_vcG c39_4 (by decide) (by decide) rfl rfl rfl rfl (wn231 hG hr1 hA e1) ?_
  intro t1 w1 k1 p1
  obtain ⟨rfl, hw1, rfl, hA_x1⟩ := p1
  rcases qx_sp hf with ⟨c1, hf⟩ | ⟨c1, hf⟩
  · obtain ⟨rfl, hv1⟩ := hw1 c1
    refine Or.inr (Or.inl ⟨c1, ?_⟩)
    refine r_i2l c39_7 (q_w32_r hv1) rfl ?_
    refine x_last hA_x1 c39_8 (by decide) rfl (by decide) ⟨by decide, by decide⟩ (by decide) (by decide) (show Int.toNat (0 : Int) = 0 from rfl) (q_r34 hv1) rfl ?_
    intro g2 e_g2 hA_g2
    replace hf := q_let_i hf e_g2
    refine r_goto c39_9 ?_
    refine r_iconst c39_18 rfl ?_
    cases q_so hf
    exact r_iret c39_19 ⟨rfl, rfl, rfl⟩ ⟨rfl, rfl, rfl, (⟨by decide, by decide⟩ : q_r32 (0 : Int)), hA_g2⟩
  · rcases qx_sp hf with ⟨c1e1, hf⟩ | ⟨c1e1, hf⟩
    · refine Or.inr (Or.inr ⟨1, c1e1, ?_⟩)
      refine Or.inl ⟨12, rfl, ?_⟩
      refine r_astore10_n c39_12 (lo' := [(3, _), (0, _), (1, _), (2, _)]) rfl rfl rfl ?_
      refine r_iconst c39_13 rfl ?_
      cases q_so hf
      exact r_iret c39_14 ⟨rfl, rfl, rfl⟩ ⟨rfl, rfl, rfl, (⟨by decide, by decide⟩ : q_r32 (1 : Int)), hA_x1⟩
    · rcases qx_sp hf with ⟨c1e2, hf⟩ | ⟨c1e2, hf⟩
      · refine Or.inr (Or.inr ⟨2, c1e2, ?_⟩)
        refine Or.inl ⟨15, rfl, ?_⟩
        refine r_astore10_n c39_15 (lo' := [(3, _), (0, _), (1, _), (2, _)]) rfl rfl rfl ?_
        refine r_iconst c39_16 rfl ?_
        cases q_so hf
        exact r_iret c39_17 ⟨rfl, rfl, rfl⟩ ⟨rfl, rfl, rfl, (⟨by decide, by decide⟩ : q_r32 (2 : Int)), hA_x1⟩
      · cases hf
theorem c40_0 : q_cat 40 0 (.aload_n 2) 1 2 0 (0) := ⟨rfl, rfl⟩
theorem c40_1 : q_cat 40 1 (.iconst 0) 1 0 0 (0) := ⟨rfl, rfl⟩
theorem c40_2 : q_cat 40 2 (.aload_n 0) 1 0 0 (0) := ⟨rfl, rfl⟩
theorem c40_3 : q_cat 40 3 (.iload_n 1) 1 1 0 (0) := ⟨rfl, rfl⟩
theorem c40_4 : q_cat 40 4 (.invokevirtual 133) 3 232 0 (0) := ⟨rfl, rfl⟩
theorem c40_7 : q_cat 40 7 (.i2l) 1 0 0 (0) := ⟨rfl, rfl⟩
theorem c40_8 : q_cat 40 8 (.lastore) 1 0 0 (0) := ⟨rfl, rfl⟩
theorem c40_9 : q_cat 40 9 (.goto 6) 3 15 0 (0) := ⟨rfl, rfl⟩
theorem c40_12 : q_cat 40 12 (.astore_n 3) 1 3 0 (0) := ⟨rfl, rfl⟩
theorem c40_13 : q_cat 40 13 (.iconst 1) 1 0 0 (0) := ⟨rfl, rfl⟩
theorem c40_14 : q_cat 40 14 (.ireturn) 1 0 0 (0) := ⟨rfl, rfl⟩
theorem c40_15 : q_cat 40 15 (.iconst 0) 1 0 0 (0) := ⟨rfl, rfl⟩
theorem c40_16 : q_cat 40 16 (.ireturn) 1 0 0 (0) := ⟨rfl, rfl⟩
noncomputable def fn40 (v1 : Int) (h : q_F) : Option (Int × q_F) :=
  (fn232 v1 h).bind fun x1 =>
  if x1.1 = 1 then (
    q_let (q_ud x1.2.2 153 0 x1.2.1) fun g2 =>
    some ((0 : Int), g2))
  else if x1.1 = 3 then (
      some ((1 : Int), x1.2.2))
  else none
theorem wn40 {Γ : q_Γ} (hG : q_GG Γ) {v1 : Int} (hr1 : q_r32 v1) {h : q_F} (hA : q_Al 0 155 h) {r : Int × q_F} (hf : fn40 v1 h = some r) :
    q_M Γ q_K 155 40 [(2, Int.ofNat 0), (0, v1), (2, Int.ofNat 153)] h (q_PW 0 155 0 0 r) := by
  unfold fn40 at hf
  refine q_M.of (by decide) (Nat.le_of_ble_eq_true rfl) hG ?_
  refine r_aload_n c40_0 rfl rfl ?_
  refine r_iconst c40_1 rfl ?_
  refine r_aload_n c40_2 rfl rfl ?_
  refine r_iload_n c40_3 rfl rfl ?_
  obtain ⟨x1, e1, hf⟩ := q_bd_i hf
  refine r_vcG c40_4 (by decide) (by decide) rfl rfl rfl rfl (wn232 hG hr1 hA e1) ?_
  intro t1 w1 k1 p1
  obtain ⟨rfl, hw1, rfl, hA_x1⟩ := p1
  rcases qx_sp hf with ⟨c1, hf⟩ | ⟨c1, hf⟩
  · obtain ⟨rfl, hv1⟩ := hw1 c1
    refine Or.inr (Or.inl ⟨c1, ?_⟩)
    refine r_i2l c40_7 (q_w32_r hv1) rfl ?_
    refine x_last hA_x1 c40_8 (by decide) rfl (by decide) ⟨by decide, by decide⟩ (by decide) (by decide) (show Int.toNat (0 : Int) = 0 from rfl) (q_r34 hv1) rfl ?_
    intro g2 e_g2 hA_g2
    replace hf := q_let_i hf e_g2
    refine r_goto c40_9 ?_
    refine r_iconst c40_15 rfl ?_
    cases q_so hf
    exact r_iret c40_16 ⟨rfl, rfl, rfl⟩ ⟨rfl, rfl, rfl, (⟨by decide, by decide⟩ : q_r32 (0 : Int)), hA_g2⟩
  · rcases qx_sp hf with ⟨c1e1, hf⟩ | ⟨c1e1, hf⟩
    · refine Or.inr (Or.inr ⟨1, c1e1, ?_⟩)
      refine Or.inl ⟨12, rfl, ?_⟩
      refine r_astore10_n c40_12 (lo' := [(3, _), (0, _), (1, _), (2, _)]) rfl rfl rfl ?_
      refine r_iconst c40_13 rfl ?_
      cases q_so hf
      exact r_iret c40_14 ⟨rfl, rfl, rfl⟩ ⟨rfl, rfl, rfl, (⟨by decide, by decide⟩ : q_r32 (1 : Int)), hA_x1⟩
    · cases hf
