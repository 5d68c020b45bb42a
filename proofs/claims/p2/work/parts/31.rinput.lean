/-! Part 31: the reference: its input. Printed by wip/tools/k30.py. -/
theorem c238_0 : q_cat 238 0 (.bipush 24) 2 0 0 (0) := ⟨rfl, rfl⟩
theorem c238_2 : q_cat 238 2 (.istore_n 2) 1 2 0 (0) := ⟨rfl, rfl⟩
theorem c238_3 : q_cat 238 3 (.iload_n 2) 1 2 0 (0) := ⟨rfl, rfl⟩
theorem c238_4 : q_cat 238 4 (.ifCond .lt 35) 3 39 0 (0) := ⟨rfl, rfl⟩
theorem c238_7 : q_cat 238 7 (.aload_n 0) 1 0 0 (0) := ⟨rfl, rfl⟩
theorem c238_8 : q_cat 238 8 (.getfield 41) 3 9 13 (3) := ⟨rfl, rfl⟩
theorem c238_11 : q_cat 238 11 (.aload_n 0) 1 0 0 (0) := ⟨rfl, rfl⟩
theorem c238_12 : q_cat 238 12 (.getfield 157) 3 9 14 (0) := ⟨rfl, rfl⟩
theorem c238_15 : q_cat 238 15 (.iload_n 1) 1 1 0 (0) := ⟨rfl, rfl⟩
theorem c238_16 : q_cat 238 16 (.iload_n 2) 1 2 0 (0) := ⟨rfl, rfl⟩
theorem c238_17 : q_cat 238 17 (.ishr) 1 0 0 (0) := ⟨rfl, rfl⟩
theorem c238_18 : q_cat 238 18 (.sipush 255) 3 0 0 (0) := ⟨rfl, rfl⟩
theorem c238_21 : q_cat 238 21 (.iand) 1 0 0 (0) := ⟨rfl, rfl⟩
theorem c238_22 : q_cat 238 22 (.iastore) 1 0 0 (0) := ⟨rfl, rfl⟩
theorem c238_23 : q_cat 238 23 (.aload_n 0) 1 0 0 (0) := ⟨rfl, rfl⟩
theorem c238_24 : q_cat 238 24 (.dup) 1 0 0 (0) := ⟨rfl, rfl⟩
theorem c238_25 : q_cat 238 25 (.getfield 157) 3 9 14 (0) := ⟨rfl, rfl⟩
theorem c238_28 : q_cat 238 28 (.iconst 1) 1 0 0 (0) := ⟨rfl, rfl⟩
theorem c238_29 : q_cat 238 29 (.iadd) 1 0 0 (0) := ⟨rfl, rfl⟩
theorem c238_30 : q_cat 238 30 (.putfield 157) 3 9 14 (0) := ⟨rfl, rfl⟩
theorem c238_33 : q_cat 238 33 (.iinc 2 (-8)) 3 2 0 (0) := ⟨rfl, rfl⟩
theorem c238_36 : q_cat 238 36 (.goto (-33)) 3 3 0 (0) := ⟨rfl, rfl⟩
theorem c238_39 : q_cat 238 39 (.return_) 1 0 0 (0) := ⟨rfl, rfl⟩
theorem k238 {Γ : q_Γ} (hG : q_GG Γ) {h : q_F} (hZ : q_Bz h) (hR : q_Rb h) {v1 : Int} (hr1 : q_r32 v1) (hp0 : 0 ≤ h 139 14 ∧ h 139 14 ≤ 596) :
    q_M Γ q_K 155 238 [(2, Int.ofNat 139), (0, v1)] h (fun t w h' => (t = 0 ∧ (h' 139 14 = h 139 14 + 4) ∧ q_Gr (fun k j => k = 150 ∨ (k = 139 ∧ j = 14)) h h')) := by
  refine q_M.of (by decide) (Nat.le_of_ble_eq_true rfl) hG ?_
  refine r_bipush c238_0 rfl ?_
  refine r_istore_n c238_2 (lo' := [(2, _), (0, _), (1, _)]) rfl rfl rfl ?_
  refine r_iload_n c238_3 rfl rfl ?_
  refine r_if_lt c238_4 rfl (show q_w32 (24) = 24 from rfl) ?_ ?_
  · intro b1
    exact absurd b1.1 (by decide)
  · intro b1
    refine r_aload_n c238_7 rfl rfl ?_
    refine r_getr c238_8 (by first | assumption | omega) (by decide) (by first | assumption | rfl) rfl rfl ?_
    refine r_aload_n c238_11 rfl rfl ?_
    refine r_getf (q_Gr.rb (S := fun k j => k = 150 ∨ (k = 139 ∧ j = 14)) hR (by repeat (first | exact q_Gr.rf | refine q_Gr.tr ?_ (by assumption) (by intro k9 j9 hk9; omega)))) c238_12 rfl (by decide) rfl ?_
    intro y2
    refine r_iload_n c238_15 rfl rfl ?_
    refine r_iload_n c238_16 rfl rfl ?_
    refine r_ishr c238_17 rfl rfl ?_
    refine r_sipush c238_18 rfl ?_
    refine r_iand c238_21 rfl rfl ?_
    refine r_iastw c238_22 (by first | assumption | omega) (by first | assumption | rfl) (by first | assumption | decide) (by first | exact q_w32_id (by omega) (by omega) | exact q_w32w _ | exact rfl) (by first | assumption | omega) (by first | assumption | omega) (q_Rv0 (fun h9 => absurd h9 (by decide)) (fun h9 => absurd h9 (by decide)) (fun h9 h8 => absurd h8 (by decide)) (fun _ _ => (by first | assumption | omega | exact ⟨q_rg1 _, q_rg2 _⟩ | exact ⟨q_rh1 _, q_rh2 _⟩ | exact q_rj ⟨q_rg1 _, q_rg2 _⟩ | exact q_rgi _ | exact q_rgj _ | exact q_rj (q_rgi _) | exact q_rj (by assumption)))) rfl ?_
    intro g3 f3 w3
    have m140004f3 := f3.1 140 4 (by omega)
    have m139014f3 := f3.1 139 14 (by omega)
    have m139005f3 := f3.1 139 5 (by omega)
    refine r_aload_n c238_23 rfl rfl ?_
    refine r_dup c238_24 rfl rfl ?_
    refine r_getf (q_Gr.rb (S := fun k j => k = 150 ∨ (k = 139 ∧ j = 14)) hR (by repeat (first | exact q_Gr.rf | refine q_Gr.tr ?_ (by assumption) (by intro k9 j9 hk9; omega)))) c238_25 rfl (by decide) rfl ?_
    intro y4
    refine r_iconst c238_28 rfl ?_
    refine r_iadd c238_29 (by first | exact q_w32_id (by omega) (by omega) | exact q_w32w _ | exact rfl) rfl ?_
    refine r_putiw c238_30 rfl rfl rfl (q_Rv0 (fun h9 => absurd h9 (by decide)) (fun _ => ⟨(by first | assumption | omega | exact ⟨q_rg1 _, q_rg2 _⟩ | exact ⟨q_rh1 _, q_rh2 _⟩ | exact q_rj ⟨q_rg1 _, q_rg2 _⟩ | exact q_rgi _ | exact q_rgj _ | exact q_rj (q_rgi _) | exact q_rj (by assumption)), Or.inr (by first | assumption | omega | exact ⟨q_rg1 _, q_rg2 _⟩ | exact ⟨q_rh1 _, q_rh2 _⟩ | exact q_rj ⟨q_rg1 _, q_rg2 _⟩ | exact q_rgi _ | exact q_rgj _ | exact q_rj (q_rgi _) | exact q_rj (by assumption)), by omega⟩) (fun h9 h8 => absurd h9 (by decide)) (fun h9 h8 => absurd h9 (by decide))) rfl ?_
    intro g5 f5 w5
    have m140004f5 := f5.1 140 4 (by omega)
    have m139005f5 := f5.1 139 5 (by omega)
    refine r_iinc c238_33 rfl (show q_w32 (24 + (-8)) = 16 from rfl) (lo' := [(2, _), (0, _), (1, _)]) rfl rfl rfl ?_
    refine r_goto c238_36 ?_
    refine r_iload_n c238_3 rfl rfl ?_
    refine r_if_lt c238_4 rfl (show q_w32 (16) = 16 from rfl) ?_ ?_
    · intro b6
      exact absurd b6.1 (by decide)
    · intro b6
      refine r_aload_n c238_7 rfl rfl ?_
      refine r_getr c238_8 (by first | assumption | omega) (by decide) (by first | assumption | rfl) rfl rfl ?_
      refine r_aload_n c238_11 rfl rfl ?_
      refine r_getf (q_Gr.rb (S := fun k j => k = 150 ∨ (k = 139 ∧ j = 14)) hR (by repeat (first | exact q_Gr.rf | refine q_Gr.tr ?_ (by assumption) (by intro k9 j9 hk9; omega)))) c238_12 rfl (by decide) rfl ?_
      intro y7
      refine r_iload_n c238_15 rfl rfl ?_
      refine r_iload_n c238_16 rfl rfl ?_
      refine r_ishr c238_17 rfl rfl ?_
      refine r_sipush c238_18 rfl ?_
      refine r_iand c238_21 rfl rfl ?_
      refine r_iastw c238_22 (by first | assumption | omega) (by first | assumption | rfl) (by first | assumption | decide) (by first | exact q_w32_id (by omega) (by omega) | exact q_w32w _ | exact rfl) (by first | assumption | omega) (by first | assumption | omega) (q_Rv0 (fun h9 => absurd h9 (by decide)) (fun h9 => absurd h9 (by decide)) (fun h9 h8 => absurd h8 (by decide)) (fun _ _ => (by first | assumption | omega | exact ⟨q_rg1 _, q_rg2 _⟩ | exact ⟨q_rh1 _, q_rh2 _⟩ | exact q_rj ⟨q_rg1 _, q_rg2 _⟩ | exact q_rgi _ | exact q_rgj _ | exact q_rj (q_rgi _) | exact q_rj (by assumption)))) rfl ?_
      intro g8 f8 w8
      have m140004f8 := f8.1 140 4 (by omega)
      have m139014f8 := f8.1 139 14 (by omega)
      have m139005f8 := f8.1 139 5 (by omega)
      refine r_aload_n c238_23 rfl rfl ?_
      refine r_dup c238_24 rfl rfl ?_
      refine r_getf (q_Gr.rb (S := fun k j => k = 150 ∨ (k = 139 ∧ j = 14)) hR (by repeat (first | exact q_Gr.rf | refine q_Gr.tr ?_ (by assumption) (by intro k9 j9 hk9; omega)))) c238_25 rfl (by decide) rfl ?_
      intro y9
      refine r_iconst c238_28 rfl ?_
      refine r_iadd c238_29 (by first | exact q_w32_id (by omega) (by omega) | exact q_w32w _ | exact rfl) rfl ?_
      refine r_putiw c238_30 rfl rfl rfl (q_Rv0 (fun h9 => absurd h9 (by decide)) (fun _ => ⟨(by first | assumption | omega | exact ⟨q_rg1 _, q_rg2 _⟩ | exact ⟨q_rh1 _, q_rh2 _⟩ | exact q_rj ⟨q_rg1 _, q_rg2 _⟩ | exact q_rgi _ | exact q_rgj _ | exact q_rj (q_rgi _) | exact q_rj (by assumption)), Or.inr (by first | assumption | omega | exact ⟨q_rg1 _, q_rg2 _⟩ | exact ⟨q_rh1 _, q_rh2 _⟩ | exact q_rj ⟨q_rg1 _, q_rg2 _⟩ | exact q_rgi _ | exact q_rgj _ | exact q_rj (q_rgi _) | exact q_rj (by assumption)), by omega⟩) (fun h9 h8 => absurd h9 (by decide)) (fun h9 h8 => absurd h9 (by decide))) rfl ?_
      intro g10 f10 w10
      have m140004f10 := f10.1 140 4 (by omega)
      have m139005f10 := f10.1 139 5 (by omega)
      refine r_iinc c238_33 rfl (show q_w32 (16 + (-8)) = 8 from rfl) (lo' := [(2, _), (0, _), (1, _)]) rfl rfl rfl ?_
      refine r_goto c238_36 ?_
      refine r_iload_n c238_3 rfl rfl ?_
      refine r_if_lt c238_4 rfl (show q_w32 (8) = 8 from rfl) ?_ ?_
      · intro b11
        exact absurd b11.1 (by decide)
      · intro b11
        refine r_aload_n c238_7 rfl rfl ?_
        refine r_getr c238_8 (by first | assumption | omega) (by decide) (by first | assumption | rfl) rfl rfl ?_
        refine r_aload_n c238_11 rfl rfl ?_
        refine r_getf (q_Gr.rb (S := fun k j => k = 150 ∨ (k = 139 ∧ j = 14)) hR (by repeat (first | exact q_Gr.rf | refine q_Gr.tr ?_ (by assumption) (by intro k9 j9 hk9; omega)))) c238_12 rfl (by decide) rfl ?_
        intro y12
        refine r_iload_n c238_15 rfl rfl ?_
        refine r_iload_n c238_16 rfl rfl ?_
        refine r_ishr c238_17 rfl rfl ?_
        refine r_sipush c238_18 rfl ?_
        refine r_iand c238_21 rfl rfl ?_
        refine r_iastw c238_22 (by first | assumption | omega) (by first | assumption | rfl) (by first | assumption | decide) (by first | exact q_w32_id (by omega) (by omega) | exact q_w32w _ | exact rfl) (by first | assumption | omega) (by first | assumption | omega) (q_Rv0 (fun h9 => absurd h9 (by decide)) (fun h9 => absurd h9 (by decide)) (fun h9 h8 => absurd h8 (by decide)) (fun _ _ => (by first | assumption | omega | exact ⟨q_rg1 _, q_rg2 _⟩ | exact ⟨q_rh1 _, q_rh2 _⟩ | exact q_rj ⟨q_rg1 _, q_rg2 _⟩ | exact q_rgi _ | exact q_rgj _ | exact q_rj (q_rgi _) | exact q_rj (by assumption)))) rfl ?_
        intro g13 f13 w13
        have m140004f13 := f13.1 140 4 (by omega)
        have m139014f13 := f13.1 139 14 (by omega)
        have m139005f13 := f13.1 139 5 (by omega)
        refine r_aload_n c238_23 rfl rfl ?_
        refine r_dup c238_24 rfl rfl ?_
        refine r_getf (q_Gr.rb (S := fun k j => k = 150 ∨ (k = 139 ∧ j = 14)) hR (by repeat (first | exact q_Gr.rf | refine q_Gr.tr ?_ (by assumption) (by intro k9 j9 hk9; omega)))) c238_25 rfl (by decide) rfl ?_
        intro y14
        refine r_iconst c238_28 rfl ?_
        refine r_iadd c238_29 (by first | exact q_w32_id (by omega) (by omega) | exact q_w32w _ | exact rfl) rfl ?_
        refine r_putiw c238_30 rfl rfl rfl (q_Rv0 (fun h9 => absurd h9 (by decide)) (fun _ => ⟨(by first | assumption | omega | exact ⟨q_rg1 _, q_rg2 _⟩ | exact ⟨q_rh1 _, q_rh2 _⟩ | exact q_rj ⟨q_rg1 _, q_rg2 _⟩ | exact q_rgi _ | exact q_rgj _ | exact q_rj (q_rgi _) | exact q_rj (by assumption)), Or.inr (by first | assumption | omega | exact ⟨q_rg1 _, q_rg2 _⟩ | exact ⟨q_rh1 _, q_rh2 _⟩ | exact q_rj ⟨q_rg1 _, q_rg2 _⟩ | exact q_rgi _ | exact q_rgj _ | exact q_rj (q_rgi _) | exact q_rj (by assumption)), by omega⟩) (fun h9 h8 => absurd h9 (by decide)) (fun h9 h8 => absurd h9 (by decide))) rfl ?_
        intro g15 f15 w15
        have m140004f15 := f15.1 140 4 (by omega)
        have m139005f15 := f15.1 139 5 (by omega)
        refine r_iinc c238_33 rfl (show q_w32 (8 + (-8)) = 0 from rfl) (lo' := [(2, _), (0, _), (1, _)]) rfl rfl rfl ?_
        refine r_goto c238_36 ?_
        refine r_iload_n c238_3 rfl rfl ?_
        refine r_if_lt c238_4 rfl (show q_w32 (0) = 0 from rfl) ?_ ?_
        · intro b16
          exact absurd b16.1 (by decide)
        · intro b16
          refine r_aload_n c238_7 rfl rfl ?_
          refine r_getr c238_8 (by first | assumption | omega) (by decide) (by first | assumption | rfl) rfl rfl ?_
          refine r_aload_n c238_11 rfl rfl ?_
          refine r_getf (q_Gr.rb (S := fun k j => k = 150 ∨ (k = 139 ∧ j = 14)) hR (by repeat (first | exact q_Gr.rf | refine q_Gr.tr ?_ (by assumption) (by intro k9 j9 hk9; omega)))) c238_12 rfl (by decide) rfl ?_
          intro y17
          refine r_iload_n c238_15 rfl rfl ?_
          refine r_iload_n c238_16 rfl rfl ?_
          refine r_ishr c238_17 rfl rfl ?_
          refine r_sipush c238_18 rfl ?_
          refine r_iand c238_21 rfl rfl ?_
          refine r_iastw c238_22 (by first | assumption | omega) (by first | assumption | rfl) (by first | assumption | decide) (by first | exact q_w32_id (by omega) (by omega) | exact q_w32w _ | exact rfl) (by first | assumption | omega) (by first | assumption | omega) (q_Rv0 (fun h9 => absurd h9 (by decide)) (fun h9 => absurd h9 (by decide)) (fun h9 h8 => absurd h8 (by decide)) (fun _ _ => (by first | assumption | omega | exact ⟨q_rg1 _, q_rg2 _⟩ | exact ⟨q_rh1 _, q_rh2 _⟩ | exact q_rj ⟨q_rg1 _, q_rg2 _⟩ | exact q_rgi _ | exact q_rgj _ | exact q_rj (q_rgi _) | exact q_rj (by assumption)))) rfl ?_
          intro g18 f18 w18
          have m140004f18 := f18.1 140 4 (by omega)
          have m139014f18 := f18.1 139 14 (by omega)
          have m139005f18 := f18.1 139 5 (by omega)
          refine r_aload_n c238_23 rfl rfl ?_
          refine r_dup c238_24 rfl rfl ?_
          refine r_getf (q_Gr.rb (S := fun k j => k = 150 ∨ (k = 139 ∧ j = 14)) hR (by repeat (first | exact q_Gr.rf | refine q_Gr.tr ?_ (by assumption) (by intro k9 j9 hk9; omega)))) c238_25 rfl (by decide) rfl ?_
          intro y19
          refine r_iconst c238_28 rfl ?_
          refine r_iadd c238_29 (by first | exact q_w32_id (by omega) (by omega) | exact q_w32w _ | exact rfl) rfl ?_
          refine r_putiw c238_30 rfl rfl rfl (q_Rv0 (fun h9 => absurd h9 (by decide)) (fun _ => ⟨(by first | assumption | omega | exact ⟨q_rg1 _, q_rg2 _⟩ | exact ⟨q_rh1 _, q_rh2 _⟩ | exact q_rj ⟨q_rg1 _, q_rg2 _⟩ | exact q_rgi _ | exact q_rgj _ | exact q_rj (q_rgi _) | exact q_rj (by assumption)), Or.inr (by first | assumption | omega | exact ⟨q_rg1 _, q_rg2 _⟩ | exact ⟨q_rh1 _, q_rh2 _⟩ | exact q_rj ⟨q_rg1 _, q_rg2 _⟩ | exact q_rgi _ | exact q_rgj _ | exact q_rj (q_rgi _) | exact q_rj (by assumption)), by omega⟩) (fun h9 h8 => absurd h9 (by decide)) (fun h9 h8 => absurd h9 (by decide))) rfl ?_
          intro g20 f20 w20
          have m140004f20 := f20.1 140 4 (by omega)
          have m139005f20 := f20.1 139 5 (by omega)
          refine r_iinc c238_33 rfl (show q_w32 (0 + (-8)) = -8 from rfl) (lo' := [(2, _), (0, _), (1, _)]) rfl rfl rfl ?_
          refine r_goto c238_36 ?_
          refine r_iload_n c238_3 rfl rfl ?_
          refine r_if_lt c238_4 rfl (show q_w32 (-8) = -8 from rfl) ?_ ?_
          · intro b21
            exact r_vret c238_39 ⟨rfl, rfl, rfl⟩ ⟨rfl, (by omega), (by repeat (first | exact q_Gr.rf | refine q_Gr.tr ?_ (by assumption) (by intro k9 j9 hk9; omega)))⟩
          · intro b21
            exact absurd b21.1 (by decide)
theorem c237_0 : q_cat 237 0 (.aload_n 0) 1 0 0 (0) := ⟨rfl, rfl⟩
theorem c237_1 : q_cat 237 1 (.iconst 0) 1 0 0 (0) := ⟨rfl, rfl⟩
theorem c237_2 : q_cat 237 2 (.putfield 60) 3 9 7 (0) := ⟨rfl, rfl⟩
theorem c237_5 : q_cat 237 5 (.aload_n 0) 1 0 0 (0) := ⟨rfl, rfl⟩
theorem c237_6 : q_cat 237 6 (.getfield 157) 3 9 14 (0) := ⟨rfl, rfl⟩
theorem c237_9 : q_cat 237 9 (.bipush 20) 2 0 0 (0) := ⟨rfl, rfl⟩
theorem c237_11 : q_cat 237 11 (.iadd) 1 0 0 (0) := ⟨rfl, rfl⟩
theorem c237_12 : q_cat 237 12 (.sipush 600) 3 0 0 (0) := ⟨rfl, rfl⟩
theorem c237_15 : q_cat 237 15 (.if_icmp .le 5) 3 20 0 (0) := ⟨rfl, rfl⟩
theorem c237_18 : q_cat 237 18 (.iconst (-1)) 1 0 0 (0) := ⟨rfl, rfl⟩
theorem c237_19 : q_cat 237 19 (.ireturn) 1 0 0 (0) := ⟨rfl, rfl⟩
theorem c237_20 : q_cat 237 20 (.aload_n 0) 1 0 0 (0) := ⟨rfl, rfl⟩
theorem c237_21 : q_cat 237 21 (.iload_n 1) 1 1 0 (0) := ⟨rfl, rfl⟩
theorem c237_22 : q_cat 237 22 (.invokevirtual 160) 3 238 0 (0) := ⟨rfl, rfl⟩
theorem c237_25 : q_cat 237 25 (.aload_n 0) 1 0 0 (0) := ⟨rfl, rfl⟩
theorem c237_26 : q_cat 237 26 (.iload_n 2) 1 2 0 (0) := ⟨rfl, rfl⟩
theorem c237_27 : q_cat 237 27 (.invokevirtual 160) 3 238 0 (0) := ⟨rfl, rfl⟩
theorem c237_30 : q_cat 237 30 (.aload_n 0) 1 0 0 (0) := ⟨rfl, rfl⟩
theorem c237_31 : q_cat 237 31 (.iload_n 3) 1 3 0 (0) := ⟨rfl, rfl⟩
theorem c237_32 : q_cat 237 32 (.invokevirtual 160) 3 238 0 (0) := ⟨rfl, rfl⟩
theorem c237_35 : q_cat 237 35 (.aload_n 0) 1 0 0 (0) := ⟨rfl, rfl⟩
theorem c237_36 : q_cat 237 36 (.iload 4) 2 4 0 (0) := ⟨rfl, rfl⟩
theorem c237_38 : q_cat 237 38 (.invokevirtual 160) 3 238 0 (0) := ⟨rfl, rfl⟩
theorem c237_41 : q_cat 237 41 (.aload_n 0) 1 0 0 (0) := ⟨rfl, rfl⟩
theorem c237_42 : q_cat 237 42 (.iload 5) 2 5 0 (0) := ⟨rfl, rfl⟩
theorem c237_44 : q_cat 237 44 (.invokevirtual 160) 3 238 0 (0) := ⟨rfl, rfl⟩
theorem c237_47 : q_cat 237 47 (.aload_n 0) 1 0 0 (0) := ⟨rfl, rfl⟩
theorem c237_48 : q_cat 237 48 (.getfield 157) 3 9 14 (0) := ⟨rfl, rfl⟩
theorem c237_51 : q_cat 237 51 (.ireturn) 1 0 0 (0) := ⟨rfl, rfl⟩
theorem k237 {Γ : q_Γ} (hG : q_GG Γ) {h : q_F} (hZ : q_Bz h) (hR : q_Rb h) {v1 : Int} {v2 : Int} {v3 : Int} {v4 : Int} {v5 : Int} (hr1 : q_r32 v1) (hr2 : q_r32 v2) (hr3 : q_r32 v3) (hr4 : q_r32 v4) (hr5 : q_r32 v5) :
    q_M Γ q_K 155 237 [(2, Int.ofNat 139), (0, v1), (0, v2), (0, v3), (0, v4), (0, v5)] h (fun t w h' => (t = 1 ∧ (∃ z, w = ((0, z) : q_V) ∧ q_r32 z ∧ ((580 < h 139 14 ∧ z = -1 ∧ h' 139 14 = h 139 14) ∨ (h 139 14 ≤ 580 ∧ z = h 139 14 + 20 ∧ h' 139 14 = z))) ∧ q_Gr (fun k j => k = 150 ∨ (k = 139 ∧ (j = 7 ∨ j = 14))) h h')) := by
  refine q_M.of (by decide) (Nat.le_of_ble_eq_true rfl) hG ?_
  refine r_aload_n c237_0 rfl rfl ?_
  refine r_iconst c237_1 rfl ?_
  refine r_putiw c237_2 rfl rfl rfl (q_Rv0 (fun h9 => absurd h9 (by decide)) (fun _ => ⟨(by first | assumption | omega | exact ⟨q_rg1 _, q_rg2 _⟩ | exact ⟨q_rh1 _, q_rh2 _⟩ | exact q_rj ⟨q_rg1 _, q_rg2 _⟩ | exact q_rgi _ | exact q_rgj _ | exact q_rj (q_rgi _) | exact q_rj (by assumption)), Or.inr (by first | assumption | omega | exact ⟨q_rg1 _, q_rg2 _⟩ | exact ⟨q_rh1 _, q_rh2 _⟩ | exact q_rj ⟨q_rg1 _, q_rg2 _⟩ | exact q_rgi _ | exact q_rgj _ | exact q_rj (q_rgi _) | exact q_rj (by assumption)), by omega⟩) (fun h9 h8 => absurd h9 (by decide)) (fun h9 h8 => absurd h9 (by decide))) rfl ?_
  intro g1 f1 w1
  have m140004f1 := f1.1 140 4 (by omega)
  have m139014f1 := f1.1 139 14 (by omega)
  have m139005f1 := f1.1 139 5 (by omega)
  refine r_aload_n c237_5 rfl rfl ?_
  refine r_getf (q_Gr.rb (S := fun k j => k = 150 ∨ (k = 139 ∧ (j = 7 ∨ j = 14))) hR (by repeat (first | exact q_Gr.rf | refine q_Gr.tr ?_ (by assumption) (by intro k9 j9 hk9; omega)))) c237_6 rfl (by decide) rfl ?_
  intro y2
  refine r_bipush c237_9 rfl ?_
  refine r_iadd c237_11 (by first | exact q_w32_id (by omega) (by omega) | exact q_w32w _ | exact rfl) rfl ?_
  refine r_sipush c237_12 rfl ?_
  refine r_ic_le c237_15 rfl (by first | exact q_w32_id (by omega) (by omega) | exact q_w32w _ | exact rfl) (show q_w32 (600) = 600 from rfl) ?_ ?_
  · intro b3
    refine r_aload_n c237_20 rfl rfl ?_
    refine r_iload_n c237_21 rfl rfl ?_
    refine r_vcG c237_22 (by first | assumption | omega) (by decide) (by first | assumption | rfl) rfl rfl rfl (k238 hG (q_Gr.bz (S := fun k j => k = 150 ∨ (k = 139 ∧ (j = 7 ∨ j = 14))) hZ (by repeat (first | exact q_Gr.rf | refine q_Gr.tr ?_ (by assumption) (by intro k9 j9 hk9; omega)))) (q_Gr.rb (S := fun k j => k = 150 ∨ (k = 139 ∧ (j = 7 ∨ j = 14))) hR (by repeat (first | exact q_Gr.rf | refine q_Gr.tr ?_ (by assumption) (by intro k9 j9 hk9; omega)))) (by first | assumption | omega | exact ⟨q_rg1 _, q_rg2 _⟩ | exact ⟨q_rh1 _, q_rh2 _⟩ | exact q_rj ⟨q_rg1 _, q_rg2 _⟩ | exact q_rgi _ | exact q_rgj _ | exact q_rj (q_rgi _) | exact q_rj (by assumption)) (by first | assumption | omega)) ?_
    intro t4 w4 g4 p4
    obtain ⟨rfl, hs4, e4⟩ := p4
    have m140004e4 := e4.1 140 4 (by omega)
    have m139005e4 := e4.1 139 5 (by omega)
    refine Or.inl ⟨rfl, ?_⟩
    refine r_aload_n c237_25 rfl rfl ?_
    refine r_iload_n c237_26 rfl rfl ?_
    refine r_vcG c237_27 (by first | assumption | omega) (by decide) (by first | assumption | rfl) rfl rfl rfl (k238 hG (q_Gr.bz (S := fun k j => k = 150 ∨ (k = 139 ∧ (j = 7 ∨ j = 14))) hZ (by repeat (first | exact q_Gr.rf | refine q_Gr.tr ?_ (by assumption) (by intro k9 j9 hk9; omega)))) (q_Gr.rb (S := fun k j => k = 150 ∨ (k = 139 ∧ (j = 7 ∨ j = 14))) hR (by repeat (first | exact q_Gr.rf | refine q_Gr.tr ?_ (by assumption) (by intro k9 j9 hk9; omega)))) (by first | assumption | omega | exact ⟨q_rg1 _, q_rg2 _⟩ | exact ⟨q_rh1 _, q_rh2 _⟩ | exact q_rj ⟨q_rg1 _, q_rg2 _⟩ | exact q_rgi _ | exact q_rgj _ | exact q_rj (q_rgi _) | exact q_rj (by assumption)) (by first | assumption | omega)) ?_
    intro t5 w5 g5 p5
    obtain ⟨rfl, hs5, e5⟩ := p5
    have m140004e5 := e5.1 140 4 (by omega)
    have m139005e5 := e5.1 139 5 (by omega)
    refine Or.inl ⟨rfl, ?_⟩
    refine r_aload_n c237_30 rfl rfl ?_
    refine r_iload_n c237_31 rfl rfl ?_
    refine r_vcG c237_32 (by first | assumption | omega) (by decide) (by first | assumption | rfl) rfl rfl rfl (k238 hG (q_Gr.bz (S := fun k j => k = 150 ∨ (k = 139 ∧ (j = 7 ∨ j = 14))) hZ (by repeat (first | exact q_Gr.rf | refine q_Gr.tr ?_ (by assumption) (by intro k9 j9 hk9; omega)))) (q_Gr.rb (S := fun k j => k = 150 ∨ (k = 139 ∧ (j = 7 ∨ j = 14))) hR (by repeat (first | exact q_Gr.rf | refine q_Gr.tr ?_ (by assumption) (by intro k9 j9 hk9; omega)))) (by first | assumption | omega | exact ⟨q_rg1 _, q_rg2 _⟩ | exact ⟨q_rh1 _, q_rh2 _⟩ | exact q_rj ⟨q_rg1 _, q_rg2 _⟩ | exact q_rgi _ | exact q_rgj _ | exact q_rj (q_rgi _) | exact q_rj (by assumption)) (by first | assumption | omega)) ?_
    intro t6 w6 g6 p6
    obtain ⟨rfl, hs6, e6⟩ := p6
    have m140004e6 := e6.1 140 4 (by omega)
    have m139005e6 := e6.1 139 5 (by omega)
    refine Or.inl ⟨rfl, ?_⟩
    refine r_aload_n c237_35 rfl rfl ?_
    refine r_iload c237_36 rfl rfl ?_
    refine r_vcG c237_38 (by first | assumption | omega) (by decide) (by first | assumption | rfl) rfl rfl rfl (k238 hG (q_Gr.bz (S := fun k j => k = 150 ∨ (k = 139 ∧ (j = 7 ∨ j = 14))) hZ (by repeat (first | exact q_Gr.rf | refine q_Gr.tr ?_ (by assumption) (by intro k9 j9 hk9; omega)))) (q_Gr.rb (S := fun k j => k = 150 ∨ (k = 139 ∧ (j = 7 ∨ j = 14))) hR (by repeat (first | exact q_Gr.rf | refine q_Gr.tr ?_ (by assumption) (by intro k9 j9 hk9; omega)))) (by first | assumption | omega | exact ⟨q_rg1 _, q_rg2 _⟩ | exact ⟨q_rh1 _, q_rh2 _⟩ | exact q_rj ⟨q_rg1 _, q_rg2 _⟩ | exact q_rgi _ | exact q_rgj _ | exact q_rj (q_rgi _) | exact q_rj (by assumption)) (by first | assumption | omega)) ?_
    intro t7 w7 g7 p7
    obtain ⟨rfl, hs7, e7⟩ := p7
    have m140004e7 := e7.1 140 4 (by omega)
    have m139005e7 := e7.1 139 5 (by omega)
    refine Or.inl ⟨rfl, ?_⟩
    refine r_aload_n c237_41 rfl rfl ?_
    refine r_iload c237_42 rfl rfl ?_
    refine r_vcG c237_44 (by first | assumption | omega) (by decide) (by first | assumption | rfl) rfl rfl rfl (k238 hG (q_Gr.bz (S := fun k j => k = 150 ∨ (k = 139 ∧ (j = 7 ∨ j = 14))) hZ (by repeat (first | exact q_Gr.rf | refine q_Gr.tr ?_ (by assumption) (by intro k9 j9 hk9; omega)))) (q_Gr.rb (S := fun k j => k = 150 ∨ (k = 139 ∧ (j = 7 ∨ j = 14))) hR (by repeat (first | exact q_Gr.rf | refine q_Gr.tr ?_ (by assumption) (by intro k9 j9 hk9; omega)))) (by first | assumption | omega | exact ⟨q_rg1 _, q_rg2 _⟩ | exact ⟨q_rh1 _, q_rh2 _⟩ | exact q_rj ⟨q_rg1 _, q_rg2 _⟩ | exact q_rgi _ | exact q_rgj _ | exact q_rj (q_rgi _) | exact q_rj (by assumption)) (by first | assumption | omega)) ?_
    intro t8 w8 g8 p8
    obtain ⟨rfl, hs8, e8⟩ := p8
    have m140004e8 := e8.1 140 4 (by omega)
    have m139005e8 := e8.1 139 5 (by omega)
    refine Or.inl ⟨rfl, ?_⟩
    refine r_aload_n c237_47 rfl rfl ?_
    refine r_getf (q_Gr.rb (S := fun k j => k = 150 ∨ (k = 139 ∧ (j = 7 ∨ j = 14))) hR (by repeat (first | exact q_Gr.rf | refine q_Gr.tr ?_ (by assumption) (by intro k9 j9 hk9; omega)))) c237_48 rfl (by decide) rfl ?_
    intro y9
    exact r_iret c237_51 ⟨rfl, rfl, rfl⟩ ⟨rfl, ⟨_, rfl, (by first | assumption | omega | exact ⟨q_rg1 _, q_rg2 _⟩ | exact ⟨q_rh1 _, q_rh2 _⟩ | exact q_rj ⟨q_rg1 _, q_rg2 _⟩ | exact q_rgi _ | exact q_rgj _ | exact q_rj (q_rgi _) | exact q_rj (by assumption)), (by omega)⟩, (by repeat (first | exact q_Gr.rf | refine q_Gr.tr ?_ (by assumption) (by intro k9 j9 hk9; omega)))⟩
  · intro b3
    refine r_iconst c237_18 rfl ?_
    exact r_iret c237_19 ⟨rfl, rfl, rfl⟩ ⟨rfl, ⟨_, rfl, (by first | assumption | omega | exact ⟨q_rg1 _, q_rg2 _⟩ | exact ⟨q_rh1 _, q_rh2 _⟩ | exact q_rj ⟨q_rg1 _, q_rg2 _⟩ | exact q_rgi _ | exact q_rgj _ | exact q_rj (q_rgi _) | exact q_rj (by assumption)), (by omega)⟩, (by repeat (first | exact q_Gr.rf | refine q_Gr.tr ?_ (by assumption) (by intro k9 j9 hk9; omega)))⟩
theorem c358_0 : q_cat 358 0 (.aload_n 0) 1 0 0 (0) := ⟨rfl, rfl⟩
theorem c358_1 : q_cat 358 1 (.iconst 0) 1 0 0 (0) := ⟨rfl, rfl⟩
theorem c358_2 : q_cat 358 2 (.putfield 60) 3 9 7 (0) := ⟨rfl, rfl⟩
theorem c358_5 : q_cat 358 5 (.iload_n 1) 1 1 0 (0) := ⟨rfl, rfl⟩
theorem c358_6 : q_cat 358 6 (.i2l) 1 0 0 (0) := ⟨rfl, rfl⟩
theorem c358_7 : q_cat 358 7 (.lconst 0) 1 0 0 (0) := ⟨rfl, rfl⟩
theorem c358_8 : q_cat 358 8 (.aload_n 0) 1 0 0 (0) := ⟨rfl, rfl⟩
theorem c358_9 : q_cat 358 9 (.getfield 157) 3 9 14 (0) := ⟨rfl, rfl⟩
theorem c358_12 : q_cat 358 12 (.i2l) 1 0 0 (0) := ⟨rfl, rfl⟩
theorem c358_13 : q_cat 358 13 (.invokestatic 163) 3 267 1 (0) := ⟨rfl, rfl⟩
theorem c358_16 : q_cat 358 16 (.ifCond .ne 5) 3 21 0 (0) := ⟨rfl, rfl⟩
theorem c358_19 : q_cat 358 19 (.iconst 0) 1 0 0 (0) := ⟨rfl, rfl⟩
theorem c358_20 : q_cat 358 20 (.ireturn) 1 0 0 (0) := ⟨rfl, rfl⟩
theorem c358_21 : q_cat 358 21 (.aload_n 0) 1 0 0 (0) := ⟨rfl, rfl⟩
theorem c358_22 : q_cat 358 22 (.iload_n 1) 1 1 0 (0) := ⟨rfl, rfl⟩
theorem c358_23 : q_cat 358 23 (.putfield 157) 3 9 14 (0) := ⟨rfl, rfl⟩
theorem c358_26 : q_cat 358 26 (.iconst 1) 1 0 0 (0) := ⟨rfl, rfl⟩
theorem c358_27 : q_cat 358 27 (.ireturn) 1 0 0 (0) := ⟨rfl, rfl⟩
theorem k358 {Γ : q_Γ} (hG : q_GG Γ) {h : q_F} (hZ : q_Bz h) (hR : q_Rb h) {v1 : Int} (hr1 : q_r32 v1) :
    q_M Γ q_K 155 358 [(2, Int.ofNat 139), (0, v1)] h (fun t w h' => (t = 1 ∧ (∃ z, w = ((0, z) : q_V) ∧ (z = 0 ∨ z = 1) ∧ ((z = 1 ∧ 0 ≤ v1 ∧ v1 ≤ h 139 14 ∧ h' 139 14 = v1) ∨ (z = 0 ∧ (v1 < 0 ∨ h 139 14 < v1) ∧ h' 139 14 = h 139 14))) ∧ q_Gr (fun k j => k = 139 ∧ (j = 7 ∨ j = 14)) h h')) := by
  refine q_M.of (by decide) (Nat.le_of_ble_eq_true rfl) hG ?_
  refine r_aload_n c358_0 rfl rfl ?_
  refine r_iconst c358_1 rfl ?_
  refine r_putiw c358_2 rfl rfl rfl (q_Rv0 (fun h9 => absurd h9 (by decide)) (fun _ => ⟨(by first | assumption | omega | exact ⟨q_rg1 _, q_rg2 _⟩ | exact ⟨q_rh1 _, q_rh2 _⟩ | exact q_rj ⟨q_rg1 _, q_rg2 _⟩ | exact q_rgi _ | exact q_rgj _ | exact q_rj (q_rgi _) | exact q_rj (by assumption)), Or.inr (by first | assumption | omega | exact ⟨q_rg1 _, q_rg2 _⟩ | exact ⟨q_rh1 _, q_rh2 _⟩ | exact q_rj ⟨q_rg1 _, q_rg2 _⟩ | exact q_rgi _ | exact q_rgj _ | exact q_rj (q_rgi _) | exact q_rj (by assumption)), by omega⟩) (fun h9 h8 => absurd h9 (by decide)) (fun h9 h8 => absurd h9 (by decide))) rfl ?_
  intro g1 f1 w1
  have m140004f1 := f1.1 140 4 (by omega)
  have m139014f1 := f1.1 139 14 (by omega)
  have m139005f1 := f1.1 139 5 (by omega)
  refine r_iload_n c358_5 rfl rfl ?_
  refine r_i2l c358_6 (by first | exact q_w32_id (by omega) (by omega) | exact q_w32w _ | exact rfl) rfl ?_
  refine r_lconst c358_7 rfl ?_
  refine r_aload_n c358_8 rfl rfl ?_
  refine r_getf (q_Gr.rb (S := fun k j => k = 139 ∧ (j = 7 ∨ j = 14)) hR (by repeat (first | exact q_Gr.rf | refine q_Gr.tr ?_ (by assumption) (by intro k9 j9 hk9; omega)))) c358_9 rfl (by decide) rfl ?_
  intro y2
  refine r_i2l c358_12 (by first | exact q_w32_id (by omega) (by omega) | exact q_w32w _ | exact rfl) rfl ?_
  refine r_callG c358_13 (fun _ => rfl) rfl rfl rfl (k267 hG (q_Gr.bz (S := fun k j => k = 139 ∧ (j = 7 ∨ j = 14)) hZ (by repeat (first | exact q_Gr.rf | refine q_Gr.tr ?_ (by assumption) (by intro k9 j9 hk9; omega)))) (q_Gr.rb (S := fun k j => k = 139 ∧ (j = 7 ∨ j = 14)) hR (by repeat (first | exact q_Gr.rf | refine q_Gr.tr ?_ (by assumption) (by intro k9 j9 hk9; omega)))) (by first | assumption | omega | exact ⟨q_rg1 _, q_rg2 _⟩ | exact ⟨q_rh1 _, q_rh2 _⟩ | exact q_rj ⟨q_rg1 _, q_rg2 _⟩ | exact q_rgi _ | exact q_rgj _ | exact q_rj (q_rgi _) | exact q_rj (by assumption)) (by first | assumption | omega | exact ⟨q_rg1 _, q_rg2 _⟩ | exact ⟨q_rh1 _, q_rh2 _⟩ | exact q_rj ⟨q_rg1 _, q_rg2 _⟩ | exact q_rgi _ | exact q_rgj _ | exact q_rj (q_rgi _) | exact q_rj (by assumption)) (by first | assumption | omega | exact ⟨q_rg1 _, q_rg2 _⟩ | exact ⟨q_rh1 _, q_rh2 _⟩ | exact q_rj ⟨q_rg1 _, q_rg2 _⟩ | exact q_rgi _ | exact q_rgj _ | exact q_rj (q_rgi _) | exact q_rj (by assumption))) ?_
  intro t3 w3 g3 p3
  obtain ⟨rfl, ⟨z3, rfl, hz3, hs3⟩, e3⟩ := p3
  have q93 : g1 = g3 := e3.symm
  subst q93
  refine Or.inr (Or.inl ⟨rfl, ?_⟩)
  refine r_if_ne c358_16 rfl (by first | exact q_w32_id (by omega) (by omega) | exact q_w32w _ | exact rfl) ?_ ?_
  · intro b4
    refine r_aload_n c358_21 rfl rfl ?_
    refine r_iload_n c358_22 rfl rfl ?_
    refine r_putiw c358_23 rfl rfl rfl (q_Rv0 (fun h9 => absurd h9 (by decide)) (fun _ => ⟨(by first | assumption | omega | exact ⟨q_rg1 _, q_rg2 _⟩ | exact ⟨q_rh1 _, q_rh2 _⟩ | exact q_rj ⟨q_rg1 _, q_rg2 _⟩ | exact q_rgi _ | exact q_rgj _ | exact q_rj (q_rgi _) | exact q_rj (by assumption)), Or.inr (by first | assumption | omega | exact ⟨q_rg1 _, q_rg2 _⟩ | exact ⟨q_rh1 _, q_rh2 _⟩ | exact q_rj ⟨q_rg1 _, q_rg2 _⟩ | exact q_rgi _ | exact q_rgj _ | exact q_rj (q_rgi _) | exact q_rj (by assumption)), by omega⟩) (fun h9 h8 => absurd h9 (by decide)) (fun h9 h8 => absurd h9 (by decide))) rfl ?_
    intro g5 f5 w5
    have m140004f5 := f5.1 140 4 (by omega)
    have m139005f5 := f5.1 139 5 (by omega)
    refine r_iconst c358_26 rfl ?_
    exact r_zret c358_27 ⟨rfl, rfl, rfl⟩ (by decide) ⟨rfl, ⟨_, rfl, (by decide), (by omega)⟩, (by repeat (first | exact q_Gr.rf | refine q_Gr.tr ?_ (by assumption) (by intro k9 j9 hk9; omega)))⟩
  · intro b4
    refine r_iconst c358_19 rfl ?_
    exact r_zret c358_20 ⟨rfl, rfl, rfl⟩ (by decide) ⟨rfl, ⟨_, rfl, (by decide), (by omega)⟩, (by repeat (first | exact q_Gr.rf | refine q_Gr.tr ?_ (by assumption) (by intro k9 j9 hk9; omega)))⟩
