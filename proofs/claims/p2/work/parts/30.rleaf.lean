/-! Part 30: the reference over any heap that keeps its bounds: its leaves. Printed by wip/tools/k30.py. -/
theorem c267_0 : q_cat 267 0 (.lload_n 0) 1 0 0 (0) := ⟨rfl, rfl⟩
theorem c267_1 : q_cat 267 1 (.lload_n 2) 1 2 0 (0) := ⟨rfl, rfl⟩
theorem c267_2 : q_cat 267 2 (.lcmp) 1 0 0 (0) := ⟨rfl, rfl⟩
theorem c267_3 : q_cat 267 3 (.ifCond .lt 14) 3 17 0 (0) := ⟨rfl, rfl⟩
theorem c267_6 : q_cat 267 6 (.lload_n 0) 1 0 0 (0) := ⟨rfl, rfl⟩
theorem c267_7 : q_cat 267 7 (.lload 4) 2 4 0 (0) := ⟨rfl, rfl⟩
theorem c267_9 : q_cat 267 9 (.lcmp) 1 0 0 (0) := ⟨rfl, rfl⟩
theorem c267_10 : q_cat 267 10 (.ifCond .gt 7) 3 17 0 (0) := ⟨rfl, rfl⟩
theorem c267_13 : q_cat 267 13 (.iconst 1) 1 0 0 (0) := ⟨rfl, rfl⟩
theorem c267_14 : q_cat 267 14 (.goto 4) 3 18 0 (0) := ⟨rfl, rfl⟩
theorem c267_17 : q_cat 267 17 (.iconst 0) 1 0 0 (0) := ⟨rfl, rfl⟩
theorem c267_18 : q_cat 267 18 (.ireturn) 1 0 0 (0) := ⟨rfl, rfl⟩
theorem k267 {Γ : q_Γ} (hG : q_GG Γ) {h : q_F} (hZ : q_Bz h) (hR : q_Rb h) {v0 : Int} {v2 : Int} {v4 : Int} {a0 a2 a4 : Int} (hp0 : q_w64 v0 = a0) (hp1 : q_w64 v2 = a2) (hp2 : q_w64 v4 = a4) :
    q_M Γ q_K 155 267 [(1, v0), (1, v2), (1, v4)] h (fun t w h' => (t = 1 ∧ (∃ z, w = ((0, z) : q_V) ∧ (z = 0 ∨ z = 1) ∧ ((z = 1 ∧ a2 ≤ a0 ∧ a0 ≤ a4) ∨ (z = 0 ∧ (a0 < a2 ∨ a4 < a0)))) ∧ h' = h)) := by
  refine q_M.of (by decide) (Nat.le_of_ble_eq_true rfl) hG ?_
  refine r_lload_n c267_0 rfl rfl ?_
  refine r_lload_n c267_1 rfl rfl ?_
  refine r_lcmpn c267_2 rfl (by first | exact q_w64_id (by omega) (by omega) | exact rfl) (by first | exact q_w64_id (by omega) (by omega) | exact rfl) ?_ ?_ ?_
  · intro b1
    refine r_if_lt c267_3 rfl (show q_w32 (-1) = -1 from rfl) ?_ ?_
    · intro b2
      refine r_iconst c267_17 rfl ?_
      exact r_zret c267_18 ⟨rfl, rfl, rfl⟩ (by decide) ⟨rfl, ⟨_, rfl, (by decide), (by omega)⟩, rfl⟩
    · intro b2
      exact absurd b2.1 (by decide)
  · intro b1
    refine r_if_lt c267_3 rfl (show q_w32 (0) = 0 from rfl) ?_ ?_
    · intro b3
      exact absurd b3.1 (by decide)
    · intro b3
      refine r_lload_n c267_6 rfl rfl ?_
      refine r_lload c267_7 rfl rfl ?_
      refine r_lcmpn c267_9 rfl (by first | exact q_w64_id (by omega) (by omega) | exact rfl) (by first | exact q_w64_id (by omega) (by omega) | exact rfl) ?_ ?_ ?_
      · intro b4
        refine r_if_gt c267_10 rfl (show q_w32 (-1) = -1 from rfl) ?_ ?_
        · intro b5
          exact absurd b5.1 (by decide)
        · intro b5
          refine r_iconst c267_13 rfl ?_
          refine r_goto c267_14 ?_
          exact r_zret c267_18 ⟨rfl, rfl, rfl⟩ (by decide) ⟨rfl, ⟨_, rfl, (by decide), (by omega)⟩, rfl⟩
      · intro b4
        refine r_if_gt c267_10 rfl (show q_w32 (0) = 0 from rfl) ?_ ?_
        · intro b6
          exact absurd b6.1 (by decide)
        · intro b6
          refine r_iconst c267_13 rfl ?_
          refine r_goto c267_14 ?_
          exact r_zret c267_18 ⟨rfl, rfl, rfl⟩ (by decide) ⟨rfl, ⟨_, rfl, (by decide), (by omega)⟩, rfl⟩
      · intro b4
        refine r_if_gt c267_10 rfl (show q_w32 (1) = 1 from rfl) ?_ ?_
        · intro b7
          refine r_iconst c267_17 rfl ?_
          exact r_zret c267_18 ⟨rfl, rfl, rfl⟩ (by decide) ⟨rfl, ⟨_, rfl, (by decide), (by omega)⟩, rfl⟩
        · intro b7
          exact absurd b7.1 (by decide)
  · intro b1
    refine r_if_lt c267_3 rfl (show q_w32 (1) = 1 from rfl) ?_ ?_
    · intro b8
      exact absurd b8.1 (by decide)
    · intro b8
      refine r_lload_n c267_6 rfl rfl ?_
      refine r_lload c267_7 rfl rfl ?_
      refine r_lcmpn c267_9 rfl (by first | exact q_w64_id (by omega) (by omega) | exact rfl) (by first | exact q_w64_id (by omega) (by omega) | exact rfl) ?_ ?_ ?_
      · intro b9
        refine r_if_gt c267_10 rfl (show q_w32 (-1) = -1 from rfl) ?_ ?_
        · intro b10
          exact absurd b10.1 (by decide)
        · intro b10
          refine r_iconst c267_13 rfl ?_
          refine r_goto c267_14 ?_
          exact r_zret c267_18 ⟨rfl, rfl, rfl⟩ (by decide) ⟨rfl, ⟨_, rfl, (by decide), (by omega)⟩, rfl⟩
      · intro b9
        refine r_if_gt c267_10 rfl (show q_w32 (0) = 0 from rfl) ?_ ?_
        · intro b11
          exact absurd b11.1 (by decide)
        · intro b11
          refine r_iconst c267_13 rfl ?_
          refine r_goto c267_14 ?_
          exact r_zret c267_18 ⟨rfl, rfl, rfl⟩ (by decide) ⟨rfl, ⟨_, rfl, (by decide), (by omega)⟩, rfl⟩
      · intro b9
        refine r_if_gt c267_10 rfl (show q_w32 (1) = 1 from rfl) ?_ ?_
        · intro b12
          refine r_iconst c267_17 rfl ?_
          exact r_zret c267_18 ⟨rfl, rfl, rfl⟩ (by decide) ⟨rfl, ⟨_, rfl, (by decide), (by omega)⟩, rfl⟩
        · intro b12
          exact absurd b12.1 (by decide)
theorem c258_0 : q_cat 258 0 (.iload_n 1) 1 1 0 (0) := ⟨rfl, rfl⟩
theorem c258_1 : q_cat 258 1 (.ifCond .eq 8) 3 9 0 (0) := ⟨rfl, rfl⟩
theorem c258_4 : q_cat 258 4 (.aload_n 0) 1 0 0 (0) := ⟨rfl, rfl⟩
theorem c258_5 : q_cat 258 5 (.iload_n 2) 1 2 0 (0) := ⟨rfl, rfl⟩
theorem c258_6 : q_cat 258 6 (.putfield 60) 3 9 7 (0) := ⟨rfl, rfl⟩
theorem c258_9 : q_cat 258 9 (.iload_n 1) 1 1 0 (0) := ⟨rfl, rfl⟩
theorem c258_10 : q_cat 258 10 (.ireturn) 1 0 0 (0) := ⟨rfl, rfl⟩
theorem k258 {Γ : q_Γ} (hG : q_GG Γ) {h : q_F} (hZ : q_Bz h) (hR : q_Rb h) {v1 : Int} {v2 : Int} (hz1 : v1 = 0 ∨ v1 = 1) :
    q_M Γ q_K 155 258 [(2, Int.ofNat 139), (0, v1), (0, v2)] h (fun t w h' => (t = 1 ∧ (∃ z, w = ((0, z) : q_V) ∧ (z = 0 ∨ z = 1) ∧ (z = v1)) ∧ q_Gr (fun k j => k = 139 ∧ j = 7) h h')) := by
  refine q_M.of (by decide) (Nat.le_of_ble_eq_true rfl) hG ?_
  refine r_iload_n c258_0 rfl rfl ?_
  refine r_if_eq c258_1 rfl (by first | exact q_w32_id (by omega) (by omega) | exact q_w32w _ | exact rfl) ?_ ?_
  · intro b1
    refine r_iload_n c258_9 rfl rfl ?_
    exact r_zret c258_10 ⟨rfl, rfl, rfl⟩ (by first | assumption | omega) ⟨rfl, ⟨_, rfl, (by first | assumption | omega), rfl⟩, (by repeat (first | exact q_Gr.rf | refine q_Gr.ud ?_ (by omega) (by first | assumption | rfl) rfl (by first | exact ⟨fun h9 => absurd h9 (by decide), fun h9 => absurd h9 (by decide)⟩ | (constructor <;> (intro h9; omega))) | refine q_Gr.udz ?_ (by omega) (by first | assumption | decide | omega) (by first | exact ⟨fun h9 => absurd h9 (by decide), fun h9 => absurd h9 (by decide)⟩ | (constructor <;> (intro h9; omega))) | refine q_Gr.tr ?_ (by assumption) (by intro k9 j9 hk9; omega)))⟩
  · intro b1
    refine r_aload_n c258_4 rfl rfl ?_
    refine r_iload_n c258_5 rfl rfl ?_
    refine r_puti c258_6 (by first | assumption | omega) (by decide) (by first | assumption | rfl) rfl rfl rfl ?_
    refine r_iload_n c258_9 rfl rfl ?_
    exact r_zret c258_10 ⟨rfl, rfl, rfl⟩ (by first | assumption | omega) ⟨rfl, ⟨_, rfl, (by first | assumption | omega), rfl⟩, (by repeat (first | exact q_Gr.rf | refine q_Gr.ud ?_ (by omega) (by first | assumption | rfl) rfl (by first | exact ⟨fun h9 => absurd h9 (by decide), fun h9 => absurd h9 (by decide)⟩ | (constructor <;> (intro h9; omega))) | refine q_Gr.udz ?_ (by omega) (by first | assumption | decide | omega) (by first | exact ⟨fun h9 => absurd h9 (by decide), fun h9 => absurd h9 (by decide)⟩ | (constructor <;> (intro h9; omega))) | refine q_Gr.tr ?_ (by assumption) (by intro k9 j9 hk9; omega)))⟩
theorem c303_0 : q_cat 303 0 (.aload_n 0) 1 0 0 (0) := ⟨rfl, rfl⟩
theorem c303_1 : q_cat 303 1 (.getfield 7) 3 9 0 (3) := ⟨rfl, rfl⟩
theorem c303_4 : q_cat 303 4 (.iload_n 1) 1 1 0 (0) := ⟨rfl, rfl⟩
theorem c303_5 : q_cat 303 5 (.laload) 1 0 0 (0) := ⟨rfl, rfl⟩
theorem c303_6 : q_cat 303 6 (.l2i) 1 0 0 (0) := ⟨rfl, rfl⟩
theorem c303_7 : q_cat 303 7 (.ireturn) 1 0 0 (0) := ⟨rfl, rfl⟩
theorem k303 {Γ : q_Γ} (hG : q_GG Γ) {h : q_F} (hZ : q_Bz h) (hR : q_Rb h) {v1 : Int} (hp0 : 0 ≤ v1 ∧ v1 < 122) :
    q_M Γ q_K 155 303 [(2, Int.ofNat 139), (0, v1)] h (fun t w h' => (t = 1 ∧ (∃ z, w = ((0, z) : q_V) ∧ (z = q_w32 (h 140 v1.toNat) ∧ q_Rw v1.toNat z)) ∧ h' = h)) := by
  refine q_M.of (by decide) (Nat.le_of_ble_eq_true rfl) hG ?_
  refine r_aload_n c303_0 rfl rfl ?_
  refine r_getr c303_1 (by first | assumption | omega) (by decide) (by first | assumption | rfl) rfl rfl ?_
  refine r_iload_n c303_4 rfl rfl ?_
  refine r_laldw hR c303_5 (by first | exact q_w32_id (by omega) (by omega) | exact q_w32w _ | exact rfl) (by first | assumption | omega) (by first | assumption | omega) rfl ?_
  intro y1
  refine r_l2i c303_6 rfl rfl ?_
  exact r_iret c303_7 ⟨rfl, rfl, rfl⟩ ⟨rfl, ⟨_, rfl, ⟨rfl, q_Rw_w (by assumption)⟩⟩, rfl⟩
theorem c333_0 : q_cat 333 0 (.iload_n 0) 1 0 0 (0) := ⟨rfl, rfl⟩
theorem c333_1 : q_cat 333 1 (.ifCond .le 7) 3 8 0 (0) := ⟨rfl, rfl⟩
theorem c333_4 : q_cat 333 4 (.iconst 1) 1 0 0 (0) := ⟨rfl, rfl⟩
theorem c333_5 : q_cat 333 5 (.goto 12) 3 17 0 (0) := ⟨rfl, rfl⟩
theorem c333_8 : q_cat 333 8 (.iload_n 0) 1 0 0 (0) := ⟨rfl, rfl⟩
theorem c333_9 : q_cat 333 9 (.ifCond .ge 7) 3 16 0 (0) := ⟨rfl, rfl⟩
theorem c333_12 : q_cat 333 12 (.iconst (-1)) 1 0 0 (0) := ⟨rfl, rfl⟩
theorem c333_13 : q_cat 333 13 (.goto 4) 3 17 0 (0) := ⟨rfl, rfl⟩
theorem c333_16 : q_cat 333 16 (.iconst 0) 1 0 0 (0) := ⟨rfl, rfl⟩
theorem c333_17 : q_cat 333 17 (.ireturn) 1 0 0 (0) := ⟨rfl, rfl⟩
theorem k333 {Γ : q_Γ} (hG : q_GG Γ) {h : q_F} (hZ : q_Bz h) (hR : q_Rb h) {v0 : Int}  :
    q_M Γ q_K 155 333 [(0, v0)] h (fun t w h' => (t = 1 ∧ (∃ z, w = ((0, z) : q_V) ∧ ((z = 1 ∧ 0 < q_w32 v0) ∨ (z = -1 ∧ q_w32 v0 < 0) ∨ (z = 0 ∧ q_w32 v0 = 0))) ∧ h' = h)) := by
  refine q_M.of (by decide) (Nat.le_of_ble_eq_true rfl) hG ?_
  refine r_iload_n c333_0 rfl rfl ?_
  refine r_if_le c333_1 rfl (by first | exact q_w32_id (by omega) (by omega) | exact q_w32w _ | exact rfl) ?_ ?_
  · intro b1
    refine r_iload_n c333_8 rfl rfl ?_
    refine r_if_ge c333_9 rfl (by first | exact q_w32_id (by omega) (by omega) | exact q_w32w _ | exact rfl) ?_ ?_
    · intro b2
      refine r_iconst c333_16 rfl ?_
      exact r_iret c333_17 ⟨rfl, rfl, rfl⟩ ⟨rfl, ⟨_, rfl, (by omega)⟩, rfl⟩
    · intro b2
      refine r_iconst c333_12 rfl ?_
      refine r_goto c333_13 ?_
      exact r_iret c333_17 ⟨rfl, rfl, rfl⟩ ⟨rfl, ⟨_, rfl, (by omega)⟩, rfl⟩
  · intro b1
    refine r_iconst c333_4 rfl ?_
    refine r_goto c333_5 ?_
    exact r_iret c333_17 ⟨rfl, rfl, rfl⟩ ⟨rfl, ⟨_, rfl, (by omega)⟩, rfl⟩
theorem c236_0 : q_cat 236 0 (.iload_n 0) 1 0 0 (0) := ⟨rfl, rfl⟩
theorem c236_1 : q_cat 236 1 (.ifCond .ge 8) 3 9 0 (0) := ⟨rfl, rfl⟩
theorem c236_4 : q_cat 236 4 (.iload_n 0) 1 0 0 (0) := ⟨rfl, rfl⟩
theorem c236_5 : q_cat 236 5 (.ineg) 1 0 0 (0) := ⟨rfl, rfl⟩
theorem c236_6 : q_cat 236 6 (.goto 4) 3 10 0 (0) := ⟨rfl, rfl⟩
theorem c236_9 : q_cat 236 9 (.iload_n 0) 1 0 0 (0) := ⟨rfl, rfl⟩
theorem c236_10 : q_cat 236 10 (.ireturn) 1 0 0 (0) := ⟨rfl, rfl⟩
theorem k236 {Γ : q_Γ} (hG : q_GG Γ) {h : q_F} (hZ : q_Bz h) (hR : q_Rb h) {v0 : Int} (hp0 : -1000000 ≤ v0 ∧ v0 ≤ 1000000) :
    q_M Γ q_K 155 236 [(0, v0)] h (fun t w h' => (t = 1 ∧ (∃ z, w = ((0, z) : q_V) ∧ (0 ≤ z ∧ (z = v0 ∨ z = -v0))) ∧ h' = h)) := by
  refine q_M.of (by decide) (Nat.le_of_ble_eq_true rfl) hG ?_
  refine r_iload_n c236_0 rfl rfl ?_
  refine r_if_ge c236_1 rfl (by first | exact q_w32_id (by omega) (by omega) | exact q_w32w _ | exact rfl) ?_ ?_
  · intro b1
    refine r_iload_n c236_9 rfl rfl ?_
    exact r_iret c236_10 ⟨rfl, rfl, rfl⟩ ⟨rfl, ⟨_, rfl, (by omega)⟩, rfl⟩
  · intro b1
    refine r_iload_n c236_4 rfl rfl ?_
    refine r_ineg c236_5 (by first | exact q_neg (by omega) (by omega) | exact rfl) rfl ?_
    refine r_goto c236_6 ?_
    exact r_iret c236_10 ⟨rfl, rfl, rfl⟩ ⟨rfl, ⟨_, rfl, (by omega)⟩, rfl⟩
theorem c340_0 : q_cat 340 0 (.aload_n 0) 1 0 0 (0) := ⟨rfl, rfl⟩
theorem c340_1 : q_cat 340 1 (.getfield 7) 3 9 0 (3) := ⟨rfl, rfl⟩
theorem c340_4 : q_cat 340 4 (.bipush 32) 2 0 0 (0) := ⟨rfl, rfl⟩
theorem c340_6 : q_cat 340 6 (.iload_n 1) 1 1 0 (0) := ⟨rfl, rfl⟩
theorem c340_7 : q_cat 340 7 (.iadd) 1 0 0 (0) := ⟨rfl, rfl⟩
theorem c340_8 : q_cat 340 8 (.dup2) 1 0 0 (0) := ⟨rfl, rfl⟩
theorem c340_9 : q_cat 340 9 (.laload) 1 0 0 (0) := ⟨rfl, rfl⟩
theorem c340_10 : q_cat 340 10 (.iload_n 2) 1 2 0 (0) := ⟨rfl, rfl⟩
theorem c340_11 : q_cat 340 11 (.i2l) 1 0 0 (0) := ⟨rfl, rfl⟩
theorem c340_12 : q_cat 340 12 (.ladd) 1 0 0 (0) := ⟨rfl, rfl⟩
theorem c340_13 : q_cat 340 13 (.lastore) 1 0 0 (0) := ⟨rfl, rfl⟩
theorem c340_14 : q_cat 340 14 (.aload_n 0) 1 0 0 (0) := ⟨rfl, rfl⟩
theorem c340_15 : q_cat 340 15 (.getfield 7) 3 9 0 (3) := ⟨rfl, rfl⟩
theorem c340_18 : q_cat 340 18 (.bipush 44) 2 0 0 (0) := ⟨rfl, rfl⟩
theorem c340_20 : q_cat 340 20 (.iload_n 1) 1 1 0 (0) := ⟨rfl, rfl⟩
theorem c340_21 : q_cat 340 21 (.iadd) 1 0 0 (0) := ⟨rfl, rfl⟩
theorem c340_22 : q_cat 340 22 (.iload_n 2) 1 2 0 (0) := ⟨rfl, rfl⟩
theorem c340_23 : q_cat 340 23 (.i2l) 1 0 0 (0) := ⟨rfl, rfl⟩
theorem c340_24 : q_cat 340 24 (.lastore) 1 0 0 (0) := ⟨rfl, rfl⟩
theorem c340_25 : q_cat 340 25 (.aload_n 0) 1 0 0 (0) := ⟨rfl, rfl⟩
theorem c340_26 : q_cat 340 26 (.getfield 7) 3 9 0 (3) := ⟨rfl, rfl⟩
theorem c340_29 : q_cat 340 29 (.iload_n 2) 1 2 0 (0) := ⟨rfl, rfl⟩
theorem c340_30 : q_cat 340 30 (.ifCond .le 8) 3 38 0 (0) := ⟨rfl, rfl⟩
theorem c340_33 : q_cat 340 33 (.bipush 56) 2 0 0 (0) := ⟨rfl, rfl⟩
theorem c340_35 : q_cat 340 35 (.goto 5) 3 40 0 (0) := ⟨rfl, rfl⟩
theorem c340_38 : q_cat 340 38 (.bipush 59) 2 0 0 (0) := ⟨rfl, rfl⟩
theorem c340_40 : q_cat 340 40 (.iload_n 1) 1 1 0 (0) := ⟨rfl, rfl⟩
theorem c340_41 : q_cat 340 41 (.iadd) 1 0 0 (0) := ⟨rfl, rfl⟩
theorem c340_42 : q_cat 340 42 (.dup2) 1 0 0 (0) := ⟨rfl, rfl⟩
theorem c340_43 : q_cat 340 43 (.laload) 1 0 0 (0) := ⟨rfl, rfl⟩
theorem c340_44 : q_cat 340 44 (.lconst 1) 1 0 0 (1) := ⟨rfl, rfl⟩
theorem c340_45 : q_cat 340 45 (.ladd) 1 0 0 (0) := ⟨rfl, rfl⟩
theorem c340_46 : q_cat 340 46 (.lastore) 1 0 0 (0) := ⟨rfl, rfl⟩
theorem c340_47 : q_cat 340 47 (.iload_n 2) 1 2 0 (0) := ⟨rfl, rfl⟩
theorem c340_48 : q_cat 340 48 (.ifCond .le 15) 3 63 0 (0) := ⟨rfl, rfl⟩
theorem c340_51 : q_cat 340 51 (.aload_n 0) 1 0 0 (0) := ⟨rfl, rfl⟩
theorem c340_52 : q_cat 340 52 (.getfield 7) 3 9 0 (3) := ⟨rfl, rfl⟩
theorem c340_55 : q_cat 340 55 (.bipush 11) 2 0 0 (0) := ⟨rfl, rfl⟩
theorem c340_57 : q_cat 340 57 (.iload_n 1) 1 1 0 (0) := ⟨rfl, rfl⟩
theorem c340_58 : q_cat 340 58 (.iadd) 1 0 0 (0) := ⟨rfl, rfl⟩
theorem c340_59 : q_cat 340 59 (.laload) 1 0 0 (0) := ⟨rfl, rfl⟩
theorem c340_60 : q_cat 340 60 (.goto 4) 3 64 0 (0) := ⟨rfl, rfl⟩
theorem c340_63 : q_cat 340 63 (.lconst 0) 1 0 0 (0) := ⟨rfl, rfl⟩
theorem c340_64 : q_cat 340 64 (.lstore_n 3) 1 3 0 (0) := ⟨rfl, rfl⟩
theorem c340_65 : q_cat 340 65 (.iload_n 2) 1 2 0 (0) := ⟨rfl, rfl⟩
theorem c340_66 : q_cat 340 66 (.ifCond .le 15) 3 81 0 (0) := ⟨rfl, rfl⟩
theorem c340_69 : q_cat 340 69 (.aload_n 0) 1 0 0 (0) := ⟨rfl, rfl⟩
theorem c340_70 : q_cat 340 70 (.getfield 7) 3 9 0 (3) := ⟨rfl, rfl⟩
theorem c340_73 : q_cat 340 73 (.bipush 8) 2 0 0 (0) := ⟨rfl, rfl⟩
theorem c340_75 : q_cat 340 75 (.iload_n 1) 1 1 0 (0) := ⟨rfl, rfl⟩
theorem c340_76 : q_cat 340 76 (.iadd) 1 0 0 (0) := ⟨rfl, rfl⟩
theorem c340_77 : q_cat 340 77 (.laload) 1 0 0 (0) := ⟨rfl, rfl⟩
theorem c340_78 : q_cat 340 78 (.goto 4) 3 82 0 (0) := ⟨rfl, rfl⟩
theorem c340_81 : q_cat 340 81 (.lconst 0) 1 0 0 (0) := ⟨rfl, rfl⟩
theorem c340_82 : q_cat 340 82 (.lstore 5) 2 5 0 (0) := ⟨rfl, rfl⟩
theorem c340_84 : q_cat 340 84 (.aload_n 0) 1 0 0 (0) := ⟨rfl, rfl⟩
theorem c340_85 : q_cat 340 85 (.getfield 7) 3 9 0 (3) := ⟨rfl, rfl⟩
theorem c340_88 : q_cat 340 88 (.bipush 29) 2 0 0 (0) := ⟨rfl, rfl⟩
theorem c340_90 : q_cat 340 90 (.iload_n 1) 1 1 0 (0) := ⟨rfl, rfl⟩
theorem c340_91 : q_cat 340 91 (.iadd) 1 0 0 (0) := ⟨rfl, rfl⟩
theorem c340_92 : q_cat 340 92 (.laload) 1 0 0 (0) := ⟨rfl, rfl⟩
theorem c340_93 : q_cat 340 93 (.lload_n 3) 1 3 0 (0) := ⟨rfl, rfl⟩
theorem c340_94 : q_cat 340 94 (.lcmp) 1 0 0 (0) := ⟨rfl, rfl⟩
theorem c340_95 : q_cat 340 95 (.ifCond .eq 19) 3 114 0 (0) := ⟨rfl, rfl⟩
theorem c340_98 : q_cat 340 98 (.aload_n 0) 1 0 0 (0) := ⟨rfl, rfl⟩
theorem c340_99 : q_cat 340 99 (.getfield 7) 3 9 0 (3) := ⟨rfl, rfl⟩
theorem c340_102 : q_cat 340 102 (.bipush 29) 2 0 0 (0) := ⟨rfl, rfl⟩
theorem c340_104 : q_cat 340 104 (.iload_n 1) 1 1 0 (0) := ⟨rfl, rfl⟩
theorem c340_105 : q_cat 340 105 (.iadd) 1 0 0 (0) := ⟨rfl, rfl⟩
theorem c340_106 : q_cat 340 106 (.dup2) 1 0 0 (0) := ⟨rfl, rfl⟩
theorem c340_107 : q_cat 340 107 (.laload) 1 0 0 (0) := ⟨rfl, rfl⟩
theorem c340_108 : q_cat 340 108 (.iload_n 2) 1 2 0 (0) := ⟨rfl, rfl⟩
theorem c340_109 : q_cat 340 109 (.i2l) 1 0 0 (0) := ⟨rfl, rfl⟩
theorem c340_110 : q_cat 340 110 (.ladd) 1 0 0 (0) := ⟨rfl, rfl⟩
theorem c340_111 : q_cat 340 111 (.lastore) 1 0 0 (0) := ⟨rfl, rfl⟩
theorem c340_112 : q_cat 340 112 (.iconst 0) 1 0 0 (0) := ⟨rfl, rfl⟩
theorem c340_113 : q_cat 340 113 (.ireturn) 1 0 0 (0) := ⟨rfl, rfl⟩
theorem c340_114 : q_cat 340 114 (.aload_n 0) 1 0 0 (0) := ⟨rfl, rfl⟩
theorem c340_115 : q_cat 340 115 (.getfield 7) 3 9 0 (3) := ⟨rfl, rfl⟩
theorem c340_118 : q_cat 340 118 (.bipush 26) 2 0 0 (0) := ⟨rfl, rfl⟩
theorem c340_120 : q_cat 340 120 (.iload_n 1) 1 1 0 (0) := ⟨rfl, rfl⟩
theorem c340_121 : q_cat 340 121 (.iadd) 1 0 0 (0) := ⟨rfl, rfl⟩
theorem c340_122 : q_cat 340 122 (.laload) 1 0 0 (0) := ⟨rfl, rfl⟩
theorem c340_123 : q_cat 340 123 (.lload 5) 2 5 0 (0) := ⟨rfl, rfl⟩
theorem c340_125 : q_cat 340 125 (.lcmp) 1 0 0 (0) := ⟨rfl, rfl⟩
theorem c340_126 : q_cat 340 126 (.ifCond .ne 18) 3 144 0 (0) := ⟨rfl, rfl⟩
theorem c340_129 : q_cat 340 129 (.aload_n 0) 1 0 0 (0) := ⟨rfl, rfl⟩
theorem c340_130 : q_cat 340 130 (.getfield 7) 3 9 0 (3) := ⟨rfl, rfl⟩
theorem c340_133 : q_cat 340 133 (.bipush 35) 2 0 0 (0) := ⟨rfl, rfl⟩
theorem c340_135 : q_cat 340 135 (.iload_n 1) 1 1 0 (0) := ⟨rfl, rfl⟩
theorem c340_136 : q_cat 340 136 (.iadd) 1 0 0 (0) := ⟨rfl, rfl⟩
theorem c340_137 : q_cat 340 137 (.dup2) 1 0 0 (0) := ⟨rfl, rfl⟩
theorem c340_138 : q_cat 340 138 (.laload) 1 0 0 (0) := ⟨rfl, rfl⟩
theorem c340_139 : q_cat 340 139 (.lconst 1) 1 0 0 (1) := ⟨rfl, rfl⟩
theorem c340_140 : q_cat 340 140 (.ladd) 1 0 0 (0) := ⟨rfl, rfl⟩
theorem c340_141 : q_cat 340 141 (.lastore) 1 0 0 (0) := ⟨rfl, rfl⟩
theorem c340_142 : q_cat 340 142 (.iconst 1) 1 0 0 (0) := ⟨rfl, rfl⟩
theorem c340_143 : q_cat 340 143 (.ireturn) 1 0 0 (0) := ⟨rfl, rfl⟩
theorem c340_144 : q_cat 340 144 (.aload_n 0) 1 0 0 (0) := ⟨rfl, rfl⟩
theorem c340_145 : q_cat 340 145 (.getfield 7) 3 9 0 (3) := ⟨rfl, rfl⟩
theorem c340_148 : q_cat 340 148 (.bipush 26) 2 0 0 (0) := ⟨rfl, rfl⟩
theorem c340_150 : q_cat 340 150 (.iload_n 1) 1 1 0 (0) := ⟨rfl, rfl⟩
theorem c340_151 : q_cat 340 151 (.iadd) 1 0 0 (0) := ⟨rfl, rfl⟩
theorem c340_152 : q_cat 340 152 (.dup2) 1 0 0 (0) := ⟨rfl, rfl⟩
theorem c340_153 : q_cat 340 153 (.laload) 1 0 0 (0) := ⟨rfl, rfl⟩
theorem c340_154 : q_cat 340 154 (.iload_n 2) 1 2 0 (0) := ⟨rfl, rfl⟩
theorem c340_155 : q_cat 340 155 (.i2l) 1 0 0 (0) := ⟨rfl, rfl⟩
theorem c340_156 : q_cat 340 156 (.ladd) 1 0 0 (0) := ⟨rfl, rfl⟩
theorem c340_157 : q_cat 340 157 (.lastore) 1 0 0 (0) := ⟨rfl, rfl⟩
theorem c340_158 : q_cat 340 158 (.aload_n 0) 1 0 0 (0) := ⟨rfl, rfl⟩
theorem c340_159 : q_cat 340 159 (.getfield 7) 3 9 0 (3) := ⟨rfl, rfl⟩
theorem c340_162 : q_cat 340 162 (.bipush 26) 2 0 0 (0) := ⟨rfl, rfl⟩
theorem c340_164 : q_cat 340 164 (.iload_n 1) 1 1 0 (0) := ⟨rfl, rfl⟩
theorem c340_165 : q_cat 340 165 (.iadd) 1 0 0 (0) := ⟨rfl, rfl⟩
theorem c340_166 : q_cat 340 166 (.laload) 1 0 0 (0) := ⟨rfl, rfl⟩
theorem c340_167 : q_cat 340 167 (.aload_n 0) 1 0 0 (0) := ⟨rfl, rfl⟩
theorem c340_168 : q_cat 340 168 (.getfield 7) 3 9 0 (3) := ⟨rfl, rfl⟩
theorem c340_171 : q_cat 340 171 (.bipush 20) 2 0 0 (0) := ⟨rfl, rfl⟩
theorem c340_173 : q_cat 340 173 (.iload_n 1) 1 1 0 (0) := ⟨rfl, rfl⟩
theorem c340_174 : q_cat 340 174 (.iadd) 1 0 0 (0) := ⟨rfl, rfl⟩
theorem c340_175 : q_cat 340 175 (.laload) 1 0 0 (0) := ⟨rfl, rfl⟩
theorem c340_176 : q_cat 340 176 (.lcmp) 1 0 0 (0) := ⟨rfl, rfl⟩
theorem c340_177 : q_cat 340 177 (.ifCond .gt 13) 3 190 0 (0) := ⟨rfl, rfl⟩
theorem c340_180 : q_cat 340 180 (.aload_n 0) 1 0 0 (0) := ⟨rfl, rfl⟩
theorem c340_181 : q_cat 340 181 (.getfield 7) 3 9 0 (3) := ⟨rfl, rfl⟩
theorem c340_184 : q_cat 340 184 (.bipush 53) 2 0 0 (0) := ⟨rfl, rfl⟩
theorem c340_186 : q_cat 340 186 (.iload_n 1) 1 1 0 (0) := ⟨rfl, rfl⟩
theorem c340_187 : q_cat 340 187 (.iadd) 1 0 0 (0) := ⟨rfl, rfl⟩
theorem c340_188 : q_cat 340 188 (.lconst 1) 1 0 0 (1) := ⟨rfl, rfl⟩
theorem c340_189 : q_cat 340 189 (.lastore) 1 0 0 (0) := ⟨rfl, rfl⟩
theorem c340_190 : q_cat 340 190 (.aload_n 0) 1 0 0 (0) := ⟨rfl, rfl⟩
theorem c340_191 : q_cat 340 191 (.getfield 7) 3 9 0 (3) := ⟨rfl, rfl⟩
theorem c340_194 : q_cat 340 194 (.bipush 26) 2 0 0 (0) := ⟨rfl, rfl⟩
theorem c340_196 : q_cat 340 196 (.iload_n 1) 1 1 0 (0) := ⟨rfl, rfl⟩
theorem c340_197 : q_cat 340 197 (.iadd) 1 0 0 (0) := ⟨rfl, rfl⟩
theorem c340_198 : q_cat 340 198 (.laload) 1 0 0 (0) := ⟨rfl, rfl⟩
theorem c340_199 : q_cat 340 199 (.aload_n 0) 1 0 0 (0) := ⟨rfl, rfl⟩
theorem c340_200 : q_cat 340 200 (.getfield 7) 3 9 0 (3) := ⟨rfl, rfl⟩
theorem c340_203 : q_cat 340 203 (.bipush 20) 2 0 0 (0) := ⟨rfl, rfl⟩
theorem c340_205 : q_cat 340 205 (.iload_n 1) 1 1 0 (0) := ⟨rfl, rfl⟩
theorem c340_206 : q_cat 340 206 (.iadd) 1 0 0 (0) := ⟨rfl, rfl⟩
theorem c340_207 : q_cat 340 207 (.laload) 1 0 0 (0) := ⟨rfl, rfl⟩
theorem c340_208 : q_cat 340 208 (.aload_n 0) 1 0 0 (0) := ⟨rfl, rfl⟩
theorem c340_209 : q_cat 340 209 (.getfield 7) 3 9 0 (3) := ⟨rfl, rfl⟩
theorem c340_212 : q_cat 340 212 (.bipush 23) 2 0 0 (0) := ⟨rfl, rfl⟩
theorem c340_214 : q_cat 340 214 (.iload_n 1) 1 1 0 (0) := ⟨rfl, rfl⟩
theorem c340_215 : q_cat 340 215 (.iadd) 1 0 0 (0) := ⟨rfl, rfl⟩
theorem c340_216 : q_cat 340 216 (.laload) 1 0 0 (0) := ⟨rfl, rfl⟩
theorem c340_217 : q_cat 340 217 (.ladd) 1 0 0 (0) := ⟨rfl, rfl⟩
theorem c340_218 : q_cat 340 218 (.lcmp) 1 0 0 (0) := ⟨rfl, rfl⟩
theorem c340_219 : q_cat 340 219 (.ifCond .le 13) 3 232 0 (0) := ⟨rfl, rfl⟩
theorem c340_222 : q_cat 340 222 (.aload_n 0) 1 0 0 (0) := ⟨rfl, rfl⟩
theorem c340_223 : q_cat 340 223 (.getfield 7) 3 9 0 (3) := ⟨rfl, rfl⟩
theorem c340_226 : q_cat 340 226 (.bipush 53) 2 0 0 (0) := ⟨rfl, rfl⟩
theorem c340_228 : q_cat 340 228 (.iload_n 1) 1 1 0 (0) := ⟨rfl, rfl⟩
theorem c340_229 : q_cat 340 229 (.iadd) 1 0 0 (0) := ⟨rfl, rfl⟩
theorem c340_230 : q_cat 340 230 (.lconst 0) 1 0 0 (0) := ⟨rfl, rfl⟩
theorem c340_231 : q_cat 340 231 (.lastore) 1 0 0 (0) := ⟨rfl, rfl⟩
theorem c340_232 : q_cat 340 232 (.iconst 0) 1 0 0 (0) := ⟨rfl, rfl⟩
theorem c340_233 : q_cat 340 233 (.ireturn) 1 0 0 (0) := ⟨rfl, rfl⟩
theorem k340 {Γ : q_Γ} (hG : q_GG Γ) {h : q_F} (hZ : q_Bz h) (hR : q_Rb h) {v1 : Int} {v2 : Int} (hp0 : 0 ≤ v1 ∧ v1 < 3) :
    q_M Γ q_K 155 340 [(2, Int.ofNat 139), (0, v1), (0, v2)] h (fun t w h' => (t = 1 ∧ (∃ z, w = ((0, z) : q_V) ∧ (z = 0 ∨ z = 1)) ∧ q_Gr (fun k j => k = 140 ∧ (26 ≤ j ∧ j ≤ 61 ∧ ¬(47 ≤ j ∧ j ≤ 49))) h h')) := by
  refine q_M.of (by decide) (Nat.le_of_ble_eq_true rfl) hG ?_
  refine r_aload_n c340_0 rfl rfl ?_
  refine r_getr c340_1 (by first | assumption | omega) (by decide) (by first | assumption | rfl) rfl rfl ?_
  refine r_bipush c340_4 rfl ?_
  refine r_iload_n c340_6 rfl rfl ?_
  refine r_iadd c340_7 (by first | exact q_w32_id (by omega) (by omega) | exact q_w32w _ | exact rfl) rfl ?_
  refine r_dup2 c340_8 rfl rfl rfl ?_
  refine r_laldw (q_Gr.rb (S := fun k j => k = 140 ∧ (26 ≤ j ∧ j ≤ 61 ∧ ¬(47 ≤ j ∧ j ≤ 49))) hR (by repeat (first | exact q_Gr.rf | refine q_Gr.ud ?_ (by omega) (by first | assumption | rfl) rfl (by first | exact ⟨fun h9 => absurd h9 (by decide), fun h9 => absurd h9 (by decide)⟩ | (constructor <;> (intro h9; omega))) | refine q_Gr.udz ?_ (by omega) (by first | assumption | decide | omega) (by first | exact ⟨fun h9 => absurd h9 (by decide), fun h9 => absurd h9 (by decide)⟩ | (constructor <;> (intro h9; omega))) | refine q_Gr.tr ?_ (by assumption) (by intro k9 j9 hk9; omega)))) c340_9 (by first | exact q_w32_id (by omega) (by omega) | exact q_w32w _ | exact rfl) (by first | assumption | omega) (by first | assumption | omega) rfl ?_
  intro y1
  refine r_iload_n c340_10 rfl rfl ?_
  refine r_i2l c340_11 (by first | exact q_w32_id (by omega) (by omega) | exact q_w32w _ | exact rfl) rfl ?_
  refine r_ladd c340_12 rfl rfl ?_
  refine r_last c340_13 (by first | assumption | omega) (by decide) (by first | assumption | rfl) (by first | assumption | decide) (by first | exact q_w32_id (by omega) (by omega) | exact q_w32w _ | exact rfl) (by first | assumption | omega) (by first | assumption | omega) rfl ?_
  refine r_aload_n c340_14 rfl rfl ?_
  refine r_getr c340_15 (by first | assumption | omega) (by decide) (by first | assumption | rfl) rfl rfl ?_
  refine r_bipush c340_18 rfl ?_
  refine r_iload_n c340_20 rfl rfl ?_
  refine r_iadd c340_21 (by first | exact q_w32_id (by omega) (by omega) | exact q_w32w _ | exact rfl) rfl ?_
  refine r_iload_n c340_22 rfl rfl ?_
  refine r_i2l c340_23 (by first | exact q_w32_id (by omega) (by omega) | exact q_w32w _ | exact rfl) rfl ?_
  refine r_last c340_24 (by first | assumption | omega) (by decide) (by first | assumption | rfl) (by first | assumption | decide) (by first | exact q_w32_id (by omega) (by omega) | exact q_w32w _ | exact rfl) (by first | assumption | omega) (by first | assumption | omega) rfl ?_
  refine r_aload_n c340_25 rfl rfl ?_
  refine r_getr c340_26 (by first | assumption | omega) (by decide) (by first | assumption | rfl) rfl rfl ?_
  refine r_iload_n c340_29 rfl rfl ?_
  refine r_if_le c340_30 rfl (by first | exact q_w32_id (by omega) (by omega) | exact q_w32w _ | exact rfl) ?_ ?_
  · intro b2
    refine r_bipush c340_38 rfl ?_
    refine r_iload_n c340_40 rfl rfl ?_
    refine r_iadd c340_41 (by first | exact q_w32_id (by omega) (by omega) | exact q_w32w _ | exact rfl) rfl ?_
    refine r_dup2 c340_42 rfl rfl rfl ?_
    refine r_laldw (q_Gr.rb (S := fun k j => k = 140 ∧ (26 ≤ j ∧ j ≤ 61 ∧ ¬(47 ≤ j ∧ j ≤ 49))) hR (by repeat (first | exact q_Gr.rf | refine q_Gr.ud ?_ (by omega) (by first | assumption | rfl) rfl (by first | exact ⟨fun h9 => absurd h9 (by decide), fun h9 => absurd h9 (by decide)⟩ | (constructor <;> (intro h9; omega))) | refine q_Gr.udz ?_ (by omega) (by first | assumption | decide | omega) (by first | exact ⟨fun h9 => absurd h9 (by decide), fun h9 => absurd h9 (by decide)⟩ | (constructor <;> (intro h9; omega))) | refine q_Gr.tr ?_ (by assumption) (by intro k9 j9 hk9; omega)))) c340_43 (by first | exact q_w32_id (by omega) (by omega) | exact q_w32w _ | exact rfl) (by first | assumption | omega) (by first | assumption | omega) rfl ?_
    intro y3
    refine r_lconst c340_44 rfl ?_
    refine r_ladd c340_45 rfl rfl ?_
    refine r_last c340_46 (by first | assumption | omega) (by decide) (by first | assumption | rfl) (by first | assumption | decide) (by first | exact q_w32_id (by omega) (by omega) | exact q_w32w _ | exact rfl) (by first | assumption | omega) (by first | assumption | omega) rfl ?_
    refine r_iload_n c340_47 rfl rfl ?_
    refine r_if_le c340_48 rfl (by first | exact q_w32_id (by omega) (by omega) | exact q_w32w _ | exact rfl) ?_ ?_
    · intro b4
      refine r_lconst c340_63 rfl ?_
      refine r_lstore_n c340_64 (lo' := [(3, _), (0, _), (1, _), (2, _)]) rfl rfl rfl ?_
      refine r_iload_n c340_65 rfl rfl ?_
      refine r_if_le c340_66 rfl (by first | exact q_w32_id (by omega) (by omega) | exact q_w32w _ | exact rfl) ?_ ?_
      · intro b5
        refine r_lconst c340_81 rfl ?_
        refine r_lstore c340_82 (lo' := [(5, _), (3, _), (0, _), (1, _), (2, _)]) rfl rfl rfl ?_
        refine r_aload_n c340_84 rfl rfl ?_
        refine r_getr c340_85 (by first | assumption | omega) (by decide) (by first | assumption | rfl) rfl rfl ?_
        refine r_bipush c340_88 rfl ?_
        refine r_iload_n c340_90 rfl rfl ?_
        refine r_iadd c340_91 (by first | exact q_w32_id (by omega) (by omega) | exact q_w32w _ | exact rfl) rfl ?_
        refine r_laldw (q_Gr.rb (S := fun k j => k = 140 ∧ (26 ≤ j ∧ j ≤ 61 ∧ ¬(47 ≤ j ∧ j ≤ 49))) hR (by repeat (first | exact q_Gr.rf | refine q_Gr.ud ?_ (by omega) (by first | assumption | rfl) rfl (by first | exact ⟨fun h9 => absurd h9 (by decide), fun h9 => absurd h9 (by decide)⟩ | (constructor <;> (intro h9; omega))) | refine q_Gr.udz ?_ (by omega) (by first | assumption | decide | omega) (by first | exact ⟨fun h9 => absurd h9 (by decide), fun h9 => absurd h9 (by decide)⟩ | (constructor <;> (intro h9; omega))) | refine q_Gr.tr ?_ (by assumption) (by intro k9 j9 hk9; omega)))) c340_92 (by first | exact q_w32_id (by omega) (by omega) | exact q_w32w _ | exact rfl) (by first | assumption | omega) (by first | assumption | omega) rfl ?_
        intro y6
        refine r_lload_n c340_93 rfl rfl ?_
        refine r_lcmpn c340_94 rfl (by first | exact q_w64_id (by omega) (by omega) | exact rfl) (show q_w64 (0) = 0 from rfl) ?_ ?_ ?_
        · intro b7
          refine r_if_eq c340_95 rfl (show q_w32 (-1) = -1 from rfl) ?_ ?_
          · intro b8
            exact absurd b8.1 (by decide)
          · intro b8
            refine r_aload_n c340_98 rfl rfl ?_
            refine r_getr c340_99 (by first | assumption | omega) (by decide) (by first | assumption | rfl) rfl rfl ?_
            refine r_bipush c340_102 rfl ?_
            refine r_iload_n c340_104 rfl rfl ?_
            refine r_iadd c340_105 (by first | exact q_w32_id (by omega) (by omega) | exact q_w32w _ | exact rfl) rfl ?_
            refine r_dup2 c340_106 rfl rfl rfl ?_
            refine r_laldw (q_Gr.rb (S := fun k j => k = 140 ∧ (26 ≤ j ∧ j ≤ 61 ∧ ¬(47 ≤ j ∧ j ≤ 49))) hR (by repeat (first | exact q_Gr.rf | refine q_Gr.ud ?_ (by omega) (by first | assumption | rfl) rfl (by first | exact ⟨fun h9 => absurd h9 (by decide), fun h9 => absurd h9 (by decide)⟩ | (constructor <;> (intro h9; omega))) | refine q_Gr.udz ?_ (by omega) (by first | assumption | decide | omega) (by first | exact ⟨fun h9 => absurd h9 (by decide), fun h9 => absurd h9 (by decide)⟩ | (constructor <;> (intro h9; omega))) | refine q_Gr.tr ?_ (by assumption) (by intro k9 j9 hk9; omega)))) c340_107 (by first | exact q_w32_id (by omega) (by omega) | exact q_w32w _ | exact rfl) (by first | assumption | omega) (by first | assumption | omega) rfl ?_
            intro y9
            refine r_iload_n c340_108 rfl rfl ?_
            refine r_i2l c340_109 (by first | exact q_w32_id (by omega) (by omega) | exact q_w32w _ | exact rfl) rfl ?_
            refine r_ladd c340_110 rfl rfl ?_
            refine r_last c340_111 (by first | assumption | omega) (by decide) (by first | assumption | rfl) (by first | assumption | decide) (by first | exact q_w32_id (by omega) (by omega) | exact q_w32w _ | exact rfl) (by first | assumption | omega) (by first | assumption | omega) rfl ?_
            refine r_iconst c340_112 rfl ?_
            exact r_zret c340_113 ⟨rfl, rfl, rfl⟩ (by decide) ⟨rfl, ⟨_, rfl, (by decide)⟩, (by repeat (first | exact q_Gr.rf | refine q_Gr.ud ?_ (by omega) (by first | assumption | rfl) rfl (by first | exact ⟨fun h9 => absurd h9 (by decide), fun h9 => absurd h9 (by decide)⟩ | (constructor <;> (intro h9; omega))) | refine q_Gr.udz ?_ (by omega) (by first | assumption | decide | omega) (by first | exact ⟨fun h9 => absurd h9 (by decide), fun h9 => absurd h9 (by decide)⟩ | (constructor <;> (intro h9; omega))) | refine q_Gr.tr ?_ (by assumption) (by intro k9 j9 hk9; omega)))⟩
        · intro b7
          refine r_if_eq c340_95 rfl (show q_w32 (0) = 0 from rfl) ?_ ?_
          · intro b10
            refine r_aload_n c340_114 rfl rfl ?_
            refine r_getr c340_115 (by first | assumption | omega) (by decide) (by first | assumption | rfl) rfl rfl ?_
            refine r_bipush c340_118 rfl ?_
            refine r_iload_n c340_120 rfl rfl ?_
            refine r_iadd c340_121 (by first | exact q_w32_id (by omega) (by omega) | exact q_w32w _ | exact rfl) rfl ?_
            refine r_laldw (q_Gr.rb (S := fun k j => k = 140 ∧ (26 ≤ j ∧ j ≤ 61 ∧ ¬(47 ≤ j ∧ j ≤ 49))) hR (by repeat (first | exact q_Gr.rf | refine q_Gr.ud ?_ (by omega) (by first | assumption | rfl) rfl (by first | exact ⟨fun h9 => absurd h9 (by decide), fun h9 => absurd h9 (by decide)⟩ | (constructor <;> (intro h9; omega))) | refine q_Gr.udz ?_ (by omega) (by first | assumption | decide | omega) (by first | exact ⟨fun h9 => absurd h9 (by decide), fun h9 => absurd h9 (by decide)⟩ | (constructor <;> (intro h9; omega))) | refine q_Gr.tr ?_ (by assumption) (by intro k9 j9 hk9; omega)))) c340_122 (by first | exact q_w32_id (by omega) (by omega) | exact q_w32w _ | exact rfl) (by first | assumption | omega) (by first | assumption | omega) rfl ?_
            intro y11
            refine r_lload c340_123 rfl rfl ?_
            refine r_lcmpn c340_125 rfl (by first | exact q_w64_id (by omega) (by omega) | exact rfl) (show q_w64 (0) = 0 from rfl) ?_ ?_ ?_
            · intro b12
              refine r_if_ne c340_126 rfl (show q_w32 (-1) = -1 from rfl) ?_ ?_
              · intro b13
                refine r_aload_n c340_144 rfl rfl ?_
                refine r_getr c340_145 (by first | assumption | omega) (by decide) (by first | assumption | rfl) rfl rfl ?_
                refine r_bipush c340_148 rfl ?_
                refine r_iload_n c340_150 rfl rfl ?_
                refine r_iadd c340_151 (by first | exact q_w32_id (by omega) (by omega) | exact q_w32w _ | exact rfl) rfl ?_
                refine r_dup2 c340_152 rfl rfl rfl ?_
                refine r_laldw (q_Gr.rb (S := fun k j => k = 140 ∧ (26 ≤ j ∧ j ≤ 61 ∧ ¬(47 ≤ j ∧ j ≤ 49))) hR (by repeat (first | exact q_Gr.rf | refine q_Gr.ud ?_ (by omega) (by first | assumption | rfl) rfl (by first | exact ⟨fun h9 => absurd h9 (by decide), fun h9 => absurd h9 (by decide)⟩ | (constructor <;> (intro h9; omega))) | refine q_Gr.udz ?_ (by omega) (by first | assumption | decide | omega) (by first | exact ⟨fun h9 => absurd h9 (by decide), fun h9 => absurd h9 (by decide)⟩ | (constructor <;> (intro h9; omega))) | refine q_Gr.tr ?_ (by assumption) (by intro k9 j9 hk9; omega)))) c340_153 (by first | exact q_w32_id (by omega) (by omega) | exact q_w32w _ | exact rfl) (by first | assumption | omega) (by first | assumption | omega) rfl ?_
                intro y14
                refine r_iload_n c340_154 rfl rfl ?_
                refine r_i2l c340_155 (by first | exact q_w32_id (by omega) (by omega) | exact q_w32w _ | exact rfl) rfl ?_
                refine r_ladd c340_156 rfl rfl ?_
                refine r_last c340_157 (by first | assumption | omega) (by decide) (by first | assumption | rfl) (by first | assumption | decide) (by first | exact q_w32_id (by omega) (by omega) | exact q_w32w _ | exact rfl) (by first | assumption | omega) (by first | assumption | omega) rfl ?_
                refine r_aload_n c340_158 rfl rfl ?_
                refine r_getr c340_159 (by first | assumption | omega) (by decide) (by first | assumption | rfl) rfl rfl ?_
                refine r_bipush c340_162 rfl ?_
                refine r_iload_n c340_164 rfl rfl ?_
                refine r_iadd c340_165 (by first | exact q_w32_id (by omega) (by omega) | exact q_w32w _ | exact rfl) rfl ?_
                refine r_laldw (q_Gr.rb (S := fun k j => k = 140 ∧ (26 ≤ j ∧ j ≤ 61 ∧ ¬(47 ≤ j ∧ j ≤ 49))) hR (by repeat (first | exact q_Gr.rf | refine q_Gr.ud ?_ (by omega) (by first | assumption | rfl) rfl (by first | exact ⟨fun h9 => absurd h9 (by decide), fun h9 => absurd h9 (by decide)⟩ | (constructor <;> (intro h9; omega))) | refine q_Gr.udz ?_ (by omega) (by first | assumption | decide | omega) (by first | exact ⟨fun h9 => absurd h9 (by decide), fun h9 => absurd h9 (by decide)⟩ | (constructor <;> (intro h9; omega))) | refine q_Gr.tr ?_ (by assumption) (by intro k9 j9 hk9; omega)))) c340_166 (by first | exact q_w32_id (by omega) (by omega) | exact q_w32w _ | exact rfl) (by first | assumption | omega) (by first | assumption | omega) rfl ?_
                intro y15
                refine r_aload_n c340_167 rfl rfl ?_
                refine r_getr c340_168 (by first | assumption | omega) (by decide) (by first | assumption | rfl) rfl rfl ?_
                refine r_bipush c340_171 rfl ?_
                refine r_iload_n c340_173 rfl rfl ?_
                refine r_iadd c340_174 (by first | exact q_w32_id (by omega) (by omega) | exact q_w32w _ | exact rfl) rfl ?_
                refine r_laldw (q_Gr.rb (S := fun k j => k = 140 ∧ (26 ≤ j ∧ j ≤ 61 ∧ ¬(47 ≤ j ∧ j ≤ 49))) hR (by repeat (first | exact q_Gr.rf | refine q_Gr.ud ?_ (by omega) (by first | assumption | rfl) rfl (by first | exact ⟨fun h9 => absurd h9 (by decide), fun h9 => absurd h9 (by decide)⟩ | (constructor <;> (intro h9; omega))) | refine q_Gr.udz ?_ (by omega) (by first | assumption | decide | omega) (by first | exact ⟨fun h9 => absurd h9 (by decide), fun h9 => absurd h9 (by decide)⟩ | (constructor <;> (intro h9; omega))) | refine q_Gr.tr ?_ (by assumption) (by intro k9 j9 hk9; omega)))) c340_175 (by first | exact q_w32_id (by omega) (by omega) | exact q_w32w _ | exact rfl) (by first | assumption | omega) (by first | assumption | omega) rfl ?_
                intro y16
                refine r_lcmpn c340_176 rfl (by first | exact q_w64_id (by omega) (by omega) | exact rfl) (by first | exact q_w64_id (by omega) (by omega) | exact rfl) ?_ ?_ ?_
                · intro b17
                  refine r_if_gt c340_177 rfl (show q_w32 (-1) = -1 from rfl) ?_ ?_
                  · intro b18
                    exact absurd b18.1 (by decide)
                  · intro b18
                    refine r_aload_n c340_180 rfl rfl ?_
                    refine r_getr c340_181 (by first | assumption | omega) (by decide) (by first | assumption | rfl) rfl rfl ?_
                    refine r_bipush c340_184 rfl ?_
                    refine r_iload_n c340_186 rfl rfl ?_
                    refine r_iadd c340_187 (by first | exact q_w32_id (by omega) (by omega) | exact q_w32w _ | exact rfl) rfl ?_
                    refine r_lconst c340_188 rfl ?_
                    refine r_last c340_189 (by first | assumption | omega) (by decide) (by first | assumption | rfl) (by first | assumption | decide) (by first | exact q_w32_id (by omega) (by omega) | exact q_w32w _ | exact rfl) (by first | assumption | omega) (by first | assumption | omega) rfl ?_
                    refine r_aload_n c340_190 rfl rfl ?_
                    refine r_getr c340_191 (by first | assumption | omega) (by decide) (by first | assumption | rfl) rfl rfl ?_
                    refine r_bipush c340_194 rfl ?_
                    refine r_iload_n c340_196 rfl rfl ?_
                    refine r_iadd c340_197 (by first | exact q_w32_id (by omega) (by omega) | exact q_w32w _ | exact rfl) rfl ?_
                    refine r_laldw (q_Gr.rb (S := fun k j => k = 140 ∧ (26 ≤ j ∧ j ≤ 61 ∧ ¬(47 ≤ j ∧ j ≤ 49))) hR (by repeat (first | exact q_Gr.rf | refine q_Gr.ud ?_ (by omega) (by first | assumption | rfl) rfl (by first | exact ⟨fun h9 => absurd h9 (by decide), fun h9 => absurd h9 (by decide)⟩ | (constructor <;> (intro h9; omega))) | refine q_Gr.udz ?_ (by omega) (by first | assumption | decide | omega) (by first | exact ⟨fun h9 => absurd h9 (by decide), fun h9 => absurd h9 (by decide)⟩ | (constructor <;> (intro h9; omega))) | refine q_Gr.tr ?_ (by assumption) (by intro k9 j9 hk9; omega)))) c340_198 (by first | exact q_w32_id (by omega) (by omega) | exact q_w32w _ | exact rfl) (by first | assumption | omega) (by first | assumption | omega) rfl ?_
                    intro y19
                    refine r_aload_n c340_199 rfl rfl ?_
                    refine r_getr c340_200 (by first | assumption | omega) (by decide) (by first | assumption | rfl) rfl rfl ?_
                    refine r_bipush c340_203 rfl ?_
                    refine r_iload_n c340_205 rfl rfl ?_
                    refine r_iadd c340_206 (by first | exact q_w32_id (by omega) (by omega) | exact q_w32w _ | exact rfl) rfl ?_
                    refine r_laldw (q_Gr.rb (S := fun k j => k = 140 ∧ (26 ≤ j ∧ j ≤ 61 ∧ ¬(47 ≤ j ∧ j ≤ 49))) hR (by repeat (first | exact q_Gr.rf | refine q_Gr.ud ?_ (by omega) (by first | assumption | rfl) rfl (by first | exact ⟨fun h9 => absurd h9 (by decide), fun h9 => absurd h9 (by decide)⟩ | (constructor <;> (intro h9; omega))) | refine q_Gr.udz ?_ (by omega) (by first | assumption | decide | omega) (by first | exact ⟨fun h9 => absurd h9 (by decide), fun h9 => absurd h9 (by decide)⟩ | (constructor <;> (intro h9; omega))) | refine q_Gr.tr ?_ (by assumption) (by intro k9 j9 hk9; omega)))) c340_207 (by first | exact q_w32_id (by omega) (by omega) | exact q_w32w _ | exact rfl) (by first | assumption | omega) (by first | assumption | omega) rfl ?_
                    intro y20
                    refine r_aload_n c340_208 rfl rfl ?_
                    refine r_getr c340_209 (by first | assumption | omega) (by decide) (by first | assumption | rfl) rfl rfl ?_
                    refine r_bipush c340_212 rfl ?_
                    refine r_iload_n c340_214 rfl rfl ?_
                    refine r_iadd c340_215 (by first | exact q_w32_id (by omega) (by omega) | exact q_w32w _ | exact rfl) rfl ?_
                    refine r_laldw (q_Gr.rb (S := fun k j => k = 140 ∧ (26 ≤ j ∧ j ≤ 61 ∧ ¬(47 ≤ j ∧ j ≤ 49))) hR (by repeat (first | exact q_Gr.rf | refine q_Gr.ud ?_ (by omega) (by first | assumption | rfl) rfl (by first | exact ⟨fun h9 => absurd h9 (by decide), fun h9 => absurd h9 (by decide)⟩ | (constructor <;> (intro h9; omega))) | refine q_Gr.udz ?_ (by omega) (by first | assumption | decide | omega) (by first | exact ⟨fun h9 => absurd h9 (by decide), fun h9 => absurd h9 (by decide)⟩ | (constructor <;> (intro h9; omega))) | refine q_Gr.tr ?_ (by assumption) (by intro k9 j9 hk9; omega)))) c340_216 (by first | exact q_w32_id (by omega) (by omega) | exact q_w32w _ | exact rfl) (by first | assumption | omega) (by first | assumption | omega) rfl ?_
                    intro y21
                    refine r_ladd c340_217 rfl rfl ?_
                    refine r_lcmpn c340_218 rfl (by first | exact q_w64_id (by omega) (by omega) | exact rfl) (by first | exact q_w64_id (by omega) (by omega) | exact rfl) ?_ ?_ ?_
                    · intro b22
                      refine r_if_le c340_219 rfl (show q_w32 (-1) = -1 from rfl) ?_ ?_
                      · intro b23
                        refine r_iconst c340_232 rfl ?_
                        exact r_zret c340_233 ⟨rfl, rfl, rfl⟩ (by decide) ⟨rfl, ⟨_, rfl, (by decide)⟩, (by repeat (first | exact q_Gr.rf | refine q_Gr.ud ?_ (by omega) (by first | assumption | rfl) rfl (by first | exact ⟨fun h9 => absurd h9 (by decide), fun h9 => absurd h9 (by decide)⟩ | (constructor <;> (intro h9; omega))) | refine q_Gr.udz ?_ (by omega) (by first | assumption | decide | omega) (by first | exact ⟨fun h9 => absurd h9 (by decide), fun h9 => absurd h9 (by decide)⟩ | (constructor <;> (intro h9; omega))) | refine q_Gr.tr ?_ (by assumption) (by intro k9 j9 hk9; omega)))⟩
                      · intro b23
                        exact absurd b23.1 (by decide)
                    · intro b22
                      refine r_if_le c340_219 rfl (show q_w32 (0) = 0 from rfl) ?_ ?_
                      · intro b24
                        refine r_iconst c340_232 rfl ?_
                        exact r_zret c340_233 ⟨rfl, rfl, rfl⟩ (by decide) ⟨rfl, ⟨_, rfl, (by decide)⟩, (by repeat (first | exact q_Gr.rf | refine q_Gr.ud ?_ (by omega) (by first | assumption | rfl) rfl (by first | exact ⟨fun h9 => absurd h9 (by decide), fun h9 => absurd h9 (by decide)⟩ | (constructor <;> (intro h9; omega))) | refine q_Gr.udz ?_ (by omega) (by first | assumption | decide | omega) (by first | exact ⟨fun h9 => absurd h9 (by decide), fun h9 => absurd h9 (by decide)⟩ | (constructor <;> (intro h9; omega))) | refine q_Gr.tr ?_ (by assumption) (by intro k9 j9 hk9; omega)))⟩
                      · intro b24
                        exact absurd b24.1 (by decide)
                    · intro b22
                      refine r_if_le c340_219 rfl (show q_w32 (1) = 1 from rfl) ?_ ?_
                      · intro b25
                        exact absurd b25.1 (by decide)
                      · intro b25
                        refine r_aload_n c340_222 rfl rfl ?_
                        refine r_getr c340_223 (by first | assumption | omega) (by decide) (by first | assumption | rfl) rfl rfl ?_
                        refine r_bipush c340_226 rfl ?_
                        refine r_iload_n c340_228 rfl rfl ?_
                        refine r_iadd c340_229 (by first | exact q_w32_id (by omega) (by omega) | exact q_w32w _ | exact rfl) rfl ?_
                        refine r_lconst c340_230 rfl ?_
                        refine r_last c340_231 (by first | assumption | omega) (by decide) (by first | assumption | rfl) (by first | assumption | decide) (by first | exact q_w32_id (by omega) (by omega) | exact q_w32w _ | exact rfl) (by first | assumption | omega) (by first | assumption | omega) rfl ?_
                        refine r_iconst c340_232 rfl ?_
                        exact r_zret c340_233 ⟨rfl, rfl, rfl⟩ (by decide) ⟨rfl, ⟨_, rfl, (by decide)⟩, (by repeat (first | exact q_Gr.rf | refine q_Gr.ud ?_ (by omega) (by first | assumption | rfl) rfl (by first | exact ⟨fun h9 => absurd h9 (by decide), fun h9 => absurd h9 (by decide)⟩ | (constructor <;> (intro h9; omega))) | refine q_Gr.udz ?_ (by omega) (by first | assumption | decide | omega) (by first | exact ⟨fun h9 => absurd h9 (by decide), fun h9 => absurd h9 (by decide)⟩ | (constructor <;> (intro h9; omega))) | refine q_Gr.tr ?_ (by assumption) (by intro k9 j9 hk9; omega)))⟩
                · intro b17
                  refine r_if_gt c340_177 rfl (show q_w32 (0) = 0 from rfl) ?_ ?_
                  · intro b26
                    exact absurd b26.1 (by decide)
                  · intro b26
                    refine r_aload_n c340_180 rfl rfl ?_
                    refine r_getr c340_181 (by first | assumption | omega) (by decide) (by first | assumption | rfl) rfl rfl ?_
                    refine r_bipush c340_184 rfl ?_
                    refine r_iload_n c340_186 rfl rfl ?_
                    refine r_iadd c340_187 (by first | exact q_w32_id (by omega) (by omega) | exact q_w32w _ | exact rfl) rfl ?_
                    refine r_lconst c340_188 rfl ?_
                    refine r_last c340_189 (by first | assumption | omega) (by decide) (by first | assumption | rfl) (by first | assumption | decide) (by first | exact q_w32_id (by omega) (by omega) | exact q_w32w _ | exact rfl) (by first | assumption | omega) (by first | assumption | omega) rfl ?_
                    refine r_aload_n c340_190 rfl rfl ?_
                    refine r_getr c340_191 (by first | assumption | omega) (by decide) (by first | assumption | rfl) rfl rfl ?_
                    refine r_bipush c340_194 rfl ?_
                    refine r_iload_n c340_196 rfl rfl ?_
                    refine r_iadd c340_197 (by first | exact q_w32_id (by omega) (by omega) | exact q_w32w _ | exact rfl) rfl ?_
                    refine r_laldw (q_Gr.rb (S := fun k j => k = 140 ∧ (26 ≤ j ∧ j ≤ 61 ∧ ¬(47 ≤ j ∧ j ≤ 49))) hR (by repeat (first | exact q_Gr.rf | refine q_Gr.ud ?_ (by omega) (by first | assumption | rfl) rfl (by first | exact ⟨fun h9 => absurd h9 (by decide), fun h9 => absurd h9 (by decide)⟩ | (constructor <;> (intro h9; omega))) | refine q_Gr.udz ?_ (by omega) (by first | assumption | decide | omega) (by first | exact ⟨fun h9 => absurd h9 (by decide), fun h9 => absurd h9 (by decide)⟩ | (constructor <;> (intro h9; omega))) | refine q_Gr.tr ?_ (by assumption) (by intro k9 j9 hk9; omega)))) c340_198 (by first | exact q_w32_id (by omega) (by omega) | exact q_w32w _ | exact rfl) (by first | assumption | omega) (by first | assumption | omega) rfl ?_
                    intro y27
                    refine r_aload_n c340_199 rfl rfl ?_
                    refine r_getr c340_200 (by first | assumption | omega) (by decide) (by first | assumption | rfl) rfl rfl ?_
                    refine r_bipush c340_203 rfl ?_
                    refine r_iload_n c340_205 rfl rfl ?_
                    refine r_iadd c340_206 (by first | exact q_w32_id (by omega) (by omega) | exact q_w32w _ | exact rfl) rfl ?_
                    refine r_laldw (q_Gr.rb (S := fun k j => k = 140 ∧ (26 ≤ j ∧ j ≤ 61 ∧ ¬(47 ≤ j ∧ j ≤ 49))) hR (by repeat (first | exact q_Gr.rf | refine q_Gr.ud ?_ (by omega) (by first | assumption | rfl) rfl (by first | exact ⟨fun h9 => absurd h9 (by decide), fun h9 => absurd h9 (by decide)⟩ | (constructor <;> (intro h9; omega))) | refine q_Gr.udz ?_ (by omega) (by first | assumption | decide | omega) (by first | exact ⟨fun h9 => absurd h9 (by decide), fun h9 => absurd h9 (by decide)⟩ | (constructor <;> (intro h9; omega))) | refine q_Gr.tr ?_ (by assumption) (by intro k9 j9 hk9; omega)))) c340_207 (by first | exact q_w32_id (by omega) (by omega) | exact q_w32w _ | exact rfl) (by first | assumption | omega) (by first | assumption | omega) rfl ?_
                    intro y28
                    refine r_aload_n c340_208 rfl rfl ?_
                    refine r_getr c340_209 (by first | assumption | omega) (by decide) (by first | assumption | rfl) rfl rfl ?_
                    refine r_bipush c340_212 rfl ?_
                    refine r_iload_n c340_214 rfl rfl ?_
                    refine r_iadd c340_215 (by first | exact q_w32_id (by omega) (by omega) | exact q_w32w _ | exact rfl) rfl ?_
                    refine r_laldw (q_Gr.rb (S := fun k j => k = 140 ∧ (26 ≤ j ∧ j ≤ 61 ∧ ¬(47 ≤ j ∧ j ≤ 49))) hR (by repeat (first | exact q_Gr.rf | refine q_Gr.ud ?_ (by omega) (by first | assumption | rfl) rfl (by first | exact ⟨fun h9 => absurd h9 (by decide), fun h9 => absurd h9 (by decide)⟩ | (constructor <;> (intro h9; omega))) | refine q_Gr.udz ?_ (by omega) (by first | assumption | decide | omega) (by first | exact ⟨fun h9 => absurd h9 (by decide), fun h9 => absurd h9 (by decide)⟩ | (constructor <;> (intro h9; omega))) | refine q_Gr.tr ?_ (by assumption) (by intro k9 j9 hk9; omega)))) c340_216 (by first | exact q_w32_id (by omega) (by omega) | exact q_w32w _ | exact rfl) (by first | assumption | omega) (by first | assumption | omega) rfl ?_
                    intro y29
                    refine r_ladd c340_217 rfl rfl ?_
                    refine r_lcmpn c340_218 rfl (by first | exact q_w64_id (by omega) (by omega) | exact rfl) (by first | exact q_w64_id (by omega) (by omega) | exact rfl) ?_ ?_ ?_
                    · intro b30
                      refine r_if_le c340_219 rfl (show q_w32 (-1) = -1 from rfl) ?_ ?_
                      · intro b31
                        refine r_iconst c340_232 rfl ?_
                        exact r_zret c340_233 ⟨rfl, rfl, rfl⟩ (by decide) ⟨rfl, ⟨_, rfl, (by decide)⟩, (by repeat (first | exact q_Gr.rf | refine q_Gr.ud ?_ (by omega) (by first | assumption | rfl) rfl (by first | exact ⟨fun h9 => absurd h9 (by decide), fun h9 => absurd h9 (by decide)⟩ | (constructor <;> (intro h9; omega))) | refine q_Gr.udz ?_ (by omega) (by first | assumption | decide | omega) (by first | exact ⟨fun h9 => absurd h9 (by decide), fun h9 => absurd h9 (by decide)⟩ | (constructor <;> (intro h9; omega))) | refine q_Gr.tr ?_ (by assumption) (by intro k9 j9 hk9; omega)))⟩
                      · intro b31
                        exact absurd b31.1 (by decide)
                    · intro b30
                      refine r_if_le c340_219 rfl (show q_w32 (0) = 0 from rfl) ?_ ?_
                      · intro b32
                        refine r_iconst c340_232 rfl ?_
                        exact r_zret c340_233 ⟨rfl, rfl, rfl⟩ (by decide) ⟨rfl, ⟨_, rfl, (by decide)⟩, (by repeat (first | exact q_Gr.rf | refine q_Gr.ud ?_ (by omega) (by first | assumption | rfl) rfl (by first | exact ⟨fun h9 => absurd h9 (by decide), fun h9 => absurd h9 (by decide)⟩ | (constructor <;> (intro h9; omega))) | refine q_Gr.udz ?_ (by omega) (by first | assumption | decide | omega) (by first | exact ⟨fun h9 => absurd h9 (by decide), fun h9 => absurd h9 (by decide)⟩ | (constructor <;> (intro h9; omega))) | refine q_Gr.tr ?_ (by assumption) (by intro k9 j9 hk9; omega)))⟩
                      · intro b32
                        exact absurd b32.1 (by decide)
                    · intro b30
                      refine r_if_le c340_219 rfl (show q_w32 (1) = 1 from rfl) ?_ ?_
                      · intro b33
                        exact absurd b33.1 (by decide)
                      · intro b33
                        refine r_aload_n c340_222 rfl rfl ?_
                        refine r_getr c340_223 (by first | assumption | omega) (by decide) (by first | assumption | rfl) rfl rfl ?_
                        refine r_bipush c340_226 rfl ?_
                        refine r_iload_n c340_228 rfl rfl ?_
                        refine r_iadd c340_229 (by first | exact q_w32_id (by omega) (by omega) | exact q_w32w _ | exact rfl) rfl ?_
                        refine r_lconst c340_230 rfl ?_
                        refine r_last c340_231 (by first | assumption | omega) (by decide) (by first | assumption | rfl) (by first | assumption | decide) (by first | exact q_w32_id (by omega) (by omega) | exact q_w32w _ | exact rfl) (by first | assumption | omega) (by first | assumption | omega) rfl ?_
                        refine r_iconst c340_232 rfl ?_
                        exact r_zret c340_233 ⟨rfl, rfl, rfl⟩ (by decide) ⟨rfl, ⟨_, rfl, (by decide)⟩, (by repeat (first | exact q_Gr.rf | refine q_Gr.ud ?_ (by omega) (by first | assumption | rfl) rfl (by first | exact ⟨fun h9 => absurd h9 (by decide), fun h9 => absurd h9 (by decide)⟩ | (constructor <;> (intro h9; omega))) | refine q_Gr.udz ?_ (by omega) (by first | assumption | decide | omega) (by first | exact ⟨fun h9 => absurd h9 (by decide), fun h9 => absurd h9 (by decide)⟩ | (constructor <;> (intro h9; omega))) | refine q_Gr.tr ?_ (by assumption) (by intro k9 j9 hk9; omega)))⟩
                · intro b17
                  refine r_if_gt c340_177 rfl (show q_w32 (1) = 1 from rfl) ?_ ?_
                  · intro b34
                    refine r_aload_n c340_190 rfl rfl ?_
                    refine r_getr c340_191 (by first | assumption | omega) (by decide) (by first | assumption | rfl) rfl rfl ?_
                    refine r_bipush c340_194 rfl ?_
                    refine r_iload_n c340_196 rfl rfl ?_
                    refine r_iadd c340_197 (by first | exact q_w32_id (by omega) (by omega) | exact q_w32w _ | exact rfl) rfl ?_
                    refine r_laldw (q_Gr.rb (S := fun k j => k = 140 ∧ (26 ≤ j ∧ j ≤ 61 ∧ ¬(47 ≤ j ∧ j ≤ 49))) hR (by repeat (first | exact q_Gr.rf | refine q_Gr.ud ?_ (by omega) (by first | assumption | rfl) rfl (by first | exact ⟨fun h9 => absurd h9 (by decide), fun h9 => absurd h9 (by decide)⟩ | (constructor <;> (intro h9; omega))) | refine q_Gr.udz ?_ (by omega) (by first | assumption | decide | omega) (by first | exact ⟨fun h9 => absurd h9 (by decide), fun h9 => absurd h9 (by decide)⟩ | (constructor <;> (intro h9; omega))) | refine q_Gr.tr ?_ (by assumption) (by intro k9 j9 hk9; omega)))) c340_198 (by first | exact q_w32_id (by omega) (by omega) | exact q_w32w _ | exact rfl) (by first | assumption | omega) (by first | assumption | omega) rfl ?_
                    intro y35
                    refine r_aload_n c340_199 rfl rfl ?_
                    refine r_getr c340_200 (by first | assumption | omega) (by decide) (by first | assumption | rfl) rfl rfl ?_
                    refine r_bipush c340_203 rfl ?_
                    refine r_iload_n c340_205 rfl rfl ?_
                    refine r_iadd c340_206 (by first | exact q_w32_id (by omega) (by omega) | exact q_w32w _ | exact rfl) rfl ?_
                    refine r_laldw (q_Gr.rb (S := fun k j => k = 140 ∧ (26 ≤ j ∧ j ≤ 61 ∧ ¬(47 ≤ j ∧ j ≤ 49))) hR (by repeat (first | exact q_Gr.rf | refine q_Gr.ud ?_ (by omega) (by first | assumption | rfl) rfl (by first | exact ⟨fun h9 => absurd h9 (by decide), fun h9 => absurd h9 (by decide)⟩ | (constructor <;> (intro h9; omega))) | refine q_Gr.udz ?_ (by omega) (by first | assumption | decide | omega) (by first | exact ⟨fun h9 => absurd h9 (by decide), fun h9 => absurd h9 (by decide)⟩ | (constructor <;> (intro h9; omega))) | refine q_Gr.tr ?_ (by assumption) (by intro k9 j9 hk9; omega)))) c340_207 (by first | exact q_w32_id (by omega) (by omega) | exact q_w32w _ | exact rfl) (by first | assumption | omega) (by first | assumption | omega) rfl ?_
                    intro y36
                    refine r_aload_n c340_208 rfl rfl ?_
                    refine r_getr c340_209 (by first | assumption | omega) (by decide) (by first | assumption | rfl) rfl rfl ?_
                    refine r_bipush c340_212 rfl ?_
                    refine r_iload_n c340_214 rfl rfl ?_
                    refine r_iadd c340_215 (by first | exact q_w32_id (by omega) (by omega) | exact q_w32w _ | exact rfl) rfl ?_
                    refine r_laldw (q_Gr.rb (S := fun k j => k = 140 ∧ (26 ≤ j ∧ j ≤ 61 ∧ ¬(47 ≤ j ∧ j ≤ 49))) hR (by repeat (first | exact q_Gr.rf | refine q_Gr.ud ?_ (by omega) (by first | assumption | rfl) rfl (by first | exact ⟨fun h9 => absurd h9 (by decide), fun h9 => absurd h9 (by decide)⟩ | (constructor <;> (intro h9; omega))) | refine q_Gr.udz ?_ (by omega) (by first | assumption | decide | omega) (by first | exact ⟨fun h9 => absurd h9 (by decide), fun h9 => absurd h9 (by decide)⟩ | (constructor <;> (intro h9; omega))) | refine q_Gr.tr ?_ (by assumption) (by intro k9 j9 hk9; omega)))) c340_216 (by first | exact q_w32_id (by omega) (by omega) | exact q_w32w _ | exact rfl) (by first | assumption | omega) (by first | assumption | omega) rfl ?_
                    intro y37
                    refine r_ladd c340_217 rfl rfl ?_
                    refine r_lcmpn c340_218 rfl (by first | exact q_w64_id (by omega) (by omega) | exact rfl) (by first | exact q_w64_id (by omega) (by omega) | exact rfl) ?_ ?_ ?_
                    · intro b38
                      refine r_if_le c340_219 rfl (show q_w32 (-1) = -1 from rfl) ?_ ?_
                      · intro b39
                        refine r_iconst c340_232 rfl ?_
                        exact r_zret c340_233 ⟨rfl, rfl, rfl⟩ (by decide) ⟨rfl, ⟨_, rfl, (by decide)⟩, (by repeat (first | exact q_Gr.rf | refine q_Gr.ud ?_ (by omega) (by first | assumption | rfl) rfl (by first | exact ⟨fun h9 => absurd h9 (by decide), fun h9 => absurd h9 (by decide)⟩ | (constructor <;> (intro h9; omega))) | refine q_Gr.udz ?_ (by omega) (by first | assumption | decide | omega) (by first | exact ⟨fun h9 => absurd h9 (by decide), fun h9 => absurd h9 (by decide)⟩ | (constructor <;> (intro h9; omega))) | refine q_Gr.tr ?_ (by assumption) (by intro k9 j9 hk9; omega)))⟩
                      · intro b39
                        exact absurd b39.1 (by decide)
                    · intro b38
                      refine r_if_le c340_219 rfl (show q_w32 (0) = 0 from rfl) ?_ ?_
                      · intro b40
                        refine r_iconst c340_232 rfl ?_
                        exact r_zret c340_233 ⟨rfl, rfl, rfl⟩ (by decide) ⟨rfl, ⟨_, rfl, (by decide)⟩, (by repeat (first | exact q_Gr.rf | refine q_Gr.ud ?_ (by omega) (by first | assumption | rfl) rfl (by first | exact ⟨fun h9 => absurd h9 (by decide), fun h9 => absurd h9 (by decide)⟩ | (constructor <;> (intro h9; omega))) | refine q_Gr.udz ?_ (by omega) (by first | assumption | decide | omega) (by first | exact ⟨fun h9 => absurd h9 (by decide), fun h9 => absurd h9 (by decide)⟩ | (constructor <;> (intro h9; omega))) | refine q_Gr.tr ?_ (by assumption) (by intro k9 j9 hk9; omega)))⟩
                      · intro b40
                        exact absurd b40.1 (by decide)
                    · intro b38
                      refine r_if_le c340_219 rfl (show q_w32 (1) = 1 from rfl) ?_ ?_
                      · intro b41
                        exact absurd b41.1 (by decide)
                      · intro b41
                        refine r_aload_n c340_222 rfl rfl ?_
                        refine r_getr c340_223 (by first | assumption | omega) (by decide) (by first | assumption | rfl) rfl rfl ?_
                        refine r_bipush c340_226 rfl ?_
                        refine r_iload_n c340_228 rfl rfl ?_
                        refine r_iadd c340_229 (by first | exact q_w32_id (by omega) (by omega) | exact q_w32w _ | exact rfl) rfl ?_
                        refine r_lconst c340_230 rfl ?_
                        refine r_last c340_231 (by first | assumption | omega) (by decide) (by first | assumption | rfl) (by first | assumption | decide) (by first | exact q_w32_id (by omega) (by omega) | exact q_w32w _ | exact rfl) (by first | assumption | omega) (by first | assumption | omega) rfl ?_
                        refine r_iconst c340_232 rfl ?_
                        exact r_zret c340_233 ⟨rfl, rfl, rfl⟩ (by decide) ⟨rfl, ⟨_, rfl, (by decide)⟩, (by repeat (first | exact q_Gr.rf | refine q_Gr.ud ?_ (by omega) (by first | assumption | rfl) rfl (by first | exact ⟨fun h9 => absurd h9 (by decide), fun h9 => absurd h9 (by decide)⟩ | (constructor <;> (intro h9; omega))) | refine q_Gr.udz ?_ (by omega) (by first | assumption | decide | omega) (by first | exact ⟨fun h9 => absurd h9 (by decide), fun h9 => absurd h9 (by decide)⟩ | (constructor <;> (intro h9; omega))) | refine q_Gr.tr ?_ (by assumption) (by intro k9 j9 hk9; omega)))⟩
                  · intro b34
                    exact absurd b34.1 (by decide)
              · intro b13
                exact absurd b13.1 (by decide)
            · intro b12
              refine r_if_ne c340_126 rfl (show q_w32 (0) = 0 from rfl) ?_ ?_
              · intro b42
                exact absurd b42.1 (by decide)
              · intro b42
                refine r_aload_n c340_129 rfl rfl ?_
                refine r_getr c340_130 (by first | assumption | omega) (by decide) (by first | assumption | rfl) rfl rfl ?_
                refine r_bipush c340_133 rfl ?_
                refine r_iload_n c340_135 rfl rfl ?_
                refine r_iadd c340_136 (by first | exact q_w32_id (by omega) (by omega) | exact q_w32w _ | exact rfl) rfl ?_
                refine r_dup2 c340_137 rfl rfl rfl ?_
                refine r_laldw (q_Gr.rb (S := fun k j => k = 140 ∧ (26 ≤ j ∧ j ≤ 61 ∧ ¬(47 ≤ j ∧ j ≤ 49))) hR (by repeat (first | exact q_Gr.rf | refine q_Gr.ud ?_ (by omega) (by first | assumption | rfl) rfl (by first | exact ⟨fun h9 => absurd h9 (by decide), fun h9 => absurd h9 (by decide)⟩ | (constructor <;> (intro h9; omega))) | refine q_Gr.udz ?_ (by omega) (by first | assumption | decide | omega) (by first | exact ⟨fun h9 => absurd h9 (by decide), fun h9 => absurd h9 (by decide)⟩ | (constructor <;> (intro h9; omega))) | refine q_Gr.tr ?_ (by assumption) (by intro k9 j9 hk9; omega)))) c340_138 (by first | exact q_w32_id (by omega) (by omega) | exact q_w32w _ | exact rfl) (by first | assumption | omega) (by first | assumption | omega) rfl ?_
                intro y43
                refine r_lconst c340_139 rfl ?_
                refine r_ladd c340_140 rfl rfl ?_
                refine r_last c340_141 (by first | assumption | omega) (by decide) (by first | assumption | rfl) (by first | assumption | decide) (by first | exact q_w32_id (by omega) (by omega) | exact q_w32w _ | exact rfl) (by first | assumption | omega) (by first | assumption | omega) rfl ?_
                refine r_iconst c340_142 rfl ?_
                exact r_zret c340_143 ⟨rfl, rfl, rfl⟩ (by decide) ⟨rfl, ⟨_, rfl, (by decide)⟩, (by repeat (first | exact q_Gr.rf | refine q_Gr.ud ?_ (by omega) (by first | assumption | rfl) rfl (by first | exact ⟨fun h9 => absurd h9 (by decide), fun h9 => absurd h9 (by decide)⟩ | (constructor <;> (intro h9; omega))) | refine q_Gr.udz ?_ (by omega) (by first | assumption | decide | omega) (by first | exact ⟨fun h9 => absurd h9 (by decide), fun h9 => absurd h9 (by decide)⟩ | (constructor <;> (intro h9; omega))) | refine q_Gr.tr ?_ (by assumption) (by intro k9 j9 hk9; omega)))⟩
            · intro b12
              refine r_if_ne c340_126 rfl (show q_w32 (1) = 1 from rfl) ?_ ?_
              · intro b44
                refine r_aload_n c340_144 rfl rfl ?_
                refine r_getr c340_145 (by first | assumption | omega) (by decide) (by first | assumption | rfl) rfl rfl ?_
                refine r_bipush c340_148 rfl ?_
                refine r_iload_n c340_150 rfl rfl ?_
                refine r_iadd c340_151 (by first | exact q_w32_id (by omega) (by omega) | exact q_w32w _ | exact rfl) rfl ?_
                refine r_dup2 c340_152 rfl rfl rfl ?_
                refine r_laldw (q_Gr.rb (S := fun k j => k = 140 ∧ (26 ≤ j ∧ j ≤ 61 ∧ ¬(47 ≤ j ∧ j ≤ 49))) hR (by repeat (first | exact q_Gr.rf | refine q_Gr.ud ?_ (by omega) (by first | assumption | rfl) rfl (by first | exact ⟨fun h9 => absurd h9 (by decide), fun h9 => absurd h9 (by decide)⟩ | (constructor <;> (intro h9; omega))) | refine q_Gr.udz ?_ (by omega) (by first | assumption | decide | omega) (by first | exact ⟨fun h9 => absurd h9 (by decide), fun h9 => absurd h9 (by decide)⟩ | (constructor <;> (intro h9; omega))) | refine q_Gr.tr ?_ (by assumption) (by intro k9 j9 hk9; omega)))) c340_153 (by first | exact q_w32_id (by omega) (by omega) | exact q_w32w _ | exact rfl) (by first | assumption | omega) (by first | assumption | omega) rfl ?_
                intro y45
                refine r_iload_n c340_154 rfl rfl ?_
                refine r_i2l c340_155 (by first | exact q_w32_id (by omega) (by omega) | exact q_w32w _ | exact rfl) rfl ?_
                refine r_ladd c340_156 rfl rfl ?_
                refine r_last c340_157 (by first | assumption | omega) (by decide) (by first | assumption | rfl) (by first | assumption | decide) (by first | exact q_w32_id (by omega) (by omega) | exact q_w32w _ | exact rfl) (by first | assumption | omega) (by first | assumption | omega) rfl ?_
                refine r_aload_n c340_158 rfl rfl ?_
                refine r_getr c340_159 (by first | assumption | omega) (by decide) (by first | assumption | rfl) rfl rfl ?_
                refine r_bipush c340_162 rfl ?_
                refine r_iload_n c340_164 rfl rfl ?_
                refine r_iadd c340_165 (by first | exact q_w32_id (by omega) (by omega) | exact q_w32w _ | exact rfl) rfl ?_
                refine r_laldw (q_Gr.rb (S := fun k j => k = 140 ∧ (26 ≤ j ∧ j ≤ 61 ∧ ¬(47 ≤ j ∧ j ≤ 49))) hR (by repeat (first | exact q_Gr.rf | refine q_Gr.ud ?_ (by omega) (by first | assumption | rfl) rfl (by first | exact ⟨fun h9 => absurd h9 (by decide), fun h9 => absurd h9 (by decide)⟩ | (constructor <;> (intro h9; omega))) | refine q_Gr.udz ?_ (by omega) (by first | assumption | decide | omega) (by first | exact ⟨fun h9 => absurd h9 (by decide), fun h9 => absurd h9 (by decide)⟩ | (constructor <;> (intro h9; omega))) | refine q_Gr.tr ?_ (by assumption) (by intro k9 j9 hk9; omega)))) c340_166 (by first | exact q_w32_id (by omega) (by omega) | exact q_w32w _ | exact rfl) (by first | assumption | omega) (by first | assumption | omega) rfl ?_
                intro y46
                refine r_aload_n c340_167 rfl rfl ?_
                refine r_getr c340_168 (by first | assumption | omega) (by decide) (by first | assumption | rfl) rfl rfl ?_
                refine r_bipush c340_171 rfl ?_
                refine r_iload_n c340_173 rfl rfl ?_
                refine r_iadd c340_174 (by first | exact q_w32_id (by omega) (by omega) | exact q_w32w _ | exact rfl) rfl ?_
                refine r_laldw (q_Gr.rb (S := fun k j => k = 140 ∧ (26 ≤ j ∧ j ≤ 61 ∧ ¬(47 ≤ j ∧ j ≤ 49))) hR (by repeat (first | exact q_Gr.rf | refine q_Gr.ud ?_ (by omega) (by first | assumption | rfl) rfl (by first | exact ⟨fun h9 => absurd h9 (by decide), fun h9 => absurd h9 (by decide)⟩ | (constructor <;> (intro h9; omega))) | refine q_Gr.udz ?_ (by omega) (by first | assumption | decide | omega) (by first | exact ⟨fun h9 => absurd h9 (by decide), fun h9 => absurd h9 (by decide)⟩ | (constructor <;> (intro h9; omega))) | refine q_Gr.tr ?_ (by assumption) (by intro k9 j9 hk9; omega)))) c340_175 (by first | exact q_w32_id (by omega) (by omega) | exact q_w32w _ | exact rfl) (by first | assumption | omega) (by first | assumption | omega) rfl ?_
                intro y47
                refine r_lcmpn c340_176 rfl (by first | exact q_w64_id (by omega) (by omega) | exact rfl) (by first | exact q_w64_id (by omega) (by omega) | exact rfl) ?_ ?_ ?_
                · intro b48
                  refine r_if_gt c340_177 rfl (show q_w32 (-1) = -1 from rfl) ?_ ?_
                  · intro b49
                    exact absurd b49.1 (by decide)
                  · intro b49
                    refine r_aload_n c340_180 rfl rfl ?_
                    refine r_getr c340_181 (by first | assumption | omega) (by decide) (by first | assumption | rfl) rfl rfl ?_
                    refine r_bipush c340_184 rfl ?_
                    refine r_iload_n c340_186 rfl rfl ?_
                    refine r_iadd c340_187 (by first | exact q_w32_id (by omega) (by omega) | exact q_w32w _ | exact rfl) rfl ?_
                    refine r_lconst c340_188 rfl ?_
                    refine r_last c340_189 (by first | assumption | omega) (by decide) (by first | assumption | rfl) (by first | assumption | decide) (by first | exact q_w32_id (by omega) (by omega) | exact q_w32w _ | exact rfl) (by first | assumption | omega) (by first | assumption | omega) rfl ?_
                    refine r_aload_n c340_190 rfl rfl ?_
                    refine r_getr c340_191 (by first | assumption | omega) (by decide) (by first | assumption | rfl) rfl rfl ?_
                    refine r_bipush c340_194 rfl ?_
                    refine r_iload_n c340_196 rfl rfl ?_
                    refine r_iadd c340_197 (by first | exact q_w32_id (by omega) (by omega) | exact q_w32w _ | exact rfl) rfl ?_
                    refine r_laldw (q_Gr.rb (S := fun k j => k = 140 ∧ (26 ≤ j ∧ j ≤ 61 ∧ ¬(47 ≤ j ∧ j ≤ 49))) hR (by repeat (first | exact q_Gr.rf | refine q_Gr.ud ?_ (by omega) (by first | assumption | rfl) rfl (by first | exact ⟨fun h9 => absurd h9 (by decide), fun h9 => absurd h9 (by decide)⟩ | (constructor <;> (intro h9; omega))) | refine q_Gr.udz ?_ (by omega) (by first | assumption | decide | omega) (by first | exact ⟨fun h9 => absurd h9 (by decide), fun h9 => absurd h9 (by decide)⟩ | (constructor <;> (intro h9; omega))) | refine q_Gr.tr ?_ (by assumption) (by intro k9 j9 hk9; omega)))) c340_198 (by first | exact q_w32_id (by omega) (by omega) | exact q_w32w _ | exact rfl) (by first | assumption | omega) (by first | assumption | omega) rfl ?_
                    intro y50
                    refine r_aload_n c340_199 rfl rfl ?_
                    refine r_getr c340_200 (by first | assumption | omega) (by decide) (by first | assumption | rfl) rfl rfl ?_
                    refine r_bipush c340_203 rfl ?_
                    refine r_iload_n c340_205 rfl rfl ?_
                    refine r_iadd c340_206 (by first | exact q_w32_id (by omega) (by omega) | exact q_w32w _ | exact rfl) rfl ?_
                    refine r_laldw (q_Gr.rb (S := fun k j => k = 140 ∧ (26 ≤ j ∧ j ≤ 61 ∧ ¬(47 ≤ j ∧ j ≤ 49))) hR (by repeat (first | exact q_Gr.rf | refine q_Gr.ud ?_ (by omega) (by first | assumption | rfl) rfl (by first | exact ⟨fun h9 => absurd h9 (by decide), fun h9 => absurd h9 (by decide)⟩ | (constructor <;> (intro h9; omega))) | refine q_Gr.udz ?_ (by omega) (by first | assumption | decide | omega) (by first | exact ⟨fun h9 => absurd h9 (by decide), fun h9 => absurd h9 (by decide)⟩ | (constructor <;> (intro h9; omega))) | refine q_Gr.tr ?_ (by assumption) (by intro k9 j9 hk9; omega)))) c340_207 (by first | exact q_w32_id (by omega) (by omega) | exact q_w32w _ | exact rfl) (by first | assumption | omega) (by first | assumption | omega) rfl ?_
                    intro y51
                    refine r_aload_n c340_208 rfl rfl ?_
                    refine r_getr c340_209 (by first | assumption | omega) (by decide) (by first | assumption | rfl) rfl rfl ?_
                    refine r_bipush c340_212 rfl ?_
                    refine r_iload_n c340_214 rfl rfl ?_
                    refine r_iadd c340_215 (by first | exact q_w32_id (by omega) (by omega) | exact q_w32w _ | exact rfl) rfl ?_
                    refine r_laldw (q_Gr.rb (S := fun k j => k = 140 ∧ (26 ≤ j ∧ j ≤ 61 ∧ ¬(47 ≤ j ∧ j ≤ 49))) hR (by repeat (first | exact q_Gr.rf | refine q_Gr.ud ?_ (by omega) (by first | assumption | rfl) rfl (by first | exact ⟨fun h9 => absurd h9 (by decide), fun h9 => absurd h9 (by decide)⟩ | (constructor <;> (intro h9; omega))) | refine q_Gr.udz ?_ (by omega) (by first | assumption | decide | omega) (by first | exact ⟨fun h9 => absurd h9 (by decide), fun h9 => absurd h9 (by decide)⟩ | (constructor <;> (intro h9; omega))) | refine q_Gr.tr ?_ (by assumption) (by intro k9 j9 hk9; omega)))) c340_216 (by first | exact q_w32_id (by omega) (by omega) | exact q_w32w _ | exact rfl) (by first | assumption | omega) (by first | assumption | omega) rfl ?_
                    intro y52
                    refine r_ladd c340_217 rfl rfl ?_
                    refine r_lcmpn c340_218 rfl (by first | exact q_w64_id (by omega) (by omega) | exact rfl) (by first | exact q_w64_id (by omega) (by omega) | exact rfl) ?_ ?_ ?_
                    · intro b53
                      refine r_if_le c340_219 rfl (show q_w32 (-1) = -1 from rfl) ?_ ?_
                      · intro b54
                        refine r_iconst c340_232 rfl ?_
                        exact r_zret c340_233 ⟨rfl, rfl, rfl⟩ (by decide) ⟨rfl, ⟨_, rfl, (by decide)⟩, (by repeat (first | exact q_Gr.rf | refine q_Gr.ud ?_ (by omega) (by first | assumption | rfl) rfl (by first | exact ⟨fun h9 => absurd h9 (by decide), fun h9 => absurd h9 (by decide)⟩ | (constructor <;> (intro h9; omega))) | refine q_Gr.udz ?_ (by omega) (by first | assumption | decide | omega) (by first | exact ⟨fun h9 => absurd h9 (by decide), fun h9 => absurd h9 (by decide)⟩ | (constructor <;> (intro h9; omega))) | refine q_Gr.tr ?_ (by assumption) (by intro k9 j9 hk9; omega)))⟩
                      · intro b54
                        exact absurd b54.1 (by decide)
                    · intro b53
                      refine r_if_le c340_219 rfl (show q_w32 (0) = 0 from rfl) ?_ ?_
                      · intro b55
                        refine r_iconst c340_232 rfl ?_
                        exact r_zret c340_233 ⟨rfl, rfl, rfl⟩ (by decide) ⟨rfl, ⟨_, rfl, (by decide)⟩, (by repeat (first | exact q_Gr.rf | refine q_Gr.ud ?_ (by omega) (by first | assumption | rfl) rfl (by first | exact ⟨fun h9 => absurd h9 (by decide), fun h9 => absurd h9 (by decide)⟩ | (constructor <;> (intro h9; omega))) | refine q_Gr.udz ?_ (by omega) (by first | assumption | decide | omega) (by first | exact ⟨fun h9 => absurd h9 (by decide), fun h9 => absurd h9 (by decide)⟩ | (constructor <;> (intro h9; omega))) | refine q_Gr.tr ?_ (by assumption) (by intro k9 j9 hk9; omega)))⟩
                      · intro b55
                        exact absurd b55.1 (by decide)
                    · intro b53
                      refine r_if_le c340_219 rfl (show q_w32 (1) = 1 from rfl) ?_ ?_
                      · intro b56
                        exact absurd b56.1 (by decide)
                      · intro b56
                        refine r_aload_n c340_222 rfl rfl ?_
                        refine r_getr c340_223 (by first | assumption | omega) (by decide) (by first | assumption | rfl) rfl rfl ?_
                        refine r_bipush c340_226 rfl ?_
                        refine r_iload_n c340_228 rfl rfl ?_
                        refine r_iadd c340_229 (by first | exact q_w32_id (by omega) (by omega) | exact q_w32w _ | exact rfl) rfl ?_
                        refine r_lconst c340_230 rfl ?_
                        refine r_last c340_231 (by first | assumption | omega) (by decide) (by first | assumption | rfl) (by first | assumption | decide) (by first | exact q_w32_id (by omega) (by omega) | exact q_w32w _ | exact rfl) (by first | assumption | omega) (by first | assumption | omega) rfl ?_
                        refine r_iconst c340_232 rfl ?_
                        exact r_zret c340_233 ⟨rfl, rfl, rfl⟩ (by decide) ⟨rfl, ⟨_, rfl, (by decide)⟩, (by repeat (first | exact q_Gr.rf | refine q_Gr.ud ?_ (by omega) (by first | assumption | rfl) rfl (by first | exact ⟨fun h9 => absurd h9 (by decide), fun h9 => absurd h9 (by decide)⟩ | (constructor <;> (intro h9; omega))) | refine q_Gr.udz ?_ (by omega) (by first | assumption | decide | omega) (by first | exact ⟨fun h9 => absurd h9 (by decide), fun h9 => absurd h9 (by decide)⟩ | (constructor <;> (intro h9; omega))) | refine q_Gr.tr ?_ (by assumption) (by intro k9 j9 hk9; omega)))⟩
                · intro b48
                  refine r_if_gt c340_177 rfl (show q_w32 (0) = 0 from rfl) ?_ ?_
                  · intro b57
                    exact absurd b57.1 (by decide)
                  · intro b57
                    refine r_aload_n c340_180 rfl rfl ?_
                    refine r_getr c340_181 (by first | assumption | omega) (by decide) (by first | assumption | rfl) rfl rfl ?_
                    refine r_bipush c340_184 rfl ?_
                    refine r_iload_n c340_186 rfl rfl ?_
                    refine r_iadd c340_187 (by first | exact q_w32_id (by omega) (by omega) | exact q_w32w _ | exact rfl) rfl ?_
                    refine r_lconst c340_188 rfl ?_
                    refine r_last c340_189 (by first | assumption | omega) (by decide) (by first | assumption | rfl) (by first | assumption | decide) (by first | exact q_w32_id (by omega) (by omega) | exact q_w32w _ | exact rfl) (by first | assumption | omega) (by first | assumption | omega) rfl ?_
                    refine r_aload_n c340_190 rfl rfl ?_
                    refine r_getr c340_191 (by first | assumption | omega) (by decide) (by first | assumption | rfl) rfl rfl ?_
                    refine r_bipush c340_194 rfl ?_
                    refine r_iload_n c340_196 rfl rfl ?_
                    refine r_iadd c340_197 (by first | exact q_w32_id (by omega) (by omega) | exact q_w32w _ | exact rfl) rfl ?_
                    refine r_laldw (q_Gr.rb (S := fun k j => k = 140 ∧ (26 ≤ j ∧ j ≤ 61 ∧ ¬(47 ≤ j ∧ j ≤ 49))) hR (by repeat (first | exact q_Gr.rf | refine q_Gr.ud ?_ (by omega) (by first | assumption | rfl) rfl (by first | exact ⟨fun h9 => absurd h9 (by decide), fun h9 => absurd h9 (by decide)⟩ | (constructor <;> (intro h9; omega))) | refine q_Gr.udz ?_ (by omega) (by first | assumption | decide | omega) (by first | exact ⟨fun h9 => absurd h9 (by decide), fun h9 => absurd h9 (by decide)⟩ | (constructor <;> (intro h9; omega))) | refine q_Gr.tr ?_ (by assumption) (by intro k9 j9 hk9; omega)))) c340_198 (by first | exact q_w32_id (by omega) (by omega) | exact q_w32w _ | exact rfl) (by first | assumption | omega) (by first | assumption | omega) rfl ?_
                    intro y58
                    refine r_aload_n c340_199 rfl rfl ?_
                    refine r_getr c340_200 (by first | assumption | omega) (by decide) (by first | assumption | rfl) rfl rfl ?_
                    refine r_bipush c340_203 rfl ?_
                    refine r_iload_n c340_205 rfl rfl ?_
                    refine r_iadd c340_206 (by first | exact q_w32_id (by omega) (by omega) | exact q_w32w _ | exact rfl) rfl ?_
                    refine r_laldw (q_Gr.rb (S := fun k j => k = 140 ∧ (26 ≤ j ∧ j ≤ 61 ∧ ¬(47 ≤ j ∧ j ≤ 49))) hR (by repeat (first | exact q_Gr.rf | refine q_Gr.ud ?_ (by omega) (by first | assumption | rfl) rfl (by first | exact ⟨fun h9 => absurd h9 (by decide), fun h9 => absurd h9 (by decide)⟩ | (constructor <;> (intro h9; omega))) | refine q_Gr.udz ?_ (by omega) (by first | assumption | decide | omega) (by first | exact ⟨fun h9 => absurd h9 (by decide), fun h9 => absurd h9 (by decide)⟩ | (constructor <;> (intro h9; omega))) | refine q_Gr.tr ?_ (by assumption) (by intro k9 j9 hk9; omega)))) c340_207 (by first | exact q_w32_id (by omega) (by omega) | exact q_w32w _ | exact rfl) (by first | assumption | omega) (by first | assumption | omega) rfl ?_
                    intro y59
                    refine r_aload_n c340_208 rfl rfl ?_
                    refine r_getr c340_209 (by first | assumption | omega) (by decide) (by first | assumption | rfl) rfl rfl ?_
                    refine r_bipush c340_212 rfl ?_
                    refine r_iload_n c340_214 rfl rfl ?_
                    refine r_iadd c340_215 (by first | exact q_w32_id (by omega) (by omega) | exact q_w32w _ | exact rfl) rfl ?_
                    refine r_laldw (q_Gr.rb (S := fun k j => k = 140 ∧ (26 ≤ j ∧ j ≤ 61 ∧ ¬(47 ≤ j ∧ j ≤ 49))) hR (by repeat (first | exact q_Gr.rf | refine q_Gr.ud ?_ (by omega) (by first | assumption | rfl) rfl (by first | exact ⟨fun h9 => absurd h9 (by decide), fun h9 => absurd h9 (by decide)⟩ | (constructor <;> (intro h9; omega))) | refine q_Gr.udz ?_ (by omega) (by first | assumption | decide | omega) (by first | exact ⟨fun h9 => absurd h9 (by decide), fun h9 => absurd h9 (by decide)⟩ | (constructor <;> (intro h9; omega))) | refine q_Gr.tr ?_ (by assumption) (by intro k9 j9 hk9; omega)))) c340_216 (by first | exact q_w32_id (by omega) (by omega) | exact q_w32w _ | exact rfl) (by first | assumption | omega) (by first | assumption | omega) rfl ?_
                    intro y60
                    refine r_ladd c340_217 rfl rfl ?_
                    refine r_lcmpn c340_218 rfl (by first | exact q_w64_id (by omega) (by omega) | exact rfl) (by first | exact q_w64_id (by omega) (by omega) | exact rfl) ?_ ?_ ?_
                    · intro b61
                      refine r_if_le c340_219 rfl (show q_w32 (-1) = -1 from rfl) ?_ ?_
                      · intro b62
                        refine r_iconst c340_232 rfl ?_
                        exact r_zret c340_233 ⟨rfl, rfl, rfl⟩ (by decide) ⟨rfl, ⟨_, rfl, (by decide)⟩, (by repeat (first | exact q_Gr.rf | refine q_Gr.ud ?_ (by omega) (by first | assumption | rfl) rfl (by first | exact ⟨fun h9 => absurd h9 (by decide), fun h9 => absurd h9 (by decide)⟩ | (constructor <;> (intro h9; omega))) | refine q_Gr.udz ?_ (by omega) (by first | assumption | decide | omega) (by first | exact ⟨fun h9 => absurd h9 (by decide), fun h9 => absurd h9 (by decide)⟩ | (constructor <;> (intro h9; omega))) | refine q_Gr.tr ?_ (by assumption) (by intro k9 j9 hk9; omega)))⟩
                      · intro b62
                        exact absurd b62.1 (by decide)
                    · intro b61
                      refine r_if_le c340_219 rfl (show q_w32 (0) = 0 from rfl) ?_ ?_
                      · intro b63
                        refine r_iconst c340_232 rfl ?_
                        exact r_zret c340_233 ⟨rfl, rfl, rfl⟩ (by decide) ⟨rfl, ⟨_, rfl, (by decide)⟩, (by repeat (first | exact q_Gr.rf | refine q_Gr.ud ?_ (by omega) (by first | assumption | rfl) rfl (by first | exact ⟨fun h9 => absurd h9 (by decide), fun h9 => absurd h9 (by decide)⟩ | (constructor <;> (intro h9; omega))) | refine q_Gr.udz ?_ (by omega) (by first | assumption | decide | omega) (by first | exact ⟨fun h9 => absurd h9 (by decide), fun h9 => absurd h9 (by decide)⟩ | (constructor <;> (intro h9; omega))) | refine q_Gr.tr ?_ (by assumption) (by intro k9 j9 hk9; omega)))⟩
                      · intro b63
                        exact absurd b63.1 (by decide)
                    · intro b61
                      refine r_if_le c340_219 rfl (show q_w32 (1) = 1 from rfl) ?_ ?_
                      · intro b64
                        exact absurd b64.1 (by decide)
                      · intro b64
                        refine r_aload_n c340_222 rfl rfl ?_
                        refine r_getr c340_223 (by first | assumption | omega) (by decide) (by first | assumption | rfl) rfl rfl ?_
                        refine r_bipush c340_226 rfl ?_
                        refine r_iload_n c340_228 rfl rfl ?_
                        refine r_iadd c340_229 (by first | exact q_w32_id (by omega) (by omega) | exact q_w32w _ | exact rfl) rfl ?_
                        refine r_lconst c340_230 rfl ?_
                        refine r_last c340_231 (by first | assumption | omega) (by decide) (by first | assumption | rfl) (by first | assumption | decide) (by first | exact q_w32_id (by omega) (by omega) | exact q_w32w _ | exact rfl) (by first | assumption | omega) (by first | assumption | omega) rfl ?_
                        refine r_iconst c340_232 rfl ?_
                        exact r_zret c340_233 ⟨rfl, rfl, rfl⟩ (by decide) ⟨rfl, ⟨_, rfl, (by decide)⟩, (by repeat (first | exact q_Gr.rf | refine q_Gr.ud ?_ (by omega) (by first | assumption | rfl) rfl (by first | exact ⟨fun h9 => absurd h9 (by decide), fun h9 => absurd h9 (by decide)⟩ | (constructor <;> (intro h9; omega))) | refine q_Gr.udz ?_ (by omega) (by first | assumption | decide | omega) (by first | exact ⟨fun h9 => absurd h9 (by decide), fun h9 => absurd h9 (by decide)⟩ | (constructor <;> (intro h9; omega))) | refine q_Gr.tr ?_ (by assumption) (by intro k9 j9 hk9; omega)))⟩
                · intro b48
                  refine r_if_gt c340_177 rfl (show q_w32 (1) = 1 from rfl) ?_ ?_
                  · intro b65
                    refine r_aload_n c340_190 rfl rfl ?_
                    refine r_getr c340_191 (by first | assumption | omega) (by decide) (by first | assumption | rfl) rfl rfl ?_
                    refine r_bipush c340_194 rfl ?_
                    refine r_iload_n c340_196 rfl rfl ?_
                    refine r_iadd c340_197 (by first | exact q_w32_id (by omega) (by omega) | exact q_w32w _ | exact rfl) rfl ?_
                    refine r_laldw (q_Gr.rb (S := fun k j => k = 140 ∧ (26 ≤ j ∧ j ≤ 61 ∧ ¬(47 ≤ j ∧ j ≤ 49))) hR (by repeat (first | exact q_Gr.rf | refine q_Gr.ud ?_ (by omega) (by first | assumption | rfl) rfl (by first | exact ⟨fun h9 => absurd h9 (by decide), fun h9 => absurd h9 (by decide)⟩ | (constructor <;> (intro h9; omega))) | refine q_Gr.udz ?_ (by omega) (by first | assumption | decide | omega) (by first | exact ⟨fun h9 => absurd h9 (by decide), fun h9 => absurd h9 (by decide)⟩ | (constructor <;> (intro h9; omega))) | refine q_Gr.tr ?_ (by assumption) (by intro k9 j9 hk9; omega)))) c340_198 (by first | exact q_w32_id (by omega) (by omega) | exact q_w32w _ | exact rfl) (by first | assumption | omega) (by first | assumption | omega) rfl ?_
                    intro y66
                    refine r_aload_n c340_199 rfl rfl ?_
                    refine r_getr c340_200 (by first | assumption | omega) (by decide) (by first | assumption | rfl) rfl rfl ?_
                    refine r_bipush c340_203 rfl ?_
                    refine r_iload_n c340_205 rfl rfl ?_
                    refine r_iadd c340_206 (by first | exact q_w32_id (by omega) (by omega) | exact q_w32w _ | exact rfl) rfl ?_
                    refine r_laldw (q_Gr.rb (S := fun k j => k = 140 ∧ (26 ≤ j ∧ j ≤ 61 ∧ ¬(47 ≤ j ∧ j ≤ 49))) hR (by repeat (first | exact q_Gr.rf | refine q_Gr.ud ?_ (by omega) (by first | assumption | rfl) rfl (by first | exact ⟨fun h9 => absurd h9 (by decide), fun h9 => absurd h9 (by decide)⟩ | (constructor <;> (intro h9; omega))) | refine q_Gr.udz ?_ (by omega) (by first | assumption | decide | omega) (by first | exact ⟨fun h9 => absurd h9 (by decide), fun h9 => absurd h9 (by decide)⟩ | (constructor <;> (intro h9; omega))) | refine q_Gr.tr ?_ (by assumption) (by intro k9 j9 hk9; omega)))) c340_207 (by first | exact q_w32_id (by omega) (by omega) | exact q_w32w _ | exact rfl) (by first | assumption | omega) (by first | assumption | omega) rfl ?_
                    intro y67
                    refine r_aload_n c340_208 rfl rfl ?_
                    refine r_getr c340_209 (by first | assumption | omega) (by decide) (by first | assumption | rfl) rfl rfl ?_
                    refine r_bipush c340_212 rfl ?_
                    refine r_iload_n c340_214 rfl rfl ?_
                    refine r_iadd c340_215 (by first | exact q_w32_id (by omega) (by omega) | exact q_w32w _ | exact rfl) rfl ?_
                    refine r_laldw (q_Gr.rb (S := fun k j => k = 140 ∧ (26 ≤ j ∧ j ≤ 61 ∧ ¬(47 ≤ j ∧ j ≤ 49))) hR (by repeat (first | exact q_Gr.rf | refine q_Gr.ud ?_ (by omega) (by first | assumption | rfl) rfl (by first | exact ⟨fun h9 => absurd h9 (by decide), fun h9 => absurd h9 (by decide)⟩ | (constructor <;> (intro h9; omega))) | refine q_Gr.udz ?_ (by omega) (by first | assumption | decide | omega) (by first | exact ⟨fun h9 => absurd h9 (by decide), fun h9 => absurd h9 (by decide)⟩ | (constructor <;> (intro h9; omega))) | refine q_Gr.tr ?_ (by assumption) (by intro k9 j9 hk9; omega)))) c340_216 (by first | exact q_w32_id (by omega) (by omega) | exact q_w32w _ | exact rfl) (by first | assumption | omega) (by first | assumption | omega) rfl ?_
                    intro y68
                    refine r_ladd c340_217 rfl rfl ?_
                    refine r_lcmpn c340_218 rfl (by first | exact q_w64_id (by omega) (by omega) | exact rfl) (by first | exact q_w64_id (by omega) (by omega) | exact rfl) ?_ ?_ ?_
                    · intro b69
                      refine r_if_le c340_219 rfl (show q_w32 (-1) = -1 from rfl) ?_ ?_
                      · intro b70
                        refine r_iconst c340_232 rfl ?_
                        exact r_zret c340_233 ⟨rfl, rfl, rfl⟩ (by decide) ⟨rfl, ⟨_, rfl, (by decide)⟩, (by repeat (first | exact q_Gr.rf | refine q_Gr.ud ?_ (by omega) (by first | assumption | rfl) rfl (by first | exact ⟨fun h9 => absurd h9 (by decide), fun h9 => absurd h9 (by decide)⟩ | (constructor <;> (intro h9; omega))) | refine q_Gr.udz ?_ (by omega) (by first | assumption | decide | omega) (by first | exact ⟨fun h9 => absurd h9 (by decide), fun h9 => absurd h9 (by decide)⟩ | (constructor <;> (intro h9; omega))) | refine q_Gr.tr ?_ (by assumption) (by intro k9 j9 hk9; omega)))⟩
                      · intro b70
                        exact absurd b70.1 (by decide)
                    · intro b69
                      refine r_if_le c340_219 rfl (show q_w32 (0) = 0 from rfl) ?_ ?_
                      · intro b71
                        refine r_iconst c340_232 rfl ?_
                        exact r_zret c340_233 ⟨rfl, rfl, rfl⟩ (by decide) ⟨rfl, ⟨_, rfl, (by decide)⟩, (by repeat (first | exact q_Gr.rf | refine q_Gr.ud ?_ (by omega) (by first | assumption | rfl) rfl (by first | exact ⟨fun h9 => absurd h9 (by decide), fun h9 => absurd h9 (by decide)⟩ | (constructor <;> (intro h9; omega))) | refine q_Gr.udz ?_ (by omega) (by first | assumption | decide | omega) (by first | exact ⟨fun h9 => absurd h9 (by decide), fun h9 => absurd h9 (by decide)⟩ | (constructor <;> (intro h9; omega))) | refine q_Gr.tr ?_ (by assumption) (by intro k9 j9 hk9; omega)))⟩
                      · intro b71
                        exact absurd b71.1 (by decide)
                    · intro b69
                      refine r_if_le c340_219 rfl (show q_w32 (1) = 1 from rfl) ?_ ?_
                      · intro b72
                        exact absurd b72.1 (by decide)
                      · intro b72
                        refine r_aload_n c340_222 rfl rfl ?_
                        refine r_getr c340_223 (by first | assumption | omega) (by decide) (by first | assumption | rfl) rfl rfl ?_
                        refine r_bipush c340_226 rfl ?_
                        refine r_iload_n c340_228 rfl rfl ?_
                        refine r_iadd c340_229 (by first | exact q_w32_id (by omega) (by omega) | exact q_w32w _ | exact rfl) rfl ?_
                        refine r_lconst c340_230 rfl ?_
                        refine r_last c340_231 (by first | assumption | omega) (by decide) (by first | assumption | rfl) (by first | assumption | decide) (by first | exact q_w32_id (by omega) (by omega) | exact q_w32w _ | exact rfl) (by first | assumption | omega) (by first | assumption | omega) rfl ?_
                        refine r_iconst c340_232 rfl ?_
                        exact r_zret c340_233 ⟨rfl, rfl, rfl⟩ (by decide) ⟨rfl, ⟨_, rfl, (by decide)⟩, (by repeat (first | exact q_Gr.rf | refine q_Gr.ud ?_ (by omega) (by first | assumption | rfl) rfl (by first | exact ⟨fun h9 => absurd h9 (by decide), fun h9 => absurd h9 (by decide)⟩ | (constructor <;> (intro h9; omega))) | refine q_Gr.udz ?_ (by omega) (by first | assumption | decide | omega) (by first | exact ⟨fun h9 => absurd h9 (by decide), fun h9 => absurd h9 (by decide)⟩ | (constructor <;> (intro h9; omega))) | refine q_Gr.tr ?_ (by assumption) (by intro k9 j9 hk9; omega)))⟩
                  · intro b65
                    exact absurd b65.1 (by decide)
              · intro b44
                exact absurd b44.1 (by decide)
          · intro b10
            exact absurd b10.1 (by decide)
        · intro b7
          refine r_if_eq c340_95 rfl (show q_w32 (1) = 1 from rfl) ?_ ?_
          · intro b73
            exact absurd b73.1 (by decide)
          · intro b73
            refine r_aload_n c340_98 rfl rfl ?_
            refine r_getr c340_99 (by first | assumption | omega) (by decide) (by first | assumption | rfl) rfl rfl ?_
            refine r_bipush c340_102 rfl ?_
            refine r_iload_n c340_104 rfl rfl ?_
            refine r_iadd c340_105 (by first | exact q_w32_id (by omega) (by omega) | exact q_w32w _ | exact rfl) rfl ?_
            refine r_dup2 c340_106 rfl rfl rfl ?_
            refine r_laldw (q_Gr.rb (S := fun k j => k = 140 ∧ (26 ≤ j ∧ j ≤ 61 ∧ ¬(47 ≤ j ∧ j ≤ 49))) hR (by repeat (first | exact q_Gr.rf | refine q_Gr.ud ?_ (by omega) (by first | assumption | rfl) rfl (by first | exact ⟨fun h9 => absurd h9 (by decide), fun h9 => absurd h9 (by decide)⟩ | (constructor <;> (intro h9; omega))) | refine q_Gr.udz ?_ (by omega) (by first | assumption | decide | omega) (by first | exact ⟨fun h9 => absurd h9 (by decide), fun h9 => absurd h9 (by decide)⟩ | (constructor <;> (intro h9; omega))) | refine q_Gr.tr ?_ (by assumption) (by intro k9 j9 hk9; omega)))) c340_107 (by first | exact q_w32_id (by omega) (by omega) | exact q_w32w _ | exact rfl) (by first | assumption | omega) (by first | assumption | omega) rfl ?_
            intro y74
            refine r_iload_n c340_108 rfl rfl ?_
            refine r_i2l c340_109 (by first | exact q_w32_id (by omega) (by omega) | exact q_w32w _ | exact rfl) rfl ?_
            refine r_ladd c340_110 rfl rfl ?_
            refine r_last c340_111 (by first | assumption | omega) (by decide) (by first | assumption | rfl) (by first | assumption | decide) (by first | exact q_w32_id (by omega) (by omega) | exact q_w32w _ | exact rfl) (by first | assumption | omega) (by first | assumption | omega) rfl ?_
            refine r_iconst c340_112 rfl ?_
            exact r_zret c340_113 ⟨rfl, rfl, rfl⟩ (by decide) ⟨rfl, ⟨_, rfl, (by decide)⟩, (by repeat (first | exact q_Gr.rf | refine q_Gr.ud ?_ (by omega) (by first | assumption | rfl) rfl (by first | exact ⟨fun h9 => absurd h9 (by decide), fun h9 => absurd h9 (by decide)⟩ | (constructor <;> (intro h9; omega))) | refine q_Gr.udz ?_ (by omega) (by first | assumption | decide | omega) (by first | exact ⟨fun h9 => absurd h9 (by decide), fun h9 => absurd h9 (by decide)⟩ | (constructor <;> (intro h9; omega))) | refine q_Gr.tr ?_ (by assumption) (by intro k9 j9 hk9; omega)))⟩
      · intro b5
        refine r_aload_n c340_69 rfl rfl ?_
        refine r_getr c340_70 (by first | assumption | omega) (by decide) (by first | assumption | rfl) rfl rfl ?_
        refine r_bipush c340_73 rfl ?_
        refine r_iload_n c340_75 rfl rfl ?_
        refine r_iadd c340_76 (by first | exact q_w32_id (by omega) (by omega) | exact q_w32w _ | exact rfl) rfl ?_
        refine r_laldw (q_Gr.rb (S := fun k j => k = 140 ∧ (26 ≤ j ∧ j ≤ 61 ∧ ¬(47 ≤ j ∧ j ≤ 49))) hR (by repeat (first | exact q_Gr.rf | refine q_Gr.ud ?_ (by omega) (by first | assumption | rfl) rfl (by first | exact ⟨fun h9 => absurd h9 (by decide), fun h9 => absurd h9 (by decide)⟩ | (constructor <;> (intro h9; omega))) | refine q_Gr.udz ?_ (by omega) (by first | assumption | decide | omega) (by first | exact ⟨fun h9 => absurd h9 (by decide), fun h9 => absurd h9 (by decide)⟩ | (constructor <;> (intro h9; omega))) | refine q_Gr.tr ?_ (by assumption) (by intro k9 j9 hk9; omega)))) c340_77 (by first | exact q_w32_id (by omega) (by omega) | exact q_w32w _ | exact rfl) (by first | assumption | omega) (by first | assumption | omega) rfl ?_
        intro y75
        refine r_goto c340_78 ?_
        refine r_lstore c340_82 (lo' := [(5, _), (3, _), (0, _), (1, _), (2, _)]) rfl rfl rfl ?_
        refine r_aload_n c340_84 rfl rfl ?_
        refine r_getr c340_85 (by first | assumption | omega) (by decide) (by first | assumption | rfl) rfl rfl ?_
        refine r_bipush c340_88 rfl ?_
        refine r_iload_n c340_90 rfl rfl ?_
        refine r_iadd c340_91 (by first | exact q_w32_id (by omega) (by omega) | exact q_w32w _ | exact rfl) rfl ?_
        refine r_laldw (q_Gr.rb (S := fun k j => k = 140 ∧ (26 ≤ j ∧ j ≤ 61 ∧ ¬(47 ≤ j ∧ j ≤ 49))) hR (by repeat (first | exact q_Gr.rf | refine q_Gr.ud ?_ (by omega) (by first | assumption | rfl) rfl (by first | exact ⟨fun h9 => absurd h9 (by decide), fun h9 => absurd h9 (by decide)⟩ | (constructor <;> (intro h9; omega))) | refine q_Gr.udz ?_ (by omega) (by first | assumption | decide | omega) (by first | exact ⟨fun h9 => absurd h9 (by decide), fun h9 => absurd h9 (by decide)⟩ | (constructor <;> (intro h9; omega))) | refine q_Gr.tr ?_ (by assumption) (by intro k9 j9 hk9; omega)))) c340_92 (by first | exact q_w32_id (by omega) (by omega) | exact q_w32w _ | exact rfl) (by first | assumption | omega) (by first | assumption | omega) rfl ?_
        intro y76
        refine r_lload_n c340_93 rfl rfl ?_
        refine r_lcmpn c340_94 rfl (by first | exact q_w64_id (by omega) (by omega) | exact rfl) (show q_w64 (0) = 0 from rfl) ?_ ?_ ?_
        · intro b77
          refine r_if_eq c340_95 rfl (show q_w32 (-1) = -1 from rfl) ?_ ?_
          · intro b78
            exact absurd b78.1 (by decide)
          · intro b78
            refine r_aload_n c340_98 rfl rfl ?_
            refine r_getr c340_99 (by first | assumption | omega) (by decide) (by first | assumption | rfl) rfl rfl ?_
            refine r_bipush c340_102 rfl ?_
            refine r_iload_n c340_104 rfl rfl ?_
            refine r_iadd c340_105 (by first | exact q_w32_id (by omega) (by omega) | exact q_w32w _ | exact rfl) rfl ?_
            refine r_dup2 c340_106 rfl rfl rfl ?_
            refine r_laldw (q_Gr.rb (S := fun k j => k = 140 ∧ (26 ≤ j ∧ j ≤ 61 ∧ ¬(47 ≤ j ∧ j ≤ 49))) hR (by repeat (first | exact q_Gr.rf | refine q_Gr.ud ?_ (by omega) (by first | assumption | rfl) rfl (by first | exact ⟨fun h9 => absurd h9 (by decide), fun h9 => absurd h9 (by decide)⟩ | (constructor <;> (intro h9; omega))) | refine q_Gr.udz ?_ (by omega) (by first | assumption | decide | omega) (by first | exact ⟨fun h9 => absurd h9 (by decide), fun h9 => absurd h9 (by decide)⟩ | (constructor <;> (intro h9; omega))) | refine q_Gr.tr ?_ (by assumption) (by intro k9 j9 hk9; omega)))) c340_107 (by first | exact q_w32_id (by omega) (by omega) | exact q_w32w _ | exact rfl) (by first | assumption | omega) (by first | assumption | omega) rfl ?_
            intro y79
            refine r_iload_n c340_108 rfl rfl ?_
            refine r_i2l c340_109 (by first | exact q_w32_id (by omega) (by omega) | exact q_w32w _ | exact rfl) rfl ?_
            refine r_ladd c340_110 rfl rfl ?_
            refine r_last c340_111 (by first | assumption | omega) (by decide) (by first | assumption | rfl) (by first | assumption | decide) (by first | exact q_w32_id (by omega) (by omega) | exact q_w32w _ | exact rfl) (by first | assumption | omega) (by first | assumption | omega) rfl ?_
            refine r_iconst c340_112 rfl ?_
            exact r_zret c340_113 ⟨rfl, rfl, rfl⟩ (by decide) ⟨rfl, ⟨_, rfl, (by decide)⟩, (by repeat (first | exact q_Gr.rf | refine q_Gr.ud ?_ (by omega) (by first | assumption | rfl) rfl (by first | exact ⟨fun h9 => absurd h9 (by decide), fun h9 => absurd h9 (by decide)⟩ | (constructor <;> (intro h9; omega))) | refine q_Gr.udz ?_ (by omega) (by first | assumption | decide | omega) (by first | exact ⟨fun h9 => absurd h9 (by decide), fun h9 => absurd h9 (by decide)⟩ | (constructor <;> (intro h9; omega))) | refine q_Gr.tr ?_ (by assumption) (by intro k9 j9 hk9; omega)))⟩
        · intro b77
          refine r_if_eq c340_95 rfl (show q_w32 (0) = 0 from rfl) ?_ ?_
          · intro b80
            refine r_aload_n c340_114 rfl rfl ?_
            refine r_getr c340_115 (by first | assumption | omega) (by decide) (by first | assumption | rfl) rfl rfl ?_
            refine r_bipush c340_118 rfl ?_
            refine r_iload_n c340_120 rfl rfl ?_
            refine r_iadd c340_121 (by first | exact q_w32_id (by omega) (by omega) | exact q_w32w _ | exact rfl) rfl ?_
            refine r_laldw (q_Gr.rb (S := fun k j => k = 140 ∧ (26 ≤ j ∧ j ≤ 61 ∧ ¬(47 ≤ j ∧ j ≤ 49))) hR (by repeat (first | exact q_Gr.rf | refine q_Gr.ud ?_ (by omega) (by first | assumption | rfl) rfl (by first | exact ⟨fun h9 => absurd h9 (by decide), fun h9 => absurd h9 (by decide)⟩ | (constructor <;> (intro h9; omega))) | refine q_Gr.udz ?_ (by omega) (by first | assumption | decide | omega) (by first | exact ⟨fun h9 => absurd h9 (by decide), fun h9 => absurd h9 (by decide)⟩ | (constructor <;> (intro h9; omega))) | refine q_Gr.tr ?_ (by assumption) (by intro k9 j9 hk9; omega)))) c340_122 (by first | exact q_w32_id (by omega) (by omega) | exact q_w32w _ | exact rfl) (by first | assumption | omega) (by first | assumption | omega) rfl ?_
            intro y81
            refine r_lload c340_123 rfl rfl ?_
            refine r_lcmpn c340_125 rfl (by first | exact q_w64_id (by omega) (by omega) | exact rfl) (by first | exact q_w64_id (by omega) (by omega) | exact rfl) ?_ ?_ ?_
            · intro b82
              refine r_if_ne c340_126 rfl (show q_w32 (-1) = -1 from rfl) ?_ ?_
              · intro b83
                refine r_aload_n c340_144 rfl rfl ?_
                refine r_getr c340_145 (by first | assumption | omega) (by decide) (by first | assumption | rfl) rfl rfl ?_
                refine r_bipush c340_148 rfl ?_
                refine r_iload_n c340_150 rfl rfl ?_
                refine r_iadd c340_151 (by first | exact q_w32_id (by omega) (by omega) | exact q_w32w _ | exact rfl) rfl ?_
                refine r_dup2 c340_152 rfl rfl rfl ?_
                refine r_laldw (q_Gr.rb (S := fun k j => k = 140 ∧ (26 ≤ j ∧ j ≤ 61 ∧ ¬(47 ≤ j ∧ j ≤ 49))) hR (by repeat (first | exact q_Gr.rf | refine q_Gr.ud ?_ (by omega) (by first | assumption | rfl) rfl (by first | exact ⟨fun h9 => absurd h9 (by decide), fun h9 => absurd h9 (by decide)⟩ | (constructor <;> (intro h9; omega))) | refine q_Gr.udz ?_ (by omega) (by first | assumption | decide | omega) (by first | exact ⟨fun h9 => absurd h9 (by decide), fun h9 => absurd h9 (by decide)⟩ | (constructor <;> (intro h9; omega))) | refine q_Gr.tr ?_ (by assumption) (by intro k9 j9 hk9; omega)))) c340_153 (by first | exact q_w32_id (by omega) (by omega) | exact q_w32w _ | exact rfl) (by first | assumption | omega) (by first | assumption | omega) rfl ?_
                intro y84
                refine r_iload_n c340_154 rfl rfl ?_
                refine r_i2l c340_155 (by first | exact q_w32_id (by omega) (by omega) | exact q_w32w _ | exact rfl) rfl ?_
                refine r_ladd c340_156 rfl rfl ?_
                refine r_last c340_157 (by first | assumption | omega) (by decide) (by first | assumption | rfl) (by first | assumption | decide) (by first | exact q_w32_id (by omega) (by omega) | exact q_w32w _ | exact rfl) (by first | assumption | omega) (by first | assumption | omega) rfl ?_
                refine r_aload_n c340_158 rfl rfl ?_
                refine r_getr c340_159 (by first | assumption | omega) (by decide) (by first | assumption | rfl) rfl rfl ?_
                refine r_bipush c340_162 rfl ?_
                refine r_iload_n c340_164 rfl rfl ?_
                refine r_iadd c340_165 (by first | exact q_w32_id (by omega) (by omega) | exact q_w32w _ | exact rfl) rfl ?_
                refine r_laldw (q_Gr.rb (S := fun k j => k = 140 ∧ (26 ≤ j ∧ j ≤ 61 ∧ ¬(47 ≤ j ∧ j ≤ 49))) hR (by repeat (first | exact q_Gr.rf | refine q_Gr.ud ?_ (by omega) (by first | assumption | rfl) rfl (by first | exact ⟨fun h9 => absurd h9 (by decide), fun h9 => absurd h9 (by decide)⟩ | (constructor <;> (intro h9; omega))) | refine q_Gr.udz ?_ (by omega) (by first | assumption | decide | omega) (by first | exact ⟨fun h9 => absurd h9 (by decide), fun h9 => absurd h9 (by decide)⟩ | (constructor <;> (intro h9; omega))) | refine q_Gr.tr ?_ (by assumption) (by intro k9 j9 hk9; omega)))) c340_166 (by first | exact q_w32_id (by omega) (by omega) | exact q_w32w _ | exact rfl) (by first | assumption | omega) (by first | assumption | omega) rfl ?_
                intro y85
                refine r_aload_n c340_167 rfl rfl ?_
                refine r_getr c340_168 (by first | assumption | omega) (by decide) (by first | assumption | rfl) rfl rfl ?_
                refine r_bipush c340_171 rfl ?_
                refine r_iload_n c340_173 rfl rfl ?_
                refine r_iadd c340_174 (by first | exact q_w32_id (by omega) (by omega) | exact q_w32w _ | exact rfl) rfl ?_
                refine r_laldw (q_Gr.rb (S := fun k j => k = 140 ∧ (26 ≤ j ∧ j ≤ 61 ∧ ¬(47 ≤ j ∧ j ≤ 49))) hR (by repeat (first | exact q_Gr.rf | refine q_Gr.ud ?_ (by omega) (by first | assumption | rfl) rfl (by first | exact ⟨fun h9 => absurd h9 (by decide), fun h9 => absurd h9 (by decide)⟩ | (constructor <;> (intro h9; omega))) | refine q_Gr.udz ?_ (by omega) (by first | assumption | decide | omega) (by first | exact ⟨fun h9 => absurd h9 (by decide), fun h9 => absurd h9 (by decide)⟩ | (constructor <;> (intro h9; omega))) | refine q_Gr.tr ?_ (by assumption) (by intro k9 j9 hk9; omega)))) c340_175 (by first | exact q_w32_id (by omega) (by omega) | exact q_w32w _ | exact rfl) (by first | assumption | omega) (by first | assumption | omega) rfl ?_
                intro y86
                refine r_lcmpn c340_176 rfl (by first | exact q_w64_id (by omega) (by omega) | exact rfl) (by first | exact q_w64_id (by omega) (by omega) | exact rfl) ?_ ?_ ?_
                · intro b87
                  refine r_if_gt c340_177 rfl (show q_w32 (-1) = -1 from rfl) ?_ ?_
                  · intro b88
                    exact absurd b88.1 (by decide)
                  · intro b88
                    refine r_aload_n c340_180 rfl rfl ?_
                    refine r_getr c340_181 (by first | assumption | omega) (by decide) (by first | assumption | rfl) rfl rfl ?_
                    refine r_bipush c340_184 rfl ?_
                    refine r_iload_n c340_186 rfl rfl ?_
                    refine r_iadd c340_187 (by first | exact q_w32_id (by omega) (by omega) | exact q_w32w _ | exact rfl) rfl ?_
                    refine r_lconst c340_188 rfl ?_
                    refine r_last c340_189 (by first | assumption | omega) (by decide) (by first | assumption | rfl) (by first | assumption | decide) (by first | exact q_w32_id (by omega) (by omega) | exact q_w32w _ | exact rfl) (by first | assumption | omega) (by first | assumption | omega) rfl ?_
                    refine r_aload_n c340_190 rfl rfl ?_
                    refine r_getr c340_191 (by first | assumption | omega) (by decide) (by first | assumption | rfl) rfl rfl ?_
                    refine r_bipush c340_194 rfl ?_
                    refine r_iload_n c340_196 rfl rfl ?_
                    refine r_iadd c340_197 (by first | exact q_w32_id (by omega) (by omega) | exact q_w32w _ | exact rfl) rfl ?_
                    refine r_laldw (q_Gr.rb (S := fun k j => k = 140 ∧ (26 ≤ j ∧ j ≤ 61 ∧ ¬(47 ≤ j ∧ j ≤ 49))) hR (by repeat (first | exact q_Gr.rf | refine q_Gr.ud ?_ (by omega) (by first | assumption | rfl) rfl (by first | exact ⟨fun h9 => absurd h9 (by decide), fun h9 => absurd h9 (by decide)⟩ | (constructor <;> (intro h9; omega))) | refine q_Gr.udz ?_ (by omega) (by first | assumption | decide | omega) (by first | exact ⟨fun h9 => absurd h9 (by decide), fun h9 => absurd h9 (by decide)⟩ | (constructor <;> (intro h9; omega))) | refine q_Gr.tr ?_ (by assumption) (by intro k9 j9 hk9; omega)))) c340_198 (by first | exact q_w32_id (by omega) (by omega) | exact q_w32w _ | exact rfl) (by first | assumption | omega) (by first | assumption | omega) rfl ?_
                    intro y89
                    refine r_aload_n c340_199 rfl rfl ?_
                    refine r_getr c340_200 (by first | assumption | omega) (by decide) (by first | assumption | rfl) rfl rfl ?_
                    refine r_bipush c340_203 rfl ?_
                    refine r_iload_n c340_205 rfl rfl ?_
                    refine r_iadd c340_206 (by first | exact q_w32_id (by omega) (by omega) | exact q_w32w _ | exact rfl) rfl ?_
                    refine r_laldw (q_Gr.rb (S := fun k j => k = 140 ∧ (26 ≤ j ∧ j ≤ 61 ∧ ¬(47 ≤ j ∧ j ≤ 49))) hR (by repeat (first | exact q_Gr.rf | refine q_Gr.ud ?_ (by omega) (by first | assumption | rfl) rfl (by first | exact ⟨fun h9 => absurd h9 (by decide), fun h9 => absurd h9 (by decide)⟩ | (constructor <;> (intro h9; omega))) | refine q_Gr.udz ?_ (by omega) (by first | assumption | decide | omega) (by first | exact ⟨fun h9 => absurd h9 (by decide), fun h9 => absurd h9 (by decide)⟩ | (constructor <;> (intro h9; omega))) | refine q_Gr.tr ?_ (by assumption) (by intro k9 j9 hk9; omega)))) c340_207 (by first | exact q_w32_id (by omega) (by omega) | exact q_w32w _ | exact rfl) (by first | assumption | omega) (by first | assumption | omega) rfl ?_
                    intro y90
                    refine r_aload_n c340_208 rfl rfl ?_
                    refine r_getr c340_209 (by first | assumption | omega) (by decide) (by first | assumption | rfl) rfl rfl ?_
                    refine r_bipush c340_212 rfl ?_
                    refine r_iload_n c340_214 rfl rfl ?_
                    refine r_iadd c340_215 (by first | exact q_w32_id (by omega) (by omega) | exact q_w32w _ | exact rfl) rfl ?_
                    refine r_laldw (q_Gr.rb (S := fun k j => k = 140 ∧ (26 ≤ j ∧ j ≤ 61 ∧ ¬(47 ≤ j ∧ j ≤ 49))) hR (by repeat (first | exact q_Gr.rf | refine q_Gr.ud ?_ (by omega) (by first | assumption | rfl) rfl (by first | exact ⟨fun h9 => absurd h9 (by decide), fun h9 => absurd h9 (by decide)⟩ | (constructor <;> (intro h9; omega))) | refine q_Gr.udz ?_ (by omega) (by first | assumption | decide | omega) (by first | exact ⟨fun h9 => absurd h9 (by decide), fun h9 => absurd h9 (by decide)⟩ | (constructor <;> (intro h9; omega))) | refine q_Gr.tr ?_ (by assumption) (by intro k9 j9 hk9; omega)))) c340_216 (by first | exact q_w32_id (by omega) (by omega) | exact q_w32w _ | exact rfl) (by first | assumption | omega) (by first | assumption | omega) rfl ?_
                    intro y91
                    refine r_ladd c340_217 rfl rfl ?_
                    refine r_lcmpn c340_218 rfl (by first | exact q_w64_id (by omega) (by omega) | exact rfl) (by first | exact q_w64_id (by omega) (by omega) | exact rfl) ?_ ?_ ?_
                    · intro b92
                      refine r_if_le c340_219 rfl (show q_w32 (-1) = -1 from rfl) ?_ ?_
                      · intro b93
                        refine r_iconst c340_232 rfl ?_
                        exact r_zret c340_233 ⟨rfl, rfl, rfl⟩ (by decide) ⟨rfl, ⟨_, rfl, (by decide)⟩, (by repeat (first | exact q_Gr.rf | refine q_Gr.ud ?_ (by omega) (by first | assumption | rfl) rfl (by first | exact ⟨fun h9 => absurd h9 (by decide), fun h9 => absurd h9 (by decide)⟩ | (constructor <;> (intro h9; omega))) | refine q_Gr.udz ?_ (by omega) (by first | assumption | decide | omega) (by first | exact ⟨fun h9 => absurd h9 (by decide), fun h9 => absurd h9 (by decide)⟩ | (constructor <;> (intro h9; omega))) | refine q_Gr.tr ?_ (by assumption) (by intro k9 j9 hk9; omega)))⟩
                      · intro b93
                        exact absurd b93.1 (by decide)
                    · intro b92
                      refine r_if_le c340_219 rfl (show q_w32 (0) = 0 from rfl) ?_ ?_
                      · intro b94
                        refine r_iconst c340_232 rfl ?_
                        exact r_zret c340_233 ⟨rfl, rfl, rfl⟩ (by decide) ⟨rfl, ⟨_, rfl, (by decide)⟩, (by repeat (first | exact q_Gr.rf | refine q_Gr.ud ?_ (by omega) (by first | assumption | rfl) rfl (by first | exact ⟨fun h9 => absurd h9 (by decide), fun h9 => absurd h9 (by decide)⟩ | (constructor <;> (intro h9; omega))) | refine q_Gr.udz ?_ (by omega) (by first | assumption | decide | omega) (by first | exact ⟨fun h9 => absurd h9 (by decide), fun h9 => absurd h9 (by decide)⟩ | (constructor <;> (intro h9; omega))) | refine q_Gr.tr ?_ (by assumption) (by intro k9 j9 hk9; omega)))⟩
                      · intro b94
                        exact absurd b94.1 (by decide)
                    · intro b92
                      refine r_if_le c340_219 rfl (show q_w32 (1) = 1 from rfl) ?_ ?_
                      · intro b95
                        exact absurd b95.1 (by decide)
                      · intro b95
                        refine r_aload_n c340_222 rfl rfl ?_
                        refine r_getr c340_223 (by first | assumption | omega) (by decide) (by first | assumption | rfl) rfl rfl ?_
                        refine r_bipush c340_226 rfl ?_
                        refine r_iload_n c340_228 rfl rfl ?_
                        refine r_iadd c340_229 (by first | exact q_w32_id (by omega) (by omega) | exact q_w32w _ | exact rfl) rfl ?_
                        refine r_lconst c340_230 rfl ?_
                        refine r_last c340_231 (by first | assumption | omega) (by decide) (by first | assumption | rfl) (by first | assumption | decide) (by first | exact q_w32_id (by omega) (by omega) | exact q_w32w _ | exact rfl) (by first | assumption | omega) (by first | assumption | omega) rfl ?_
                        refine r_iconst c340_232 rfl ?_
                        exact r_zret c340_233 ⟨rfl, rfl, rfl⟩ (by decide) ⟨rfl, ⟨_, rfl, (by decide)⟩, (by repeat (first | exact q_Gr.rf | refine q_Gr.ud ?_ (by omega) (by first | assumption | rfl) rfl (by first | exact ⟨fun h9 => absurd h9 (by decide), fun h9 => absurd h9 (by decide)⟩ | (constructor <;> (intro h9; omega))) | refine q_Gr.udz ?_ (by omega) (by first | assumption | decide | omega) (by first | exact ⟨fun h9 => absurd h9 (by decide), fun h9 => absurd h9 (by decide)⟩ | (constructor <;> (intro h9; omega))) | refine q_Gr.tr ?_ (by assumption) (by intro k9 j9 hk9; omega)))⟩
                · intro b87
                  refine r_if_gt c340_177 rfl (show q_w32 (0) = 0 from rfl) ?_ ?_
                  · intro b96
                    exact absurd b96.1 (by decide)
                  · intro b96
                    refine r_aload_n c340_180 rfl rfl ?_
                    refine r_getr c340_181 (by first | assumption | omega) (by decide) (by first | assumption | rfl) rfl rfl ?_
                    refine r_bipush c340_184 rfl ?_
                    refine r_iload_n c340_186 rfl rfl ?_
                    refine r_iadd c340_187 (by first | exact q_w32_id (by omega) (by omega) | exact q_w32w _ | exact rfl) rfl ?_
                    refine r_lconst c340_188 rfl ?_
                    refine r_last c340_189 (by first | assumption | omega) (by decide) (by first | assumption | rfl) (by first | assumption | decide) (by first | exact q_w32_id (by omega) (by omega) | exact q_w32w _ | exact rfl) (by first | assumption | omega) (by first | assumption | omega) rfl ?_
                    refine r_aload_n c340_190 rfl rfl ?_
                    refine r_getr c340_191 (by first | assumption | omega) (by decide) (by first | assumption | rfl) rfl rfl ?_
                    refine r_bipush c340_194 rfl ?_
                    refine r_iload_n c340_196 rfl rfl ?_
                    refine r_iadd c340_197 (by first | exact q_w32_id (by omega) (by omega) | exact q_w32w _ | exact rfl) rfl ?_
                    refine r_laldw (q_Gr.rb (S := fun k j => k = 140 ∧ (26 ≤ j ∧ j ≤ 61 ∧ ¬(47 ≤ j ∧ j ≤ 49))) hR (by repeat (first | exact q_Gr.rf | refine q_Gr.ud ?_ (by omega) (by first | assumption | rfl) rfl (by first | exact ⟨fun h9 => absurd h9 (by decide), fun h9 => absurd h9 (by decide)⟩ | (constructor <;> (intro h9; omega))) | refine q_Gr.udz ?_ (by omega) (by first | assumption | decide | omega) (by first | exact ⟨fun h9 => absurd h9 (by decide), fun h9 => absurd h9 (by decide)⟩ | (constructor <;> (intro h9; omega))) | refine q_Gr.tr ?_ (by assumption) (by intro k9 j9 hk9; omega)))) c340_198 (by first | exact q_w32_id (by omega) (by omega) | exact q_w32w _ | exact rfl) (by first | assumption | omega) (by first | assumption | omega) rfl ?_
                    intro y97
                    refine r_aload_n c340_199 rfl rfl ?_
                    refine r_getr c340_200 (by first | assumption | omega) (by decide) (by first | assumption | rfl) rfl rfl ?_
                    refine r_bipush c340_203 rfl ?_
                    refine r_iload_n c340_205 rfl rfl ?_
                    refine r_iadd c340_206 (by first | exact q_w32_id (by omega) (by omega) | exact q_w32w _ | exact rfl) rfl ?_
                    refine r_laldw (q_Gr.rb (S := fun k j => k = 140 ∧ (26 ≤ j ∧ j ≤ 61 ∧ ¬(47 ≤ j ∧ j ≤ 49))) hR (by repeat (first | exact q_Gr.rf | refine q_Gr.ud ?_ (by omega) (by first | assumption | rfl) rfl (by first | exact ⟨fun h9 => absurd h9 (by decide), fun h9 => absurd h9 (by decide)⟩ | (constructor <;> (intro h9; omega))) | refine q_Gr.udz ?_ (by omega) (by first | assumption | decide | omega) (by first | exact ⟨fun h9 => absurd h9 (by decide), fun h9 => absurd h9 (by decide)⟩ | (constructor <;> (intro h9; omega))) | refine q_Gr.tr ?_ (by assumption) (by intro k9 j9 hk9; omega)))) c340_207 (by first | exact q_w32_id (by omega) (by omega) | exact q_w32w _ | exact rfl) (by first | assumption | omega) (by first | assumption | omega) rfl ?_
                    intro y98
                    refine r_aload_n c340_208 rfl rfl ?_
                    refine r_getr c340_209 (by first | assumption | omega) (by decide) (by first | assumption | rfl) rfl rfl ?_
                    refine r_bipush c340_212 rfl ?_
                    refine r_iload_n c340_214 rfl rfl ?_
                    refine r_iadd c340_215 (by first | exact q_w32_id (by omega) (by omega) | exact q_w32w _ | exact rfl) rfl ?_
                    refine r_laldw (q_Gr.rb (S := fun k j => k = 140 ∧ (26 ≤ j ∧ j ≤ 61 ∧ ¬(47 ≤ j ∧ j ≤ 49))) hR (by repeat (first | exact q_Gr.rf | refine q_Gr.ud ?_ (by omega) (by first | assumption | rfl) rfl (by first | exact ⟨fun h9 => absurd h9 (by decide), fun h9 => absurd h9 (by decide)⟩ | (constructor <;> (intro h9; omega))) | refine q_Gr.udz ?_ (by omega) (by first | assumption | decide | omega) (by first | exact ⟨fun h9 => absurd h9 (by decide), fun h9 => absurd h9 (by decide)⟩ | (constructor <;> (intro h9; omega))) | refine q_Gr.tr ?_ (by assumption) (by intro k9 j9 hk9; omega)))) c340_216 (by first | exact q_w32_id (by omega) (by omega) | exact q_w32w _ | exact rfl) (by first | assumption | omega) (by first | assumption | omega) rfl ?_
                    intro y99
                    refine r_ladd c340_217 rfl rfl ?_
                    refine r_lcmpn c340_218 rfl (by first | exact q_w64_id (by omega) (by omega) | exact rfl) (by first | exact q_w64_id (by omega) (by omega) | exact rfl) ?_ ?_ ?_
                    · intro b100
                      refine r_if_le c340_219 rfl (show q_w32 (-1) = -1 from rfl) ?_ ?_
                      · intro b101
                        refine r_iconst c340_232 rfl ?_
                        exact r_zret c340_233 ⟨rfl, rfl, rfl⟩ (by decide) ⟨rfl, ⟨_, rfl, (by decide)⟩, (by repeat (first | exact q_Gr.rf | refine q_Gr.ud ?_ (by omega) (by first | assumption | rfl) rfl (by first | exact ⟨fun h9 => absurd h9 (by decide), fun h9 => absurd h9 (by decide)⟩ | (constructor <;> (intro h9; omega))) | refine q_Gr.udz ?_ (by omega) (by first | assumption | decide | omega) (by first | exact ⟨fun h9 => absurd h9 (by decide), fun h9 => absurd h9 (by decide)⟩ | (constructor <;> (intro h9; omega))) | refine q_Gr.tr ?_ (by assumption) (by intro k9 j9 hk9; omega)))⟩
                      · intro b101
                        exact absurd b101.1 (by decide)
                    · intro b100
                      refine r_if_le c340_219 rfl (show q_w32 (0) = 0 from rfl) ?_ ?_
                      · intro b102
                        refine r_iconst c340_232 rfl ?_
                        exact r_zret c340_233 ⟨rfl, rfl, rfl⟩ (by decide) ⟨rfl, ⟨_, rfl, (by decide)⟩, (by repeat (first | exact q_Gr.rf | refine q_Gr.ud ?_ (by omega) (by first | assumption | rfl) rfl (by first | exact ⟨fun h9 => absurd h9 (by decide), fun h9 => absurd h9 (by decide)⟩ | (constructor <;> (intro h9; omega))) | refine q_Gr.udz ?_ (by omega) (by first | assumption | decide | omega) (by first | exact ⟨fun h9 => absurd h9 (by decide), fun h9 => absurd h9 (by decide)⟩ | (constructor <;> (intro h9; omega))) | refine q_Gr.tr ?_ (by assumption) (by intro k9 j9 hk9; omega)))⟩
                      · intro b102
                        exact absurd b102.1 (by decide)
                    · intro b100
                      refine r_if_le c340_219 rfl (show q_w32 (1) = 1 from rfl) ?_ ?_
                      · intro b103
                        exact absurd b103.1 (by decide)
                      · intro b103
                        refine r_aload_n c340_222 rfl rfl ?_
                        refine r_getr c340_223 (by first | assumption | omega) (by decide) (by first | assumption | rfl) rfl rfl ?_
                        refine r_bipush c340_226 rfl ?_
                        refine r_iload_n c340_228 rfl rfl ?_
                        refine r_iadd c340_229 (by first | exact q_w32_id (by omega) (by omega) | exact q_w32w _ | exact rfl) rfl ?_
                        refine r_lconst c340_230 rfl ?_
                        refine r_last c340_231 (by first | assumption | omega) (by decide) (by first | assumption | rfl) (by first | assumption | decide) (by first | exact q_w32_id (by omega) (by omega) | exact q_w32w _ | exact rfl) (by first | assumption | omega) (by first | assumption | omega) rfl ?_
                        refine r_iconst c340_232 rfl ?_
                        exact r_zret c340_233 ⟨rfl, rfl, rfl⟩ (by decide) ⟨rfl, ⟨_, rfl, (by decide)⟩, (by repeat (first | exact q_Gr.rf | refine q_Gr.ud ?_ (by omega) (by first | assumption | rfl) rfl (by first | exact ⟨fun h9 => absurd h9 (by decide), fun h9 => absurd h9 (by decide)⟩ | (constructor <;> (intro h9; omega))) | refine q_Gr.udz ?_ (by omega) (by first | assumption | decide | omega) (by first | exact ⟨fun h9 => absurd h9 (by decide), fun h9 => absurd h9 (by decide)⟩ | (constructor <;> (intro h9; omega))) | refine q_Gr.tr ?_ (by assumption) (by intro k9 j9 hk9; omega)))⟩
                · intro b87
                  refine r_if_gt c340_177 rfl (show q_w32 (1) = 1 from rfl) ?_ ?_
                  · intro b104
                    refine r_aload_n c340_190 rfl rfl ?_
                    refine r_getr c340_191 (by first | assumption | omega) (by decide) (by first | assumption | rfl) rfl rfl ?_
                    refine r_bipush c340_194 rfl ?_
                    refine r_iload_n c340_196 rfl rfl ?_
                    refine r_iadd c340_197 (by first | exact q_w32_id (by omega) (by omega) | exact q_w32w _ | exact rfl) rfl ?_
                    refine r_laldw (q_Gr.rb (S := fun k j => k = 140 ∧ (26 ≤ j ∧ j ≤ 61 ∧ ¬(47 ≤ j ∧ j ≤ 49))) hR (by repeat (first | exact q_Gr.rf | refine q_Gr.ud ?_ (by omega) (by first | assumption | rfl) rfl (by first | exact ⟨fun h9 => absurd h9 (by decide), fun h9 => absurd h9 (by decide)⟩ | (constructor <;> (intro h9; omega))) | refine q_Gr.udz ?_ (by omega) (by first | assumption | decide | omega) (by first | exact ⟨fun h9 => absurd h9 (by decide), fun h9 => absurd h9 (by decide)⟩ | (constructor <;> (intro h9; omega))) | refine q_Gr.tr ?_ (by assumption) (by intro k9 j9 hk9; omega)))) c340_198 (by first | exact q_w32_id (by omega) (by omega) | exact q_w32w _ | exact rfl) (by first | assumption | omega) (by first | assumption | omega) rfl ?_
                    intro y105
                    refine r_aload_n c340_199 rfl rfl ?_
                    refine r_getr c340_200 (by first | assumption | omega) (by decide) (by first | assumption | rfl) rfl rfl ?_
                    refine r_bipush c340_203 rfl ?_
                    refine r_iload_n c340_205 rfl rfl ?_
                    refine r_iadd c340_206 (by first | exact q_w32_id (by omega) (by omega) | exact q_w32w _ | exact rfl) rfl ?_
                    refine r_laldw (q_Gr.rb (S := fun k j => k = 140 ∧ (26 ≤ j ∧ j ≤ 61 ∧ ¬(47 ≤ j ∧ j ≤ 49))) hR (by repeat (first | exact q_Gr.rf | refine q_Gr.ud ?_ (by omega) (by first | assumption | rfl) rfl (by first | exact ⟨fun h9 => absurd h9 (by decide), fun h9 => absurd h9 (by decide)⟩ | (constructor <;> (intro h9; omega))) | refine q_Gr.udz ?_ (by omega) (by first | assumption | decide | omega) (by first | exact ⟨fun h9 => absurd h9 (by decide), fun h9 => absurd h9 (by decide)⟩ | (constructor <;> (intro h9; omega))) | refine q_Gr.tr ?_ (by assumption) (by intro k9 j9 hk9; omega)))) c340_207 (by first | exact q_w32_id (by omega) (by omega) | exact q_w32w _ | exact rfl) (by first | assumption | omega) (by first | assumption | omega) rfl ?_
                    intro y106
                    refine r_aload_n c340_208 rfl rfl ?_
                    refine r_getr c340_209 (by first | assumption | omega) (by decide) (by first | assumption | rfl) rfl rfl ?_
                    refine r_bipush c340_212 rfl ?_
                    refine r_iload_n c340_214 rfl rfl ?_
                    refine r_iadd c340_215 (by first | exact q_w32_id (by omega) (by omega) | exact q_w32w _ | exact rfl) rfl ?_
                    refine r_laldw (q_Gr.rb (S := fun k j => k = 140 ∧ (26 ≤ j ∧ j ≤ 61 ∧ ¬(47 ≤ j ∧ j ≤ 49))) hR (by repeat (first | exact q_Gr.rf | refine q_Gr.ud ?_ (by omega) (by first | assumption | rfl) rfl (by first | exact ⟨fun h9 => absurd h9 (by decide), fun h9 => absurd h9 (by decide)⟩ | (constructor <;> (intro h9; omega))) | refine q_Gr.udz ?_ (by omega) (by first | assumption | decide | omega) (by first | exact ⟨fun h9 => absurd h9 (by decide), fun h9 => absurd h9 (by decide)⟩ | (constructor <;> (intro h9; omega))) | refine q_Gr.tr ?_ (by assumption) (by intro k9 j9 hk9; omega)))) c340_216 (by first | exact q_w32_id (by omega) (by omega) | exact q_w32w _ | exact rfl) (by first | assumption | omega) (by first | assumption | omega) rfl ?_
                    intro y107
                    refine r_ladd c340_217 rfl rfl ?_
                    refine r_lcmpn c340_218 rfl (by first | exact q_w64_id (by omega) (by omega) | exact rfl) (by first | exact q_w64_id (by omega) (by omega) | exact rfl) ?_ ?_ ?_
                    · intro b108
                      refine r_if_le c340_219 rfl (show q_w32 (-1) = -1 from rfl) ?_ ?_
                      · intro b109
                        refine r_iconst c340_232 rfl ?_
                        exact r_zret c340_233 ⟨rfl, rfl, rfl⟩ (by decide) ⟨rfl, ⟨_, rfl, (by decide)⟩, (by repeat (first | exact q_Gr.rf | refine q_Gr.ud ?_ (by omega) (by first | assumption | rfl) rfl (by first | exact ⟨fun h9 => absurd h9 (by decide), fun h9 => absurd h9 (by decide)⟩ | (constructor <;> (intro h9; omega))) | refine q_Gr.udz ?_ (by omega) (by first | assumption | decide | omega) (by first | exact ⟨fun h9 => absurd h9 (by decide), fun h9 => absurd h9 (by decide)⟩ | (constructor <;> (intro h9; omega))) | refine q_Gr.tr ?_ (by assumption) (by intro k9 j9 hk9; omega)))⟩
                      · intro b109
                        exact absurd b109.1 (by decide)
                    · intro b108
                      refine r_if_le c340_219 rfl (show q_w32 (0) = 0 from rfl) ?_ ?_
                      · intro b110
                        refine r_iconst c340_232 rfl ?_
                        exact r_zret c340_233 ⟨rfl, rfl, rfl⟩ (by decide) ⟨rfl, ⟨_, rfl, (by decide)⟩, (by repeat (first | exact q_Gr.rf | refine q_Gr.ud ?_ (by omega) (by first | assumption | rfl) rfl (by first | exact ⟨fun h9 => absurd h9 (by decide), fun h9 => absurd h9 (by decide)⟩ | (constructor <;> (intro h9; omega))) | refine q_Gr.udz ?_ (by omega) (by first | assumption | decide | omega) (by first | exact ⟨fun h9 => absurd h9 (by decide), fun h9 => absurd h9 (by decide)⟩ | (constructor <;> (intro h9; omega))) | refine q_Gr.tr ?_ (by assumption) (by intro k9 j9 hk9; omega)))⟩
                      · intro b110
                        exact absurd b110.1 (by decide)
                    · intro b108
                      refine r_if_le c340_219 rfl (show q_w32 (1) = 1 from rfl) ?_ ?_
                      · intro b111
                        exact absurd b111.1 (by decide)
                      · intro b111
                        refine r_aload_n c340_222 rfl rfl ?_
                        refine r_getr c340_223 (by first | assumption | omega) (by decide) (by first | assumption | rfl) rfl rfl ?_
                        refine r_bipush c340_226 rfl ?_
                        refine r_iload_n c340_228 rfl rfl ?_
                        refine r_iadd c340_229 (by first | exact q_w32_id (by omega) (by omega) | exact q_w32w _ | exact rfl) rfl ?_
                        refine r_lconst c340_230 rfl ?_
                        refine r_last c340_231 (by first | assumption | omega) (by decide) (by first | assumption | rfl) (by first | assumption | decide) (by first | exact q_w32_id (by omega) (by omega) | exact q_w32w _ | exact rfl) (by first | assumption | omega) (by first | assumption | omega) rfl ?_
                        refine r_iconst c340_232 rfl ?_
                        exact r_zret c340_233 ⟨rfl, rfl, rfl⟩ (by decide) ⟨rfl, ⟨_, rfl, (by decide)⟩, (by repeat (first | exact q_Gr.rf | refine q_Gr.ud ?_ (by omega) (by first | assumption | rfl) rfl (by first | exact ⟨fun h9 => absurd h9 (by decide), fun h9 => absurd h9 (by decide)⟩ | (constructor <;> (intro h9; omega))) | refine q_Gr.udz ?_ (by omega) (by first | assumption | decide | omega) (by first | exact ⟨fun h9 => absurd h9 (by decide), fun h9 => absurd h9 (by decide)⟩ | (constructor <;> (intro h9; omega))) | refine q_Gr.tr ?_ (by assumption) (by intro k9 j9 hk9; omega)))⟩
                  · intro b104
                    exact absurd b104.1 (by decide)
              · intro b83
                exact absurd b83.1 (by decide)
            · intro b82
              refine r_if_ne c340_126 rfl (show q_w32 (0) = 0 from rfl) ?_ ?_
              · intro b112
                exact absurd b112.1 (by decide)
              · intro b112
                refine r_aload_n c340_129 rfl rfl ?_
                refine r_getr c340_130 (by first | assumption | omega) (by decide) (by first | assumption | rfl) rfl rfl ?_
                refine r_bipush c340_133 rfl ?_
                refine r_iload_n c340_135 rfl rfl ?_
                refine r_iadd c340_136 (by first | exact q_w32_id (by omega) (by omega) | exact q_w32w _ | exact rfl) rfl ?_
                refine r_dup2 c340_137 rfl rfl rfl ?_
                refine r_laldw (q_Gr.rb (S := fun k j => k = 140 ∧ (26 ≤ j ∧ j ≤ 61 ∧ ¬(47 ≤ j ∧ j ≤ 49))) hR (by repeat (first | exact q_Gr.rf | refine q_Gr.ud ?_ (by omega) (by first | assumption | rfl) rfl (by first | exact ⟨fun h9 => absurd h9 (by decide), fun h9 => absurd h9 (by decide)⟩ | (constructor <;> (intro h9; omega))) | refine q_Gr.udz ?_ (by omega) (by first | assumption | decide | omega) (by first | exact ⟨fun h9 => absurd h9 (by decide), fun h9 => absurd h9 (by decide)⟩ | (constructor <;> (intro h9; omega))) | refine q_Gr.tr ?_ (by assumption) (by intro k9 j9 hk9; omega)))) c340_138 (by first | exact q_w32_id (by omega) (by omega) | exact q_w32w _ | exact rfl) (by first | assumption | omega) (by first | assumption | omega) rfl ?_
                intro y113
                refine r_lconst c340_139 rfl ?_
                refine r_ladd c340_140 rfl rfl ?_
                refine r_last c340_141 (by first | assumption | omega) (by decide) (by first | assumption | rfl) (by first | assumption | decide) (by first | exact q_w32_id (by omega) (by omega) | exact q_w32w _ | exact rfl) (by first | assumption | omega) (by first | assumption | omega) rfl ?_
                refine r_iconst c340_142 rfl ?_
                exact r_zret c340_143 ⟨rfl, rfl, rfl⟩ (by decide) ⟨rfl, ⟨_, rfl, (by decide)⟩, (by repeat (first | exact q_Gr.rf | refine q_Gr.ud ?_ (by omega) (by first | assumption | rfl) rfl (by first | exact ⟨fun h9 => absurd h9 (by decide), fun h9 => absurd h9 (by decide)⟩ | (constructor <;> (intro h9; omega))) | refine q_Gr.udz ?_ (by omega) (by first | assumption | decide | omega) (by first | exact ⟨fun h9 => absurd h9 (by decide), fun h9 => absurd h9 (by decide)⟩ | (constructor <;> (intro h9; omega))) | refine q_Gr.tr ?_ (by assumption) (by intro k9 j9 hk9; omega)))⟩
            · intro b82
              refine r_if_ne c340_126 rfl (show q_w32 (1) = 1 from rfl) ?_ ?_
              · intro b114
                refine r_aload_n c340_144 rfl rfl ?_
                refine r_getr c340_145 (by first | assumption | omega) (by decide) (by first | assumption | rfl) rfl rfl ?_
                refine r_bipush c340_148 rfl ?_
                refine r_iload_n c340_150 rfl rfl ?_
                refine r_iadd c340_151 (by first | exact q_w32_id (by omega) (by omega) | exact q_w32w _ | exact rfl) rfl ?_
                refine r_dup2 c340_152 rfl rfl rfl ?_
                refine r_laldw (q_Gr.rb (S := fun k j => k = 140 ∧ (26 ≤ j ∧ j ≤ 61 ∧ ¬(47 ≤ j ∧ j ≤ 49))) hR (by repeat (first | exact q_Gr.rf | refine q_Gr.ud ?_ (by omega) (by first | assumption | rfl) rfl (by first | exact ⟨fun h9 => absurd h9 (by decide), fun h9 => absurd h9 (by decide)⟩ | (constructor <;> (intro h9; omega))) | refine q_Gr.udz ?_ (by omega) (by first | assumption | decide | omega) (by first | exact ⟨fun h9 => absurd h9 (by decide), fun h9 => absurd h9 (by decide)⟩ | (constructor <;> (intro h9; omega))) | refine q_Gr.tr ?_ (by assumption) (by intro k9 j9 hk9; omega)))) c340_153 (by first | exact q_w32_id (by omega) (by omega) | exact q_w32w _ | exact rfl) (by first | assumption | omega) (by first | assumption | omega) rfl ?_
                intro y115
                refine r_iload_n c340_154 rfl rfl ?_
                refine r_i2l c340_155 (by first | exact q_w32_id (by omega) (by omega) | exact q_w32w _ | exact rfl) rfl ?_
                refine r_ladd c340_156 rfl rfl ?_
                refine r_last c340_157 (by first | assumption | omega) (by decide) (by first | assumption | rfl) (by first | assumption | decide) (by first | exact q_w32_id (by omega) (by omega) | exact q_w32w _ | exact rfl) (by first | assumption | omega) (by first | assumption | omega) rfl ?_
                refine r_aload_n c340_158 rfl rfl ?_
                refine r_getr c340_159 (by first | assumption | omega) (by decide) (by first | assumption | rfl) rfl rfl ?_
                refine r_bipush c340_162 rfl ?_
                refine r_iload_n c340_164 rfl rfl ?_
                refine r_iadd c340_165 (by first | exact q_w32_id (by omega) (by omega) | exact q_w32w _ | exact rfl) rfl ?_
                refine r_laldw (q_Gr.rb (S := fun k j => k = 140 ∧ (26 ≤ j ∧ j ≤ 61 ∧ ¬(47 ≤ j ∧ j ≤ 49))) hR (by repeat (first | exact q_Gr.rf | refine q_Gr.ud ?_ (by omega) (by first | assumption | rfl) rfl (by first | exact ⟨fun h9 => absurd h9 (by decide), fun h9 => absurd h9 (by decide)⟩ | (constructor <;> (intro h9; omega))) | refine q_Gr.udz ?_ (by omega) (by first | assumption | decide | omega) (by first | exact ⟨fun h9 => absurd h9 (by decide), fun h9 => absurd h9 (by decide)⟩ | (constructor <;> (intro h9; omega))) | refine q_Gr.tr ?_ (by assumption) (by intro k9 j9 hk9; omega)))) c340_166 (by first | exact q_w32_id (by omega) (by omega) | exact q_w32w _ | exact rfl) (by first | assumption | omega) (by first | assumption | omega) rfl ?_
                intro y116
                refine r_aload_n c340_167 rfl rfl ?_
                refine r_getr c340_168 (by first | assumption | omega) (by decide) (by first | assumption | rfl) rfl rfl ?_
                refine r_bipush c340_171 rfl ?_
                refine r_iload_n c340_173 rfl rfl ?_
                refine r_iadd c340_174 (by first | exact q_w32_id (by omega) (by omega) | exact q_w32w _ | exact rfl) rfl ?_
                refine r_laldw (q_Gr.rb (S := fun k j => k = 140 ∧ (26 ≤ j ∧ j ≤ 61 ∧ ¬(47 ≤ j ∧ j ≤ 49))) hR (by repeat (first | exact q_Gr.rf | refine q_Gr.ud ?_ (by omega) (by first | assumption | rfl) rfl (by first | exact ⟨fun h9 => absurd h9 (by decide), fun h9 => absurd h9 (by decide)⟩ | (constructor <;> (intro h9; omega))) | refine q_Gr.udz ?_ (by omega) (by first | assumption | decide | omega) (by first | exact ⟨fun h9 => absurd h9 (by decide), fun h9 => absurd h9 (by decide)⟩ | (constructor <;> (intro h9; omega))) | refine q_Gr.tr ?_ (by assumption) (by intro k9 j9 hk9; omega)))) c340_175 (by first | exact q_w32_id (by omega) (by omega) | exact q_w32w _ | exact rfl) (by first | assumption | omega) (by first | assumption | omega) rfl ?_
                intro y117
                refine r_lcmpn c340_176 rfl (by first | exact q_w64_id (by omega) (by omega) | exact rfl) (by first | exact q_w64_id (by omega) (by omega) | exact rfl) ?_ ?_ ?_
                · intro b118
                  refine r_if_gt c340_177 rfl (show q_w32 (-1) = -1 from rfl) ?_ ?_
                  · intro b119
                    exact absurd b119.1 (by decide)
                  · intro b119
                    refine r_aload_n c340_180 rfl rfl ?_
                    refine r_getr c340_181 (by first | assumption | omega) (by decide) (by first | assumption | rfl) rfl rfl ?_
                    refine r_bipush c340_184 rfl ?_
                    refine r_iload_n c340_186 rfl rfl ?_
                    refine r_iadd c340_187 (by first | exact q_w32_id (by omega) (by omega) | exact q_w32w _ | exact rfl) rfl ?_
                    refine r_lconst c340_188 rfl ?_
                    refine r_last c340_189 (by first | assumption | omega) (by decide) (by first | assumption | rfl) (by first | assumption | decide) (by first | exact q_w32_id (by omega) (by omega) | exact q_w32w _ | exact rfl) (by first | assumption | omega) (by first | assumption | omega) rfl ?_
                    refine r_aload_n c340_190 rfl rfl ?_
                    refine r_getr c340_191 (by first | assumption | omega) (by decide) (by first | assumption | rfl) rfl rfl ?_
                    refine r_bipush c340_194 rfl ?_
                    refine r_iload_n c340_196 rfl rfl ?_
                    refine r_iadd c340_197 (by first | exact q_w32_id (by omega) (by omega) | exact q_w32w _ | exact rfl) rfl ?_
                    refine r_laldw (q_Gr.rb (S := fun k j => k = 140 ∧ (26 ≤ j ∧ j ≤ 61 ∧ ¬(47 ≤ j ∧ j ≤ 49))) hR (by repeat (first | exact q_Gr.rf | refine q_Gr.ud ?_ (by omega) (by first | assumption | rfl) rfl (by first | exact ⟨fun h9 => absurd h9 (by decide), fun h9 => absurd h9 (by decide)⟩ | (constructor <;> (intro h9; omega))) | refine q_Gr.udz ?_ (by omega) (by first | assumption | decide | omega) (by first | exact ⟨fun h9 => absurd h9 (by decide), fun h9 => absurd h9 (by decide)⟩ | (constructor <;> (intro h9; omega))) | refine q_Gr.tr ?_ (by assumption) (by intro k9 j9 hk9; omega)))) c340_198 (by first | exact q_w32_id (by omega) (by omega) | exact q_w32w _ | exact rfl) (by first | assumption | omega) (by first | assumption | omega) rfl ?_
                    intro y120
                    refine r_aload_n c340_199 rfl rfl ?_
                    refine r_getr c340_200 (by first | assumption | omega) (by decide) (by first | assumption | rfl) rfl rfl ?_
                    refine r_bipush c340_203 rfl ?_
                    refine r_iload_n c340_205 rfl rfl ?_
                    refine r_iadd c340_206 (by first | exact q_w32_id (by omega) (by omega) | exact q_w32w _ | exact rfl) rfl ?_
                    refine r_laldw (q_Gr.rb (S := fun k j => k = 140 ∧ (26 ≤ j ∧ j ≤ 61 ∧ ¬(47 ≤ j ∧ j ≤ 49))) hR (by repeat (first | exact q_Gr.rf | refine q_Gr.ud ?_ (by omega) (by first | assumption | rfl) rfl (by first | exact ⟨fun h9 => absurd h9 (by decide), fun h9 => absurd h9 (by decide)⟩ | (constructor <;> (intro h9; omega))) | refine q_Gr.udz ?_ (by omega) (by first | assumption | decide | omega) (by first | exact ⟨fun h9 => absurd h9 (by decide), fun h9 => absurd h9 (by decide)⟩ | (constructor <;> (intro h9; omega))) | refine q_Gr.tr ?_ (by assumption) (by intro k9 j9 hk9; omega)))) c340_207 (by first | exact q_w32_id (by omega) (by omega) | exact q_w32w _ | exact rfl) (by first | assumption | omega) (by first | assumption | omega) rfl ?_
                    intro y121
                    refine r_aload_n c340_208 rfl rfl ?_
                    refine r_getr c340_209 (by first | assumption | omega) (by decide) (by first | assumption | rfl) rfl rfl ?_
                    refine r_bipush c340_212 rfl ?_
                    refine r_iload_n c340_214 rfl rfl ?_
                    refine r_iadd c340_215 (by first | exact q_w32_id (by omega) (by omega) | exact q_w32w _ | exact rfl) rfl ?_
                    refine r_laldw (q_Gr.rb (S := fun k j => k = 140 ∧ (26 ≤ j ∧ j ≤ 61 ∧ ¬(47 ≤ j ∧ j ≤ 49))) hR (by repeat (first | exact q_Gr.rf | refine q_Gr.ud ?_ (by omega) (by first | assumption | rfl) rfl (by first | exact ⟨fun h9 => absurd h9 (by decide), fun h9 => absurd h9 (by decide)⟩ | (constructor <;> (intro h9; omega))) | refine q_Gr.udz ?_ (by omega) (by first | assumption | decide | omega) (by first | exact ⟨fun h9 => absurd h9 (by decide), fun h9 => absurd h9 (by decide)⟩ | (constructor <;> (intro h9; omega))) | refine q_Gr.tr ?_ (by assumption) (by intro k9 j9 hk9; omega)))) c340_216 (by first | exact q_w32_id (by omega) (by omega) | exact q_w32w _ | exact rfl) (by first | assumption | omega) (by first | assumption | omega) rfl ?_
                    intro y122
                    refine r_ladd c340_217 rfl rfl ?_
                    refine r_lcmpn c340_218 rfl (by first | exact q_w64_id (by omega) (by omega) | exact rfl) (by first | exact q_w64_id (by omega) (by omega) | exact rfl) ?_ ?_ ?_
                    · intro b123
                      refine r_if_le c340_219 rfl (show q_w32 (-1) = -1 from rfl) ?_ ?_
                      · intro b124
                        refine r_iconst c340_232 rfl ?_
                        exact r_zret c340_233 ⟨rfl, rfl, rfl⟩ (by decide) ⟨rfl, ⟨_, rfl, (by decide)⟩, (by repeat (first | exact q_Gr.rf | refine q_Gr.ud ?_ (by omega) (by first | assumption | rfl) rfl (by first | exact ⟨fun h9 => absurd h9 (by decide), fun h9 => absurd h9 (by decide)⟩ | (constructor <;> (intro h9; omega))) | refine q_Gr.udz ?_ (by omega) (by first | assumption | decide | omega) (by first | exact ⟨fun h9 => absurd h9 (by decide), fun h9 => absurd h9 (by decide)⟩ | (constructor <;> (intro h9; omega))) | refine q_Gr.tr ?_ (by assumption) (by intro k9 j9 hk9; omega)))⟩
                      · intro b124
                        exact absurd b124.1 (by decide)
                    · intro b123
                      refine r_if_le c340_219 rfl (show q_w32 (0) = 0 from rfl) ?_ ?_
                      · intro b125
                        refine r_iconst c340_232 rfl ?_
                        exact r_zret c340_233 ⟨rfl, rfl, rfl⟩ (by decide) ⟨rfl, ⟨_, rfl, (by decide)⟩, (by repeat (first | exact q_Gr.rf | refine q_Gr.ud ?_ (by omega) (by first | assumption | rfl) rfl (by first | exact ⟨fun h9 => absurd h9 (by decide), fun h9 => absurd h9 (by decide)⟩ | (constructor <;> (intro h9; omega))) | refine q_Gr.udz ?_ (by omega) (by first | assumption | decide | omega) (by first | exact ⟨fun h9 => absurd h9 (by decide), fun h9 => absurd h9 (by decide)⟩ | (constructor <;> (intro h9; omega))) | refine q_Gr.tr ?_ (by assumption) (by intro k9 j9 hk9; omega)))⟩
                      · intro b125
                        exact absurd b125.1 (by decide)
                    · intro b123
                      refine r_if_le c340_219 rfl (show q_w32 (1) = 1 from rfl) ?_ ?_
                      · intro b126
                        exact absurd b126.1 (by decide)
                      · intro b126
                        refine r_aload_n c340_222 rfl rfl ?_
                        refine r_getr c340_223 (by first | assumption | omega) (by decide) (by first | assumption | rfl) rfl rfl ?_
                        refine r_bipush c340_226 rfl ?_
                        refine r_iload_n c340_228 rfl rfl ?_
                        refine r_iadd c340_229 (by first | exact q_w32_id (by omega) (by omega) | exact q_w32w _ | exact rfl) rfl ?_
                        refine r_lconst c340_230 rfl ?_
                        refine r_last c340_231 (by first | assumption | omega) (by decide) (by first | assumption | rfl) (by first | assumption | decide) (by first | exact q_w32_id (by omega) (by omega) | exact q_w32w _ | exact rfl) (by first | assumption | omega) (by first | assumption | omega) rfl ?_
                        refine r_iconst c340_232 rfl ?_
                        exact r_zret c340_233 ⟨rfl, rfl, rfl⟩ (by decide) ⟨rfl, ⟨_, rfl, (by decide)⟩, (by repeat (first | exact q_Gr.rf | refine q_Gr.ud ?_ (by omega) (by first | assumption | rfl) rfl (by first | exact ⟨fun h9 => absurd h9 (by decide), fun h9 => absurd h9 (by decide)⟩ | (constructor <;> (intro h9; omega))) | refine q_Gr.udz ?_ (by omega) (by first | assumption | decide | omega) (by first | exact ⟨fun h9 => absurd h9 (by decide), fun h9 => absurd h9 (by decide)⟩ | (constructor <;> (intro h9; omega))) | refine q_Gr.tr ?_ (by assumption) (by intro k9 j9 hk9; omega)))⟩
                · intro b118
                  refine r_if_gt c340_177 rfl (show q_w32 (0) = 0 from rfl) ?_ ?_
                  · intro b127
                    exact absurd b127.1 (by decide)
                  · intro b127
                    refine r_aload_n c340_180 rfl rfl ?_
                    refine r_getr c340_181 (by first | assumption | omega) (by decide) (by first | assumption | rfl) rfl rfl ?_
                    refine r_bipush c340_184 rfl ?_
                    refine r_iload_n c340_186 rfl rfl ?_
                    refine r_iadd c340_187 (by first | exact q_w32_id (by omega) (by omega) | exact q_w32w _ | exact rfl) rfl ?_
                    refine r_lconst c340_188 rfl ?_
                    refine r_last c340_189 (by first | assumption | omega) (by decide) (by first | assumption | rfl) (by first | assumption | decide) (by first | exact q_w32_id (by omega) (by omega) | exact q_w32w _ | exact rfl) (by first | assumption | omega) (by first | assumption | omega) rfl ?_
                    refine r_aload_n c340_190 rfl rfl ?_
                    refine r_getr c340_191 (by first | assumption | omega) (by decide) (by first | assumption | rfl) rfl rfl ?_
                    refine r_bipush c340_194 rfl ?_
                    refine r_iload_n c340_196 rfl rfl ?_
                    refine r_iadd c340_197 (by first | exact q_w32_id (by omega) (by omega) | exact q_w32w _ | exact rfl) rfl ?_
                    refine r_laldw (q_Gr.rb (S := fun k j => k = 140 ∧ (26 ≤ j ∧ j ≤ 61 ∧ ¬(47 ≤ j ∧ j ≤ 49))) hR (by repeat (first | exact q_Gr.rf | refine q_Gr.ud ?_ (by omega) (by first | assumption | rfl) rfl (by first | exact ⟨fun h9 => absurd h9 (by decide), fun h9 => absurd h9 (by decide)⟩ | (constructor <;> (intro h9; omega))) | refine q_Gr.udz ?_ (by omega) (by first | assumption | decide | omega) (by first | exact ⟨fun h9 => absurd h9 (by decide), fun h9 => absurd h9 (by decide)⟩ | (constructor <;> (intro h9; omega))) | refine q_Gr.tr ?_ (by assumption) (by intro k9 j9 hk9; omega)))) c340_198 (by first | exact q_w32_id (by omega) (by omega) | exact q_w32w _ | exact rfl) (by first | assumption | omega) (by first | assumption | omega) rfl ?_
                    intro y128
                    refine r_aload_n c340_199 rfl rfl ?_
                    refine r_getr c340_200 (by first | assumption | omega) (by decide) (by first | assumption | rfl) rfl rfl ?_
                    refine r_bipush c340_203 rfl ?_
                    refine r_iload_n c340_205 rfl rfl ?_
                    refine r_iadd c340_206 (by first | exact q_w32_id (by omega) (by omega) | exact q_w32w _ | exact rfl) rfl ?_
                    refine r_laldw (q_Gr.rb (S := fun k j => k = 140 ∧ (26 ≤ j ∧ j ≤ 61 ∧ ¬(47 ≤ j ∧ j ≤ 49))) hR (by repeat (first | exact q_Gr.rf | refine q_Gr.ud ?_ (by omega) (by first | assumption | rfl) rfl (by first | exact ⟨fun h9 => absurd h9 (by decide), fun h9 => absurd h9 (by decide)⟩ | (constructor <;> (intro h9; omega))) | refine q_Gr.udz ?_ (by omega) (by first | assumption | decide | omega) (by first | exact ⟨fun h9 => absurd h9 (by decide), fun h9 => absurd h9 (by decide)⟩ | (constructor <;> (intro h9; omega))) | refine q_Gr.tr ?_ (by assumption) (by intro k9 j9 hk9; omega)))) c340_207 (by first | exact q_w32_id (by omega) (by omega) | exact q_w32w _ | exact rfl) (by first | assumption | omega) (by first | assumption | omega) rfl ?_
                    intro y129
                    refine r_aload_n c340_208 rfl rfl ?_
                    refine r_getr c340_209 (by first | assumption | omega) (by decide) (by first | assumption | rfl) rfl rfl ?_
                    refine r_bipush c340_212 rfl ?_
                    refine r_iload_n c340_214 rfl rfl ?_
                    refine r_iadd c340_215 (by first | exact q_w32_id (by omega) (by omega) | exact q_w32w _ | exact rfl) rfl ?_
                    refine r_laldw (q_Gr.rb (S := fun k j => k = 140 ∧ (26 ≤ j ∧ j ≤ 61 ∧ ¬(47 ≤ j ∧ j ≤ 49))) hR (by repeat (first | exact q_Gr.rf | refine q_Gr.ud ?_ (by omega) (by first | assumption | rfl) rfl (by first | exact ⟨fun h9 => absurd h9 (by decide), fun h9 => absurd h9 (by decide)⟩ | (constructor <;> (intro h9; omega))) | refine q_Gr.udz ?_ (by omega) (by first | assumption | decide | omega) (by first | exact ⟨fun h9 => absurd h9 (by decide), fun h9 => absurd h9 (by decide)⟩ | (constructor <;> (intro h9; omega))) | refine q_Gr.tr ?_ (by assumption) (by intro k9 j9 hk9; omega)))) c340_216 (by first | exact q_w32_id (by omega) (by omega) | exact q_w32w _ | exact rfl) (by first | assumption | omega) (by first | assumption | omega) rfl ?_
                    intro y130
                    refine r_ladd c340_217 rfl rfl ?_
                    refine r_lcmpn c340_218 rfl (by first | exact q_w64_id (by omega) (by omega) | exact rfl) (by first | exact q_w64_id (by omega) (by omega) | exact rfl) ?_ ?_ ?_
                    · intro b131
                      refine r_if_le c340_219 rfl (show q_w32 (-1) = -1 from rfl) ?_ ?_
                      · intro b132
                        refine r_iconst c340_232 rfl ?_
                        exact r_zret c340_233 ⟨rfl, rfl, rfl⟩ (by decide) ⟨rfl, ⟨_, rfl, (by decide)⟩, (by repeat (first | exact q_Gr.rf | refine q_Gr.ud ?_ (by omega) (by first | assumption | rfl) rfl (by first | exact ⟨fun h9 => absurd h9 (by decide), fun h9 => absurd h9 (by decide)⟩ | (constructor <;> (intro h9; omega))) | refine q_Gr.udz ?_ (by omega) (by first | assumption | decide | omega) (by first | exact ⟨fun h9 => absurd h9 (by decide), fun h9 => absurd h9 (by decide)⟩ | (constructor <;> (intro h9; omega))) | refine q_Gr.tr ?_ (by assumption) (by intro k9 j9 hk9; omega)))⟩
                      · intro b132
                        exact absurd b132.1 (by decide)
                    · intro b131
                      refine r_if_le c340_219 rfl (show q_w32 (0) = 0 from rfl) ?_ ?_
                      · intro b133
                        refine r_iconst c340_232 rfl ?_
                        exact r_zret c340_233 ⟨rfl, rfl, rfl⟩ (by decide) ⟨rfl, ⟨_, rfl, (by decide)⟩, (by repeat (first | exact q_Gr.rf | refine q_Gr.ud ?_ (by omega) (by first | assumption | rfl) rfl (by first | exact ⟨fun h9 => absurd h9 (by decide), fun h9 => absurd h9 (by decide)⟩ | (constructor <;> (intro h9; omega))) | refine q_Gr.udz ?_ (by omega) (by first | assumption | decide | omega) (by first | exact ⟨fun h9 => absurd h9 (by decide), fun h9 => absurd h9 (by decide)⟩ | (constructor <;> (intro h9; omega))) | refine q_Gr.tr ?_ (by assumption) (by intro k9 j9 hk9; omega)))⟩
                      · intro b133
                        exact absurd b133.1 (by decide)
                    · intro b131
                      refine r_if_le c340_219 rfl (show q_w32 (1) = 1 from rfl) ?_ ?_
                      · intro b134
                        exact absurd b134.1 (by decide)
                      · intro b134
                        refine r_aload_n c340_222 rfl rfl ?_
                        refine r_getr c340_223 (by first | assumption | omega) (by decide) (by first | assumption | rfl) rfl rfl ?_
                        refine r_bipush c340_226 rfl ?_
                        refine r_iload_n c340_228 rfl rfl ?_
                        refine r_iadd c340_229 (by first | exact q_w32_id (by omega) (by omega) | exact q_w32w _ | exact rfl) rfl ?_
                        refine r_lconst c340_230 rfl ?_
                        refine r_last c340_231 (by first | assumption | omega) (by decide) (by first | assumption | rfl) (by first | assumption | decide) (by first | exact q_w32_id (by omega) (by omega) | exact q_w32w _ | exact rfl) (by first | assumption | omega) (by first | assumption | omega) rfl ?_
                        refine r_iconst c340_232 rfl ?_
                        exact r_zret c340_233 ⟨rfl, rfl, rfl⟩ (by decide) ⟨rfl, ⟨_, rfl, (by decide)⟩, (by repeat (first | exact q_Gr.rf | refine q_Gr.ud ?_ (by omega) (by first | assumption | rfl) rfl (by first | exact ⟨fun h9 => absurd h9 (by decide), fun h9 => absurd h9 (by decide)⟩ | (constructor <;> (intro h9; omega))) | refine q_Gr.udz ?_ (by omega) (by first | assumption | decide | omega) (by first | exact ⟨fun h9 => absurd h9 (by decide), fun h9 => absurd h9 (by decide)⟩ | (constructor <;> (intro h9; omega))) | refine q_Gr.tr ?_ (by assumption) (by intro k9 j9 hk9; omega)))⟩
                · intro b118
                  refine r_if_gt c340_177 rfl (show q_w32 (1) = 1 from rfl) ?_ ?_
                  · intro b135
                    refine r_aload_n c340_190 rfl rfl ?_
                    refine r_getr c340_191 (by first | assumption | omega) (by decide) (by first | assumption | rfl) rfl rfl ?_
                    refine r_bipush c340_194 rfl ?_
                    refine r_iload_n c340_196 rfl rfl ?_
                    refine r_iadd c340_197 (by first | exact q_w32_id (by omega) (by omega) | exact q_w32w _ | exact rfl) rfl ?_
                    refine r_laldw (q_Gr.rb (S := fun k j => k = 140 ∧ (26 ≤ j ∧ j ≤ 61 ∧ ¬(47 ≤ j ∧ j ≤ 49))) hR (by repeat (first | exact q_Gr.rf | refine q_Gr.ud ?_ (by omega) (by first | assumption | rfl) rfl (by first | exact ⟨fun h9 => absurd h9 (by decide), fun h9 => absurd h9 (by decide)⟩ | (constructor <;> (intro h9; omega))) | refine q_Gr.udz ?_ (by omega) (by first | assumption | decide | omega) (by first | exact ⟨fun h9 => absurd h9 (by decide), fun h9 => absurd h9 (by decide)⟩ | (constructor <;> (intro h9; omega))) | refine q_Gr.tr ?_ (by assumption) (by intro k9 j9 hk9; omega)))) c340_198 (by first | exact q_w32_id (by omega) (by omega) | exact q_w32w _ | exact rfl) (by first | assumption | omega) (by first | assumption | omega) rfl ?_
                    intro y136
                    refine r_aload_n c340_199 rfl rfl ?_
                    refine r_getr c340_200 (by first | assumption | omega) (by decide) (by first | assumption | rfl) rfl rfl ?_
                    refine r_bipush c340_203 rfl ?_
                    refine r_iload_n c340_205 rfl rfl ?_
                    refine r_iadd c340_206 (by first | exact q_w32_id (by omega) (by omega) | exact q_w32w _ | exact rfl) rfl ?_
                    refine r_laldw (q_Gr.rb (S := fun k j => k = 140 ∧ (26 ≤ j ∧ j ≤ 61 ∧ ¬(47 ≤ j ∧ j ≤ 49))) hR (by repeat (first | exact q_Gr.rf | refine q_Gr.ud ?_ (by omega) (by first | assumption | rfl) rfl (by first | exact ⟨fun h9 => absurd h9 (by decide), fun h9 => absurd h9 (by decide)⟩ | (constructor <;> (intro h9; omega))) | refine q_Gr.udz ?_ (by omega) (by first | assumption | decide | omega) (by first | exact ⟨fun h9 => absurd h9 (by decide), fun h9 => absurd h9 (by decide)⟩ | (constructor <;> (intro h9; omega))) | refine q_Gr.tr ?_ (by assumption) (by intro k9 j9 hk9; omega)))) c340_207 (by first | exact q_w32_id (by omega) (by omega) | exact q_w32w _ | exact rfl) (by first | assumption | omega) (by first | assumption | omega) rfl ?_
                    intro y137
                    refine r_aload_n c340_208 rfl rfl ?_
                    refine r_getr c340_209 (by first | assumption | omega) (by decide) (by first | assumption | rfl) rfl rfl ?_
                    refine r_bipush c340_212 rfl ?_
                    refine r_iload_n c340_214 rfl rfl ?_
                    refine r_iadd c340_215 (by first | exact q_w32_id (by omega) (by omega) | exact q_w32w _ | exact rfl) rfl ?_
                    refine r_laldw (q_Gr.rb (S := fun k j => k = 140 ∧ (26 ≤ j ∧ j ≤ 61 ∧ ¬(47 ≤ j ∧ j ≤ 49))) hR (by repeat (first | exact q_Gr.rf | refine q_Gr.ud ?_ (by omega) (by first | assumption | rfl) rfl (by first | exact ⟨fun h9 => absurd h9 (by decide), fun h9 => absurd h9 (by decide)⟩ | (constructor <;> (intro h9; omega))) | refine q_Gr.udz ?_ (by omega) (by first | assumption | decide | omega) (by first | exact ⟨fun h9 => absurd h9 (by decide), fun h9 => absurd h9 (by decide)⟩ | (constructor <;> (intro h9; omega))) | refine q_Gr.tr ?_ (by assumption) (by intro k9 j9 hk9; omega)))) c340_216 (by first | exact q_w32_id (by omega) (by omega) | exact q_w32w _ | exact rfl) (by first | assumption | omega) (by first | assumption | omega) rfl ?_
                    intro y138
                    refine r_ladd c340_217 rfl rfl ?_
                    refine r_lcmpn c340_218 rfl (by first | exact q_w64_id (by omega) (by omega) | exact rfl) (by first | exact q_w64_id (by omega) (by omega) | exact rfl) ?_ ?_ ?_
                    · intro b139
                      refine r_if_le c340_219 rfl (show q_w32 (-1) = -1 from rfl) ?_ ?_
                      · intro b140
                        refine r_iconst c340_232 rfl ?_
                        exact r_zret c340_233 ⟨rfl, rfl, rfl⟩ (by decide) ⟨rfl, ⟨_, rfl, (by decide)⟩, (by repeat (first | exact q_Gr.rf | refine q_Gr.ud ?_ (by omega) (by first | assumption | rfl) rfl (by first | exact ⟨fun h9 => absurd h9 (by decide), fun h9 => absurd h9 (by decide)⟩ | (constructor <;> (intro h9; omega))) | refine q_Gr.udz ?_ (by omega) (by first | assumption | decide | omega) (by first | exact ⟨fun h9 => absurd h9 (by decide), fun h9 => absurd h9 (by decide)⟩ | (constructor <;> (intro h9; omega))) | refine q_Gr.tr ?_ (by assumption) (by intro k9 j9 hk9; omega)))⟩
                      · intro b140
                        exact absurd b140.1 (by decide)
                    · intro b139
                      refine r_if_le c340_219 rfl (show q_w32 (0) = 0 from rfl) ?_ ?_
                      · intro b141
                        refine r_iconst c340_232 rfl ?_
                        exact r_zret c340_233 ⟨rfl, rfl, rfl⟩ (by decide) ⟨rfl, ⟨_, rfl, (by decide)⟩, (by repeat (first | exact q_Gr.rf | refine q_Gr.ud ?_ (by omega) (by first | assumption | rfl) rfl (by first | exact ⟨fun h9 => absurd h9 (by decide), fun h9 => absurd h9 (by decide)⟩ | (constructor <;> (intro h9; omega))) | refine q_Gr.udz ?_ (by omega) (by first | assumption | decide | omega) (by first | exact ⟨fun h9 => absurd h9 (by decide), fun h9 => absurd h9 (by decide)⟩ | (constructor <;> (intro h9; omega))) | refine q_Gr.tr ?_ (by assumption) (by intro k9 j9 hk9; omega)))⟩
                      · intro b141
                        exact absurd b141.1 (by decide)
                    · intro b139
                      refine r_if_le c340_219 rfl (show q_w32 (1) = 1 from rfl) ?_ ?_
                      · intro b142
                        exact absurd b142.1 (by decide)
                      · intro b142
                        refine r_aload_n c340_222 rfl rfl ?_
                        refine r_getr c340_223 (by first | assumption | omega) (by decide) (by first | assumption | rfl) rfl rfl ?_
                        refine r_bipush c340_226 rfl ?_
                        refine r_iload_n c340_228 rfl rfl ?_
                        refine r_iadd c340_229 (by first | exact q_w32_id (by omega) (by omega) | exact q_w32w _ | exact rfl) rfl ?_
                        refine r_lconst c340_230 rfl ?_
                        refine r_last c340_231 (by first | assumption | omega) (by decide) (by first | assumption | rfl) (by first | assumption | decide) (by first | exact q_w32_id (by omega) (by omega) | exact q_w32w _ | exact rfl) (by first | assumption | omega) (by first | assumption | omega) rfl ?_
                        refine r_iconst c340_232 rfl ?_
                        exact r_zret c340_233 ⟨rfl, rfl, rfl⟩ (by decide) ⟨rfl, ⟨_, rfl, (by decide)⟩, (by repeat (first | exact q_Gr.rf | refine q_Gr.ud ?_ (by omega) (by first | assumption | rfl) rfl (by first | exact ⟨fun h9 => absurd h9 (by decide), fun h9 => absurd h9 (by decide)⟩ | (constructor <;> (intro h9; omega))) | refine q_Gr.udz ?_ (by omega) (by first | assumption | decide | omega) (by first | exact ⟨fun h9 => absurd h9 (by decide), fun h9 => absurd h9 (by decide)⟩ | (constructor <;> (intro h9; omega))) | refine q_Gr.tr ?_ (by assumption) (by intro k9 j9 hk9; omega)))⟩
                  · intro b135
                    exact absurd b135.1 (by decide)
              · intro b114
                exact absurd b114.1 (by decide)
          · intro b80
            exact absurd b80.1 (by decide)
        · intro b77
          refine r_if_eq c340_95 rfl (show q_w32 (1) = 1 from rfl) ?_ ?_
          · intro b143
            exact absurd b143.1 (by decide)
          · intro b143
            refine r_aload_n c340_98 rfl rfl ?_
            refine r_getr c340_99 (by first | assumption | omega) (by decide) (by first | assumption | rfl) rfl rfl ?_
            refine r_bipush c340_102 rfl ?_
            refine r_iload_n c340_104 rfl rfl ?_
            refine r_iadd c340_105 (by first | exact q_w32_id (by omega) (by omega) | exact q_w32w _ | exact rfl) rfl ?_
            refine r_dup2 c340_106 rfl rfl rfl ?_
            refine r_laldw (q_Gr.rb (S := fun k j => k = 140 ∧ (26 ≤ j ∧ j ≤ 61 ∧ ¬(47 ≤ j ∧ j ≤ 49))) hR (by repeat (first | exact q_Gr.rf | refine q_Gr.ud ?_ (by omega) (by first | assumption | rfl) rfl (by first | exact ⟨fun h9 => absurd h9 (by decide), fun h9 => absurd h9 (by decide)⟩ | (constructor <;> (intro h9; omega))) | refine q_Gr.udz ?_ (by omega) (by first | assumption | decide | omega) (by first | exact ⟨fun h9 => absurd h9 (by decide), fun h9 => absurd h9 (by decide)⟩ | (constructor <;> (intro h9; omega))) | refine q_Gr.tr ?_ (by assumption) (by intro k9 j9 hk9; omega)))) c340_107 (by first | exact q_w32_id (by omega) (by omega) | exact q_w32w _ | exact rfl) (by first | assumption | omega) (by first | assumption | omega) rfl ?_
            intro y144
            refine r_iload_n c340_108 rfl rfl ?_
            refine r_i2l c340_109 (by first | exact q_w32_id (by omega) (by omega) | exact q_w32w _ | exact rfl) rfl ?_
            refine r_ladd c340_110 rfl rfl ?_
            refine r_last c340_111 (by first | assumption | omega) (by decide) (by first | assumption | rfl) (by first | assumption | decide) (by first | exact q_w32_id (by omega) (by omega) | exact q_w32w _ | exact rfl) (by first | assumption | omega) (by first | assumption | omega) rfl ?_
            refine r_iconst c340_112 rfl ?_
            exact r_zret c340_113 ⟨rfl, rfl, rfl⟩ (by decide) ⟨rfl, ⟨_, rfl, (by decide)⟩, (by repeat (first | exact q_Gr.rf | refine q_Gr.ud ?_ (by omega) (by first | assumption | rfl) rfl (by first | exact ⟨fun h9 => absurd h9 (by decide), fun h9 => absurd h9 (by decide)⟩ | (constructor <;> (intro h9; omega))) | refine q_Gr.udz ?_ (by omega) (by first | assumption | decide | omega) (by first | exact ⟨fun h9 => absurd h9 (by decide), fun h9 => absurd h9 (by decide)⟩ | (constructor <;> (intro h9; omega))) | refine q_Gr.tr ?_ (by assumption) (by intro k9 j9 hk9; omega)))⟩
    · intro b4
      refine r_aload_n c340_51 rfl rfl ?_
      refine r_getr c340_52 (by first | assumption | omega) (by decide) (by first | assumption | rfl) rfl rfl ?_
      refine r_bipush c340_55 rfl ?_
      refine r_iload_n c340_57 rfl rfl ?_
      refine r_iadd c340_58 (by first | exact q_w32_id (by omega) (by omega) | exact q_w32w _ | exact rfl) rfl ?_
      refine r_laldw (q_Gr.rb (S := fun k j => k = 140 ∧ (26 ≤ j ∧ j ≤ 61 ∧ ¬(47 ≤ j ∧ j ≤ 49))) hR (by repeat (first | exact q_Gr.rf | refine q_Gr.ud ?_ (by omega) (by first | assumption | rfl) rfl (by first | exact ⟨fun h9 => absurd h9 (by decide), fun h9 => absurd h9 (by decide)⟩ | (constructor <;> (intro h9; omega))) | refine q_Gr.udz ?_ (by omega) (by first | assumption | decide | omega) (by first | exact ⟨fun h9 => absurd h9 (by decide), fun h9 => absurd h9 (by decide)⟩ | (constructor <;> (intro h9; omega))) | refine q_Gr.tr ?_ (by assumption) (by intro k9 j9 hk9; omega)))) c340_59 (by first | exact q_w32_id (by omega) (by omega) | exact q_w32w _ | exact rfl) (by first | assumption | omega) (by first | assumption | omega) rfl ?_
      intro y145
      refine r_goto c340_60 ?_
      refine r_lstore_n c340_64 (lo' := [(3, _), (0, _), (1, _), (2, _)]) rfl rfl rfl ?_
      refine r_iload_n c340_65 rfl rfl ?_
      refine r_if_le c340_66 rfl (by first | exact q_w32_id (by omega) (by omega) | exact q_w32w _ | exact rfl) ?_ ?_
      · intro b146
        refine r_lconst c340_81 rfl ?_
        refine r_lstore c340_82 (lo' := [(5, _), (3, _), (0, _), (1, _), (2, _)]) rfl rfl rfl ?_
        refine r_aload_n c340_84 rfl rfl ?_
        refine r_getr c340_85 (by first | assumption | omega) (by decide) (by first | assumption | rfl) rfl rfl ?_
        refine r_bipush c340_88 rfl ?_
        refine r_iload_n c340_90 rfl rfl ?_
        refine r_iadd c340_91 (by first | exact q_w32_id (by omega) (by omega) | exact q_w32w _ | exact rfl) rfl ?_
        refine r_laldw (q_Gr.rb (S := fun k j => k = 140 ∧ (26 ≤ j ∧ j ≤ 61 ∧ ¬(47 ≤ j ∧ j ≤ 49))) hR (by repeat (first | exact q_Gr.rf | refine q_Gr.ud ?_ (by omega) (by first | assumption | rfl) rfl (by first | exact ⟨fun h9 => absurd h9 (by decide), fun h9 => absurd h9 (by decide)⟩ | (constructor <;> (intro h9; omega))) | refine q_Gr.udz ?_ (by omega) (by first | assumption | decide | omega) (by first | exact ⟨fun h9 => absurd h9 (by decide), fun h9 => absurd h9 (by decide)⟩ | (constructor <;> (intro h9; omega))) | refine q_Gr.tr ?_ (by assumption) (by intro k9 j9 hk9; omega)))) c340_92 (by first | exact q_w32_id (by omega) (by omega) | exact q_w32w _ | exact rfl) (by first | assumption | omega) (by first | assumption | omega) rfl ?_
        intro y147
        refine r_lload_n c340_93 rfl rfl ?_
        refine r_lcmpn c340_94 rfl (by first | exact q_w64_id (by omega) (by omega) | exact rfl) (by first | exact q_w64_id (by omega) (by omega) | exact rfl) ?_ ?_ ?_
        · intro b148
          refine r_if_eq c340_95 rfl (show q_w32 (-1) = -1 from rfl) ?_ ?_
          · intro b149
            exact absurd b149.1 (by decide)
          · intro b149
            refine r_aload_n c340_98 rfl rfl ?_
            refine r_getr c340_99 (by first | assumption | omega) (by decide) (by first | assumption | rfl) rfl rfl ?_
            refine r_bipush c340_102 rfl ?_
            refine r_iload_n c340_104 rfl rfl ?_
            refine r_iadd c340_105 (by first | exact q_w32_id (by omega) (by omega) | exact q_w32w _ | exact rfl) rfl ?_
            refine r_dup2 c340_106 rfl rfl rfl ?_
            refine r_laldw (q_Gr.rb (S := fun k j => k = 140 ∧ (26 ≤ j ∧ j ≤ 61 ∧ ¬(47 ≤ j ∧ j ≤ 49))) hR (by repeat (first | exact q_Gr.rf | refine q_Gr.ud ?_ (by omega) (by first | assumption | rfl) rfl (by first | exact ⟨fun h9 => absurd h9 (by decide), fun h9 => absurd h9 (by decide)⟩ | (constructor <;> (intro h9; omega))) | refine q_Gr.udz ?_ (by omega) (by first | assumption | decide | omega) (by first | exact ⟨fun h9 => absurd h9 (by decide), fun h9 => absurd h9 (by decide)⟩ | (constructor <;> (intro h9; omega))) | refine q_Gr.tr ?_ (by assumption) (by intro k9 j9 hk9; omega)))) c340_107 (by first | exact q_w32_id (by omega) (by omega) | exact q_w32w _ | exact rfl) (by first | assumption | omega) (by first | assumption | omega) rfl ?_
            intro y150
            refine r_iload_n c340_108 rfl rfl ?_
            refine r_i2l c340_109 (by first | exact q_w32_id (by omega) (by omega) | exact q_w32w _ | exact rfl) rfl ?_
            refine r_ladd c340_110 rfl rfl ?_
            refine r_last c340_111 (by first | assumption | omega) (by decide) (by first | assumption | rfl) (by first | assumption | decide) (by first | exact q_w32_id (by omega) (by omega) | exact q_w32w _ | exact rfl) (by first | assumption | omega) (by first | assumption | omega) rfl ?_
            refine r_iconst c340_112 rfl ?_
            exact r_zret c340_113 ⟨rfl, rfl, rfl⟩ (by decide) ⟨rfl, ⟨_, rfl, (by decide)⟩, (by repeat (first | exact q_Gr.rf | refine q_Gr.ud ?_ (by omega) (by first | assumption | rfl) rfl (by first | exact ⟨fun h9 => absurd h9 (by decide), fun h9 => absurd h9 (by decide)⟩ | (constructor <;> (intro h9; omega))) | refine q_Gr.udz ?_ (by omega) (by first | assumption | decide | omega) (by first | exact ⟨fun h9 => absurd h9 (by decide), fun h9 => absurd h9 (by decide)⟩ | (constructor <;> (intro h9; omega))) | refine q_Gr.tr ?_ (by assumption) (by intro k9 j9 hk9; omega)))⟩
        · intro b148
          refine r_if_eq c340_95 rfl (show q_w32 (0) = 0 from rfl) ?_ ?_
          · intro b151
            refine r_aload_n c340_114 rfl rfl ?_
            refine r_getr c340_115 (by first | assumption | omega) (by decide) (by first | assumption | rfl) rfl rfl ?_
            refine r_bipush c340_118 rfl ?_
            refine r_iload_n c340_120 rfl rfl ?_
            refine r_iadd c340_121 (by first | exact q_w32_id (by omega) (by omega) | exact q_w32w _ | exact rfl) rfl ?_
            refine r_laldw (q_Gr.rb (S := fun k j => k = 140 ∧ (26 ≤ j ∧ j ≤ 61 ∧ ¬(47 ≤ j ∧ j ≤ 49))) hR (by repeat (first | exact q_Gr.rf | refine q_Gr.ud ?_ (by omega) (by first | assumption | rfl) rfl (by first | exact ⟨fun h9 => absurd h9 (by decide), fun h9 => absurd h9 (by decide)⟩ | (constructor <;> (intro h9; omega))) | refine q_Gr.udz ?_ (by omega) (by first | assumption | decide | omega) (by first | exact ⟨fun h9 => absurd h9 (by decide), fun h9 => absurd h9 (by decide)⟩ | (constructor <;> (intro h9; omega))) | refine q_Gr.tr ?_ (by assumption) (by intro k9 j9 hk9; omega)))) c340_122 (by first | exact q_w32_id (by omega) (by omega) | exact q_w32w _ | exact rfl) (by first | assumption | omega) (by first | assumption | omega) rfl ?_
            intro y152
            refine r_lload c340_123 rfl rfl ?_
            refine r_lcmpn c340_125 rfl (by first | exact q_w64_id (by omega) (by omega) | exact rfl) (show q_w64 (0) = 0 from rfl) ?_ ?_ ?_
            · intro b153
              refine r_if_ne c340_126 rfl (show q_w32 (-1) = -1 from rfl) ?_ ?_
              · intro b154
                refine r_aload_n c340_144 rfl rfl ?_
                refine r_getr c340_145 (by first | assumption | omega) (by decide) (by first | assumption | rfl) rfl rfl ?_
                refine r_bipush c340_148 rfl ?_
                refine r_iload_n c340_150 rfl rfl ?_
                refine r_iadd c340_151 (by first | exact q_w32_id (by omega) (by omega) | exact q_w32w _ | exact rfl) rfl ?_
                refine r_dup2 c340_152 rfl rfl rfl ?_
                refine r_laldw (q_Gr.rb (S := fun k j => k = 140 ∧ (26 ≤ j ∧ j ≤ 61 ∧ ¬(47 ≤ j ∧ j ≤ 49))) hR (by repeat (first | exact q_Gr.rf | refine q_Gr.ud ?_ (by omega) (by first | assumption | rfl) rfl (by first | exact ⟨fun h9 => absurd h9 (by decide), fun h9 => absurd h9 (by decide)⟩ | (constructor <;> (intro h9; omega))) | refine q_Gr.udz ?_ (by omega) (by first | assumption | decide | omega) (by first | exact ⟨fun h9 => absurd h9 (by decide), fun h9 => absurd h9 (by decide)⟩ | (constructor <;> (intro h9; omega))) | refine q_Gr.tr ?_ (by assumption) (by intro k9 j9 hk9; omega)))) c340_153 (by first | exact q_w32_id (by omega) (by omega) | exact q_w32w _ | exact rfl) (by first | assumption | omega) (by first | assumption | omega) rfl ?_
                intro y155
                refine r_iload_n c340_154 rfl rfl ?_
                refine r_i2l c340_155 (by first | exact q_w32_id (by omega) (by omega) | exact q_w32w _ | exact rfl) rfl ?_
                refine r_ladd c340_156 rfl rfl ?_
                refine r_last c340_157 (by first | assumption | omega) (by decide) (by first | assumption | rfl) (by first | assumption | decide) (by first | exact q_w32_id (by omega) (by omega) | exact q_w32w _ | exact rfl) (by first | assumption | omega) (by first | assumption | omega) rfl ?_
                refine r_aload_n c340_158 rfl rfl ?_
                refine r_getr c340_159 (by first | assumption | omega) (by decide) (by first | assumption | rfl) rfl rfl ?_
                refine r_bipush c340_162 rfl ?_
                refine r_iload_n c340_164 rfl rfl ?_
                refine r_iadd c340_165 (by first | exact q_w32_id (by omega) (by omega) | exact q_w32w _ | exact rfl) rfl ?_
                refine r_laldw (q_Gr.rb (S := fun k j => k = 140 ∧ (26 ≤ j ∧ j ≤ 61 ∧ ¬(47 ≤ j ∧ j ≤ 49))) hR (by repeat (first | exact q_Gr.rf | refine q_Gr.ud ?_ (by omega) (by first | assumption | rfl) rfl (by first | exact ⟨fun h9 => absurd h9 (by decide), fun h9 => absurd h9 (by decide)⟩ | (constructor <;> (intro h9; omega))) | refine q_Gr.udz ?_ (by omega) (by first | assumption | decide | omega) (by first | exact ⟨fun h9 => absurd h9 (by decide), fun h9 => absurd h9 (by decide)⟩ | (constructor <;> (intro h9; omega))) | refine q_Gr.tr ?_ (by assumption) (by intro k9 j9 hk9; omega)))) c340_166 (by first | exact q_w32_id (by omega) (by omega) | exact q_w32w _ | exact rfl) (by first | assumption | omega) (by first | assumption | omega) rfl ?_
                intro y156
                refine r_aload_n c340_167 rfl rfl ?_
                refine r_getr c340_168 (by first | assumption | omega) (by decide) (by first | assumption | rfl) rfl rfl ?_
                refine r_bipush c340_171 rfl ?_
                refine r_iload_n c340_173 rfl rfl ?_
                refine r_iadd c340_174 (by first | exact q_w32_id (by omega) (by omega) | exact q_w32w _ | exact rfl) rfl ?_
                refine r_laldw (q_Gr.rb (S := fun k j => k = 140 ∧ (26 ≤ j ∧ j ≤ 61 ∧ ¬(47 ≤ j ∧ j ≤ 49))) hR (by repeat (first | exact q_Gr.rf | refine q_Gr.ud ?_ (by omega) (by first | assumption | rfl) rfl (by first | exact ⟨fun h9 => absurd h9 (by decide), fun h9 => absurd h9 (by decide)⟩ | (constructor <;> (intro h9; omega))) | refine q_Gr.udz ?_ (by omega) (by first | assumption | decide | omega) (by first | exact ⟨fun h9 => absurd h9 (by decide), fun h9 => absurd h9 (by decide)⟩ | (constructor <;> (intro h9; omega))) | refine q_Gr.tr ?_ (by assumption) (by intro k9 j9 hk9; omega)))) c340_175 (by first | exact q_w32_id (by omega) (by omega) | exact q_w32w _ | exact rfl) (by first | assumption | omega) (by first | assumption | omega) rfl ?_
                intro y157
                refine r_lcmpn c340_176 rfl (by first | exact q_w64_id (by omega) (by omega) | exact rfl) (by first | exact q_w64_id (by omega) (by omega) | exact rfl) ?_ ?_ ?_
                · intro b158
                  refine r_if_gt c340_177 rfl (show q_w32 (-1) = -1 from rfl) ?_ ?_
                  · intro b159
                    exact absurd b159.1 (by decide)
                  · intro b159
                    refine r_aload_n c340_180 rfl rfl ?_
                    refine r_getr c340_181 (by first | assumption | omega) (by decide) (by first | assumption | rfl) rfl rfl ?_
                    refine r_bipush c340_184 rfl ?_
                    refine r_iload_n c340_186 rfl rfl ?_
                    refine r_iadd c340_187 (by first | exact q_w32_id (by omega) (by omega) | exact q_w32w _ | exact rfl) rfl ?_
                    refine r_lconst c340_188 rfl ?_
                    refine r_last c340_189 (by first | assumption | omega) (by decide) (by first | assumption | rfl) (by first | assumption | decide) (by first | exact q_w32_id (by omega) (by omega) | exact q_w32w _ | exact rfl) (by first | assumption | omega) (by first | assumption | omega) rfl ?_
                    refine r_aload_n c340_190 rfl rfl ?_
                    refine r_getr c340_191 (by first | assumption | omega) (by decide) (by first | assumption | rfl) rfl rfl ?_
                    refine r_bipush c340_194 rfl ?_
                    refine r_iload_n c340_196 rfl rfl ?_
                    refine r_iadd c340_197 (by first | exact q_w32_id (by omega) (by omega) | exact q_w32w _ | exact rfl) rfl ?_
                    refine r_laldw (q_Gr.rb (S := fun k j => k = 140 ∧ (26 ≤ j ∧ j ≤ 61 ∧ ¬(47 ≤ j ∧ j ≤ 49))) hR (by repeat (first | exact q_Gr.rf | refine q_Gr.ud ?_ (by omega) (by first | assumption | rfl) rfl (by first | exact ⟨fun h9 => absurd h9 (by decide), fun h9 => absurd h9 (by decide)⟩ | (constructor <;> (intro h9; omega))) | refine q_Gr.udz ?_ (by omega) (by first | assumption | decide | omega) (by first | exact ⟨fun h9 => absurd h9 (by decide), fun h9 => absurd h9 (by decide)⟩ | (constructor <;> (intro h9; omega))) | refine q_Gr.tr ?_ (by assumption) (by intro k9 j9 hk9; omega)))) c340_198 (by first | exact q_w32_id (by omega) (by omega) | exact q_w32w _ | exact rfl) (by first | assumption | omega) (by first | assumption | omega) rfl ?_
                    intro y160
                    refine r_aload_n c340_199 rfl rfl ?_
                    refine r_getr c340_200 (by first | assumption | omega) (by decide) (by first | assumption | rfl) rfl rfl ?_
                    refine r_bipush c340_203 rfl ?_
                    refine r_iload_n c340_205 rfl rfl ?_
                    refine r_iadd c340_206 (by first | exact q_w32_id (by omega) (by omega) | exact q_w32w _ | exact rfl) rfl ?_
                    refine r_laldw (q_Gr.rb (S := fun k j => k = 140 ∧ (26 ≤ j ∧ j ≤ 61 ∧ ¬(47 ≤ j ∧ j ≤ 49))) hR (by repeat (first | exact q_Gr.rf | refine q_Gr.ud ?_ (by omega) (by first | assumption | rfl) rfl (by first | exact ⟨fun h9 => absurd h9 (by decide), fun h9 => absurd h9 (by decide)⟩ | (constructor <;> (intro h9; omega))) | refine q_Gr.udz ?_ (by omega) (by first | assumption | decide | omega) (by first | exact ⟨fun h9 => absurd h9 (by decide), fun h9 => absurd h9 (by decide)⟩ | (constructor <;> (intro h9; omega))) | refine q_Gr.tr ?_ (by assumption) (by intro k9 j9 hk9; omega)))) c340_207 (by first | exact q_w32_id (by omega) (by omega) | exact q_w32w _ | exact rfl) (by first | assumption | omega) (by first | assumption | omega) rfl ?_
                    intro y161
                    refine r_aload_n c340_208 rfl rfl ?_
                    refine r_getr c340_209 (by first | assumption | omega) (by decide) (by first | assumption | rfl) rfl rfl ?_
                    refine r_bipush c340_212 rfl ?_
                    refine r_iload_n c340_214 rfl rfl ?_
                    refine r_iadd c340_215 (by first | exact q_w32_id (by omega) (by omega) | exact q_w32w _ | exact rfl) rfl ?_
                    refine r_laldw (q_Gr.rb (S := fun k j => k = 140 ∧ (26 ≤ j ∧ j ≤ 61 ∧ ¬(47 ≤ j ∧ j ≤ 49))) hR (by repeat (first | exact q_Gr.rf | refine q_Gr.ud ?_ (by omega) (by first | assumption | rfl) rfl (by first | exact ⟨fun h9 => absurd h9 (by decide), fun h9 => absurd h9 (by decide)⟩ | (constructor <;> (intro h9; omega))) | refine q_Gr.udz ?_ (by omega) (by first | assumption | decide | omega) (by first | exact ⟨fun h9 => absurd h9 (by decide), fun h9 => absurd h9 (by decide)⟩ | (constructor <;> (intro h9; omega))) | refine q_Gr.tr ?_ (by assumption) (by intro k9 j9 hk9; omega)))) c340_216 (by first | exact q_w32_id (by omega) (by omega) | exact q_w32w _ | exact rfl) (by first | assumption | omega) (by first | assumption | omega) rfl ?_
                    intro y162
                    refine r_ladd c340_217 rfl rfl ?_
                    refine r_lcmpn c340_218 rfl (by first | exact q_w64_id (by omega) (by omega) | exact rfl) (by first | exact q_w64_id (by omega) (by omega) | exact rfl) ?_ ?_ ?_
                    · intro b163
                      refine r_if_le c340_219 rfl (show q_w32 (-1) = -1 from rfl) ?_ ?_
                      · intro b164
                        refine r_iconst c340_232 rfl ?_
                        exact r_zret c340_233 ⟨rfl, rfl, rfl⟩ (by decide) ⟨rfl, ⟨_, rfl, (by decide)⟩, (by repeat (first | exact q_Gr.rf | refine q_Gr.ud ?_ (by omega) (by first | assumption | rfl) rfl (by first | exact ⟨fun h9 => absurd h9 (by decide), fun h9 => absurd h9 (by decide)⟩ | (constructor <;> (intro h9; omega))) | refine q_Gr.udz ?_ (by omega) (by first | assumption | decide | omega) (by first | exact ⟨fun h9 => absurd h9 (by decide), fun h9 => absurd h9 (by decide)⟩ | (constructor <;> (intro h9; omega))) | refine q_Gr.tr ?_ (by assumption) (by intro k9 j9 hk9; omega)))⟩
                      · intro b164
                        exact absurd b164.1 (by decide)
                    · intro b163
                      refine r_if_le c340_219 rfl (show q_w32 (0) = 0 from rfl) ?_ ?_
                      · intro b165
                        refine r_iconst c340_232 rfl ?_
                        exact r_zret c340_233 ⟨rfl, rfl, rfl⟩ (by decide) ⟨rfl, ⟨_, rfl, (by decide)⟩, (by repeat (first | exact q_Gr.rf | refine q_Gr.ud ?_ (by omega) (by first | assumption | rfl) rfl (by first | exact ⟨fun h9 => absurd h9 (by decide), fun h9 => absurd h9 (by decide)⟩ | (constructor <;> (intro h9; omega))) | refine q_Gr.udz ?_ (by omega) (by first | assumption | decide | omega) (by first | exact ⟨fun h9 => absurd h9 (by decide), fun h9 => absurd h9 (by decide)⟩ | (constructor <;> (intro h9; omega))) | refine q_Gr.tr ?_ (by assumption) (by intro k9 j9 hk9; omega)))⟩
                      · intro b165
                        exact absurd b165.1 (by decide)
                    · intro b163
                      refine r_if_le c340_219 rfl (show q_w32 (1) = 1 from rfl) ?_ ?_
                      · intro b166
                        exact absurd b166.1 (by decide)
                      · intro b166
                        refine r_aload_n c340_222 rfl rfl ?_
                        refine r_getr c340_223 (by first | assumption | omega) (by decide) (by first | assumption | rfl) rfl rfl ?_
                        refine r_bipush c340_226 rfl ?_
                        refine r_iload_n c340_228 rfl rfl ?_
                        refine r_iadd c340_229 (by first | exact q_w32_id (by omega) (by omega) | exact q_w32w _ | exact rfl) rfl ?_
                        refine r_lconst c340_230 rfl ?_
                        refine r_last c340_231 (by first | assumption | omega) (by decide) (by first | assumption | rfl) (by first | assumption | decide) (by first | exact q_w32_id (by omega) (by omega) | exact q_w32w _ | exact rfl) (by first | assumption | omega) (by first | assumption | omega) rfl ?_
                        refine r_iconst c340_232 rfl ?_
                        exact r_zret c340_233 ⟨rfl, rfl, rfl⟩ (by decide) ⟨rfl, ⟨_, rfl, (by decide)⟩, (by repeat (first | exact q_Gr.rf | refine q_Gr.ud ?_ (by omega) (by first | assumption | rfl) rfl (by first | exact ⟨fun h9 => absurd h9 (by decide), fun h9 => absurd h9 (by decide)⟩ | (constructor <;> (intro h9; omega))) | refine q_Gr.udz ?_ (by omega) (by first | assumption | decide | omega) (by first | exact ⟨fun h9 => absurd h9 (by decide), fun h9 => absurd h9 (by decide)⟩ | (constructor <;> (intro h9; omega))) | refine q_Gr.tr ?_ (by assumption) (by intro k9 j9 hk9; omega)))⟩
                · intro b158
                  refine r_if_gt c340_177 rfl (show q_w32 (0) = 0 from rfl) ?_ ?_
                  · intro b167
                    exact absurd b167.1 (by decide)
                  · intro b167
                    refine r_aload_n c340_180 rfl rfl ?_
                    refine r_getr c340_181 (by first | assumption | omega) (by decide) (by first | assumption | rfl) rfl rfl ?_
                    refine r_bipush c340_184 rfl ?_
                    refine r_iload_n c340_186 rfl rfl ?_
                    refine r_iadd c340_187 (by first | exact q_w32_id (by omega) (by omega) | exact q_w32w _ | exact rfl) rfl ?_
                    refine r_lconst c340_188 rfl ?_
                    refine r_last c340_189 (by first | assumption | omega) (by decide) (by first | assumption | rfl) (by first | assumption | decide) (by first | exact q_w32_id (by omega) (by omega) | exact q_w32w _ | exact rfl) (by first | assumption | omega) (by first | assumption | omega) rfl ?_
                    refine r_aload_n c340_190 rfl rfl ?_
                    refine r_getr c340_191 (by first | assumption | omega) (by decide) (by first | assumption | rfl) rfl rfl ?_
                    refine r_bipush c340_194 rfl ?_
                    refine r_iload_n c340_196 rfl rfl ?_
                    refine r_iadd c340_197 (by first | exact q_w32_id (by omega) (by omega) | exact q_w32w _ | exact rfl) rfl ?_
                    refine r_laldw (q_Gr.rb (S := fun k j => k = 140 ∧ (26 ≤ j ∧ j ≤ 61 ∧ ¬(47 ≤ j ∧ j ≤ 49))) hR (by repeat (first | exact q_Gr.rf | refine q_Gr.ud ?_ (by omega) (by first | assumption | rfl) rfl (by first | exact ⟨fun h9 => absurd h9 (by decide), fun h9 => absurd h9 (by decide)⟩ | (constructor <;> (intro h9; omega))) | refine q_Gr.udz ?_ (by omega) (by first | assumption | decide | omega) (by first | exact ⟨fun h9 => absurd h9 (by decide), fun h9 => absurd h9 (by decide)⟩ | (constructor <;> (intro h9; omega))) | refine q_Gr.tr ?_ (by assumption) (by intro k9 j9 hk9; omega)))) c340_198 (by first | exact q_w32_id (by omega) (by omega) | exact q_w32w _ | exact rfl) (by first | assumption | omega) (by first | assumption | omega) rfl ?_
                    intro y168
                    refine r_aload_n c340_199 rfl rfl ?_
                    refine r_getr c340_200 (by first | assumption | omega) (by decide) (by first | assumption | rfl) rfl rfl ?_
                    refine r_bipush c340_203 rfl ?_
                    refine r_iload_n c340_205 rfl rfl ?_
                    refine r_iadd c340_206 (by first | exact q_w32_id (by omega) (by omega) | exact q_w32w _ | exact rfl) rfl ?_
                    refine r_laldw (q_Gr.rb (S := fun k j => k = 140 ∧ (26 ≤ j ∧ j ≤ 61 ∧ ¬(47 ≤ j ∧ j ≤ 49))) hR (by repeat (first | exact q_Gr.rf | refine q_Gr.ud ?_ (by omega) (by first | assumption | rfl) rfl (by first | exact ⟨fun h9 => absurd h9 (by decide), fun h9 => absurd h9 (by decide)⟩ | (constructor <;> (intro h9; omega))) | refine q_Gr.udz ?_ (by omega) (by first | assumption | decide | omega) (by first | exact ⟨fun h9 => absurd h9 (by decide), fun h9 => absurd h9 (by decide)⟩ | (constructor <;> (intro h9; omega))) | refine q_Gr.tr ?_ (by assumption) (by intro k9 j9 hk9; omega)))) c340_207 (by first | exact q_w32_id (by omega) (by omega) | exact q_w32w _ | exact rfl) (by first | assumption | omega) (by first | assumption | omega) rfl ?_
                    intro y169
                    refine r_aload_n c340_208 rfl rfl ?_
                    refine r_getr c340_209 (by first | assumption | omega) (by decide) (by first | assumption | rfl) rfl rfl ?_
                    refine r_bipush c340_212 rfl ?_
                    refine r_iload_n c340_214 rfl rfl ?_
                    refine r_iadd c340_215 (by first | exact q_w32_id (by omega) (by omega) | exact q_w32w _ | exact rfl) rfl ?_
                    refine r_laldw (q_Gr.rb (S := fun k j => k = 140 ∧ (26 ≤ j ∧ j ≤ 61 ∧ ¬(47 ≤ j ∧ j ≤ 49))) hR (by repeat (first | exact q_Gr.rf | refine q_Gr.ud ?_ (by omega) (by first | assumption | rfl) rfl (by first | exact ⟨fun h9 => absurd h9 (by decide), fun h9 => absurd h9 (by decide)⟩ | (constructor <;> (intro h9; omega))) | refine q_Gr.udz ?_ (by omega) (by first | assumption | decide | omega) (by first | exact ⟨fun h9 => absurd h9 (by decide), fun h9 => absurd h9 (by decide)⟩ | (constructor <;> (intro h9; omega))) | refine q_Gr.tr ?_ (by assumption) (by intro k9 j9 hk9; omega)))) c340_216 (by first | exact q_w32_id (by omega) (by omega) | exact q_w32w _ | exact rfl) (by first | assumption | omega) (by first | assumption | omega) rfl ?_
                    intro y170
                    refine r_ladd c340_217 rfl rfl ?_
                    refine r_lcmpn c340_218 rfl (by first | exact q_w64_id (by omega) (by omega) | exact rfl) (by first | exact q_w64_id (by omega) (by omega) | exact rfl) ?_ ?_ ?_
                    · intro b171
                      refine r_if_le c340_219 rfl (show q_w32 (-1) = -1 from rfl) ?_ ?_
                      · intro b172
                        refine r_iconst c340_232 rfl ?_
                        exact r_zret c340_233 ⟨rfl, rfl, rfl⟩ (by decide) ⟨rfl, ⟨_, rfl, (by decide)⟩, (by repeat (first | exact q_Gr.rf | refine q_Gr.ud ?_ (by omega) (by first | assumption | rfl) rfl (by first | exact ⟨fun h9 => absurd h9 (by decide), fun h9 => absurd h9 (by decide)⟩ | (constructor <;> (intro h9; omega))) | refine q_Gr.udz ?_ (by omega) (by first | assumption | decide | omega) (by first | exact ⟨fun h9 => absurd h9 (by decide), fun h9 => absurd h9 (by decide)⟩ | (constructor <;> (intro h9; omega))) | refine q_Gr.tr ?_ (by assumption) (by intro k9 j9 hk9; omega)))⟩
                      · intro b172
                        exact absurd b172.1 (by decide)
                    · intro b171
                      refine r_if_le c340_219 rfl (show q_w32 (0) = 0 from rfl) ?_ ?_
                      · intro b173
                        refine r_iconst c340_232 rfl ?_
                        exact r_zret c340_233 ⟨rfl, rfl, rfl⟩ (by decide) ⟨rfl, ⟨_, rfl, (by decide)⟩, (by repeat (first | exact q_Gr.rf | refine q_Gr.ud ?_ (by omega) (by first | assumption | rfl) rfl (by first | exact ⟨fun h9 => absurd h9 (by decide), fun h9 => absurd h9 (by decide)⟩ | (constructor <;> (intro h9; omega))) | refine q_Gr.udz ?_ (by omega) (by first | assumption | decide | omega) (by first | exact ⟨fun h9 => absurd h9 (by decide), fun h9 => absurd h9 (by decide)⟩ | (constructor <;> (intro h9; omega))) | refine q_Gr.tr ?_ (by assumption) (by intro k9 j9 hk9; omega)))⟩
                      · intro b173
                        exact absurd b173.1 (by decide)
                    · intro b171
                      refine r_if_le c340_219 rfl (show q_w32 (1) = 1 from rfl) ?_ ?_
                      · intro b174
                        exact absurd b174.1 (by decide)
                      · intro b174
                        refine r_aload_n c340_222 rfl rfl ?_
                        refine r_getr c340_223 (by first | assumption | omega) (by decide) (by first | assumption | rfl) rfl rfl ?_
                        refine r_bipush c340_226 rfl ?_
                        refine r_iload_n c340_228 rfl rfl ?_
                        refine r_iadd c340_229 (by first | exact q_w32_id (by omega) (by omega) | exact q_w32w _ | exact rfl) rfl ?_
                        refine r_lconst c340_230 rfl ?_
                        refine r_last c340_231 (by first | assumption | omega) (by decide) (by first | assumption | rfl) (by first | assumption | decide) (by first | exact q_w32_id (by omega) (by omega) | exact q_w32w _ | exact rfl) (by first | assumption | omega) (by first | assumption | omega) rfl ?_
                        refine r_iconst c340_232 rfl ?_
                        exact r_zret c340_233 ⟨rfl, rfl, rfl⟩ (by decide) ⟨rfl, ⟨_, rfl, (by decide)⟩, (by repeat (first | exact q_Gr.rf | refine q_Gr.ud ?_ (by omega) (by first | assumption | rfl) rfl (by first | exact ⟨fun h9 => absurd h9 (by decide), fun h9 => absurd h9 (by decide)⟩ | (constructor <;> (intro h9; omega))) | refine q_Gr.udz ?_ (by omega) (by first | assumption | decide | omega) (by first | exact ⟨fun h9 => absurd h9 (by decide), fun h9 => absurd h9 (by decide)⟩ | (constructor <;> (intro h9; omega))) | refine q_Gr.tr ?_ (by assumption) (by intro k9 j9 hk9; omega)))⟩
                · intro b158
                  refine r_if_gt c340_177 rfl (show q_w32 (1) = 1 from rfl) ?_ ?_
                  · intro b175
                    refine r_aload_n c340_190 rfl rfl ?_
                    refine r_getr c340_191 (by first | assumption | omega) (by decide) (by first | assumption | rfl) rfl rfl ?_
                    refine r_bipush c340_194 rfl ?_
                    refine r_iload_n c340_196 rfl rfl ?_
                    refine r_iadd c340_197 (by first | exact q_w32_id (by omega) (by omega) | exact q_w32w _ | exact rfl) rfl ?_
                    refine r_laldw (q_Gr.rb (S := fun k j => k = 140 ∧ (26 ≤ j ∧ j ≤ 61 ∧ ¬(47 ≤ j ∧ j ≤ 49))) hR (by repeat (first | exact q_Gr.rf | refine q_Gr.ud ?_ (by omega) (by first | assumption | rfl) rfl (by first | exact ⟨fun h9 => absurd h9 (by decide), fun h9 => absurd h9 (by decide)⟩ | (constructor <;> (intro h9; omega))) | refine q_Gr.udz ?_ (by omega) (by first | assumption | decide | omega) (by first | exact ⟨fun h9 => absurd h9 (by decide), fun h9 => absurd h9 (by decide)⟩ | (constructor <;> (intro h9; omega))) | refine q_Gr.tr ?_ (by assumption) (by intro k9 j9 hk9; omega)))) c340_198 (by first | exact q_w32_id (by omega) (by omega) | exact q_w32w _ | exact rfl) (by first | assumption | omega) (by first | assumption | omega) rfl ?_
                    intro y176
                    refine r_aload_n c340_199 rfl rfl ?_
                    refine r_getr c340_200 (by first | assumption | omega) (by decide) (by first | assumption | rfl) rfl rfl ?_
                    refine r_bipush c340_203 rfl ?_
                    refine r_iload_n c340_205 rfl rfl ?_
                    refine r_iadd c340_206 (by first | exact q_w32_id (by omega) (by omega) | exact q_w32w _ | exact rfl) rfl ?_
                    refine r_laldw (q_Gr.rb (S := fun k j => k = 140 ∧ (26 ≤ j ∧ j ≤ 61 ∧ ¬(47 ≤ j ∧ j ≤ 49))) hR (by repeat (first | exact q_Gr.rf | refine q_Gr.ud ?_ (by omega) (by first | assumption | rfl) rfl (by first | exact ⟨fun h9 => absurd h9 (by decide), fun h9 => absurd h9 (by decide)⟩ | (constructor <;> (intro h9; omega))) | refine q_Gr.udz ?_ (by omega) (by first | assumption | decide | omega) (by first | exact ⟨fun h9 => absurd h9 (by decide), fun h9 => absurd h9 (by decide)⟩ | (constructor <;> (intro h9; omega))) | refine q_Gr.tr ?_ (by assumption) (by intro k9 j9 hk9; omega)))) c340_207 (by first | exact q_w32_id (by omega) (by omega) | exact q_w32w _ | exact rfl) (by first | assumption | omega) (by first | assumption | omega) rfl ?_
                    intro y177
                    refine r_aload_n c340_208 rfl rfl ?_
                    refine r_getr c340_209 (by first | assumption | omega) (by decide) (by first | assumption | rfl) rfl rfl ?_
                    refine r_bipush c340_212 rfl ?_
                    refine r_iload_n c340_214 rfl rfl ?_
                    refine r_iadd c340_215 (by first | exact q_w32_id (by omega) (by omega) | exact q_w32w _ | exact rfl) rfl ?_
                    refine r_laldw (q_Gr.rb (S := fun k j => k = 140 ∧ (26 ≤ j ∧ j ≤ 61 ∧ ¬(47 ≤ j ∧ j ≤ 49))) hR (by repeat (first | exact q_Gr.rf | refine q_Gr.ud ?_ (by omega) (by first | assumption | rfl) rfl (by first | exact ⟨fun h9 => absurd h9 (by decide), fun h9 => absurd h9 (by decide)⟩ | (constructor <;> (intro h9; omega))) | refine q_Gr.udz ?_ (by omega) (by first | assumption | decide | omega) (by first | exact ⟨fun h9 => absurd h9 (by decide), fun h9 => absurd h9 (by decide)⟩ | (constructor <;> (intro h9; omega))) | refine q_Gr.tr ?_ (by assumption) (by intro k9 j9 hk9; omega)))) c340_216 (by first | exact q_w32_id (by omega) (by omega) | exact q_w32w _ | exact rfl) (by first | assumption | omega) (by first | assumption | omega) rfl ?_
                    intro y178
                    refine r_ladd c340_217 rfl rfl ?_
                    refine r_lcmpn c340_218 rfl (by first | exact q_w64_id (by omega) (by omega) | exact rfl) (by first | exact q_w64_id (by omega) (by omega) | exact rfl) ?_ ?_ ?_
                    · intro b179
                      refine r_if_le c340_219 rfl (show q_w32 (-1) = -1 from rfl) ?_ ?_
                      · intro b180
                        refine r_iconst c340_232 rfl ?_
                        exact r_zret c340_233 ⟨rfl, rfl, rfl⟩ (by decide) ⟨rfl, ⟨_, rfl, (by decide)⟩, (by repeat (first | exact q_Gr.rf | refine q_Gr.ud ?_ (by omega) (by first | assumption | rfl) rfl (by first | exact ⟨fun h9 => absurd h9 (by decide), fun h9 => absurd h9 (by decide)⟩ | (constructor <;> (intro h9; omega))) | refine q_Gr.udz ?_ (by omega) (by first | assumption | decide | omega) (by first | exact ⟨fun h9 => absurd h9 (by decide), fun h9 => absurd h9 (by decide)⟩ | (constructor <;> (intro h9; omega))) | refine q_Gr.tr ?_ (by assumption) (by intro k9 j9 hk9; omega)))⟩
                      · intro b180
                        exact absurd b180.1 (by decide)
                    · intro b179
                      refine r_if_le c340_219 rfl (show q_w32 (0) = 0 from rfl) ?_ ?_
                      · intro b181
                        refine r_iconst c340_232 rfl ?_
                        exact r_zret c340_233 ⟨rfl, rfl, rfl⟩ (by decide) ⟨rfl, ⟨_, rfl, (by decide)⟩, (by repeat (first | exact q_Gr.rf | refine q_Gr.ud ?_ (by omega) (by first | assumption | rfl) rfl (by first | exact ⟨fun h9 => absurd h9 (by decide), fun h9 => absurd h9 (by decide)⟩ | (constructor <;> (intro h9; omega))) | refine q_Gr.udz ?_ (by omega) (by first | assumption | decide | omega) (by first | exact ⟨fun h9 => absurd h9 (by decide), fun h9 => absurd h9 (by decide)⟩ | (constructor <;> (intro h9; omega))) | refine q_Gr.tr ?_ (by assumption) (by intro k9 j9 hk9; omega)))⟩
                      · intro b181
                        exact absurd b181.1 (by decide)
                    · intro b179
                      refine r_if_le c340_219 rfl (show q_w32 (1) = 1 from rfl) ?_ ?_
                      · intro b182
                        exact absurd b182.1 (by decide)
                      · intro b182
                        refine r_aload_n c340_222 rfl rfl ?_
                        refine r_getr c340_223 (by first | assumption | omega) (by decide) (by first | assumption | rfl) rfl rfl ?_
                        refine r_bipush c340_226 rfl ?_
                        refine r_iload_n c340_228 rfl rfl ?_
                        refine r_iadd c340_229 (by first | exact q_w32_id (by omega) (by omega) | exact q_w32w _ | exact rfl) rfl ?_
                        refine r_lconst c340_230 rfl ?_
                        refine r_last c340_231 (by first | assumption | omega) (by decide) (by first | assumption | rfl) (by first | assumption | decide) (by first | exact q_w32_id (by omega) (by omega) | exact q_w32w _ | exact rfl) (by first | assumption | omega) (by first | assumption | omega) rfl ?_
                        refine r_iconst c340_232 rfl ?_
                        exact r_zret c340_233 ⟨rfl, rfl, rfl⟩ (by decide) ⟨rfl, ⟨_, rfl, (by decide)⟩, (by repeat (first | exact q_Gr.rf | refine q_Gr.ud ?_ (by omega) (by first | assumption | rfl) rfl (by first | exact ⟨fun h9 => absurd h9 (by decide), fun h9 => absurd h9 (by decide)⟩ | (constructor <;> (intro h9; omega))) | refine q_Gr.udz ?_ (by omega) (by first | assumption | decide | omega) (by first | exact ⟨fun h9 => absurd h9 (by decide), fun h9 => absurd h9 (by decide)⟩ | (constructor <;> (intro h9; omega))) | refine q_Gr.tr ?_ (by assumption) (by intro k9 j9 hk9; omega)))⟩
                  · intro b175
                    exact absurd b175.1 (by decide)
              · intro b154
                exact absurd b154.1 (by decide)
            · intro b153
              refine r_if_ne c340_126 rfl (show q_w32 (0) = 0 from rfl) ?_ ?_
              · intro b183
                exact absurd b183.1 (by decide)
              · intro b183
                refine r_aload_n c340_129 rfl rfl ?_
                refine r_getr c340_130 (by first | assumption | omega) (by decide) (by first | assumption | rfl) rfl rfl ?_
                refine r_bipush c340_133 rfl ?_
                refine r_iload_n c340_135 rfl rfl ?_
                refine r_iadd c340_136 (by first | exact q_w32_id (by omega) (by omega) | exact q_w32w _ | exact rfl) rfl ?_
                refine r_dup2 c340_137 rfl rfl rfl ?_
                refine r_laldw (q_Gr.rb (S := fun k j => k = 140 ∧ (26 ≤ j ∧ j ≤ 61 ∧ ¬(47 ≤ j ∧ j ≤ 49))) hR (by repeat (first | exact q_Gr.rf | refine q_Gr.ud ?_ (by omega) (by first | assumption | rfl) rfl (by first | exact ⟨fun h9 => absurd h9 (by decide), fun h9 => absurd h9 (by decide)⟩ | (constructor <;> (intro h9; omega))) | refine q_Gr.udz ?_ (by omega) (by first | assumption | decide | omega) (by first | exact ⟨fun h9 => absurd h9 (by decide), fun h9 => absurd h9 (by decide)⟩ | (constructor <;> (intro h9; omega))) | refine q_Gr.tr ?_ (by assumption) (by intro k9 j9 hk9; omega)))) c340_138 (by first | exact q_w32_id (by omega) (by omega) | exact q_w32w _ | exact rfl) (by first | assumption | omega) (by first | assumption | omega) rfl ?_
                intro y184
                refine r_lconst c340_139 rfl ?_
                refine r_ladd c340_140 rfl rfl ?_
                refine r_last c340_141 (by first | assumption | omega) (by decide) (by first | assumption | rfl) (by first | assumption | decide) (by first | exact q_w32_id (by omega) (by omega) | exact q_w32w _ | exact rfl) (by first | assumption | omega) (by first | assumption | omega) rfl ?_
                refine r_iconst c340_142 rfl ?_
                exact r_zret c340_143 ⟨rfl, rfl, rfl⟩ (by decide) ⟨rfl, ⟨_, rfl, (by decide)⟩, (by repeat (first | exact q_Gr.rf | refine q_Gr.ud ?_ (by omega) (by first | assumption | rfl) rfl (by first | exact ⟨fun h9 => absurd h9 (by decide), fun h9 => absurd h9 (by decide)⟩ | (constructor <;> (intro h9; omega))) | refine q_Gr.udz ?_ (by omega) (by first | assumption | decide | omega) (by first | exact ⟨fun h9 => absurd h9 (by decide), fun h9 => absurd h9 (by decide)⟩ | (constructor <;> (intro h9; omega))) | refine q_Gr.tr ?_ (by assumption) (by intro k9 j9 hk9; omega)))⟩
            · intro b153
              refine r_if_ne c340_126 rfl (show q_w32 (1) = 1 from rfl) ?_ ?_
              · intro b185
                refine r_aload_n c340_144 rfl rfl ?_
                refine r_getr c340_145 (by first | assumption | omega) (by decide) (by first | assumption | rfl) rfl rfl ?_
                refine r_bipush c340_148 rfl ?_
                refine r_iload_n c340_150 rfl rfl ?_
                refine r_iadd c340_151 (by first | exact q_w32_id (by omega) (by omega) | exact q_w32w _ | exact rfl) rfl ?_
                refine r_dup2 c340_152 rfl rfl rfl ?_
                refine r_laldw (q_Gr.rb (S := fun k j => k = 140 ∧ (26 ≤ j ∧ j ≤ 61 ∧ ¬(47 ≤ j ∧ j ≤ 49))) hR (by repeat (first | exact q_Gr.rf | refine q_Gr.ud ?_ (by omega) (by first | assumption | rfl) rfl (by first | exact ⟨fun h9 => absurd h9 (by decide), fun h9 => absurd h9 (by decide)⟩ | (constructor <;> (intro h9; omega))) | refine q_Gr.udz ?_ (by omega) (by first | assumption | decide | omega) (by first | exact ⟨fun h9 => absurd h9 (by decide), fun h9 => absurd h9 (by decide)⟩ | (constructor <;> (intro h9; omega))) | refine q_Gr.tr ?_ (by assumption) (by intro k9 j9 hk9; omega)))) c340_153 (by first | exact q_w32_id (by omega) (by omega) | exact q_w32w _ | exact rfl) (by first | assumption | omega) (by first | assumption | omega) rfl ?_
                intro y186
                refine r_iload_n c340_154 rfl rfl ?_
                refine r_i2l c340_155 (by first | exact q_w32_id (by omega) (by omega) | exact q_w32w _ | exact rfl) rfl ?_
                refine r_ladd c340_156 rfl rfl ?_
                refine r_last c340_157 (by first | assumption | omega) (by decide) (by first | assumption | rfl) (by first | assumption | decide) (by first | exact q_w32_id (by omega) (by omega) | exact q_w32w _ | exact rfl) (by first | assumption | omega) (by first | assumption | omega) rfl ?_
                refine r_aload_n c340_158 rfl rfl ?_
                refine r_getr c340_159 (by first | assumption | omega) (by decide) (by first | assumption | rfl) rfl rfl ?_
                refine r_bipush c340_162 rfl ?_
                refine r_iload_n c340_164 rfl rfl ?_
                refine r_iadd c340_165 (by first | exact q_w32_id (by omega) (by omega) | exact q_w32w _ | exact rfl) rfl ?_
                refine r_laldw (q_Gr.rb (S := fun k j => k = 140 ∧ (26 ≤ j ∧ j ≤ 61 ∧ ¬(47 ≤ j ∧ j ≤ 49))) hR (by repeat (first | exact q_Gr.rf | refine q_Gr.ud ?_ (by omega) (by first | assumption | rfl) rfl (by first | exact ⟨fun h9 => absurd h9 (by decide), fun h9 => absurd h9 (by decide)⟩ | (constructor <;> (intro h9; omega))) | refine q_Gr.udz ?_ (by omega) (by first | assumption | decide | omega) (by first | exact ⟨fun h9 => absurd h9 (by decide), fun h9 => absurd h9 (by decide)⟩ | (constructor <;> (intro h9; omega))) | refine q_Gr.tr ?_ (by assumption) (by intro k9 j9 hk9; omega)))) c340_166 (by first | exact q_w32_id (by omega) (by omega) | exact q_w32w _ | exact rfl) (by first | assumption | omega) (by first | assumption | omega) rfl ?_
                intro y187
                refine r_aload_n c340_167 rfl rfl ?_
                refine r_getr c340_168 (by first | assumption | omega) (by decide) (by first | assumption | rfl) rfl rfl ?_
                refine r_bipush c340_171 rfl ?_
                refine r_iload_n c340_173 rfl rfl ?_
                refine r_iadd c340_174 (by first | exact q_w32_id (by omega) (by omega) | exact q_w32w _ | exact rfl) rfl ?_
                refine r_laldw (q_Gr.rb (S := fun k j => k = 140 ∧ (26 ≤ j ∧ j ≤ 61 ∧ ¬(47 ≤ j ∧ j ≤ 49))) hR (by repeat (first | exact q_Gr.rf | refine q_Gr.ud ?_ (by omega) (by first | assumption | rfl) rfl (by first | exact ⟨fun h9 => absurd h9 (by decide), fun h9 => absurd h9 (by decide)⟩ | (constructor <;> (intro h9; omega))) | refine q_Gr.udz ?_ (by omega) (by first | assumption | decide | omega) (by first | exact ⟨fun h9 => absurd h9 (by decide), fun h9 => absurd h9 (by decide)⟩ | (constructor <;> (intro h9; omega))) | refine q_Gr.tr ?_ (by assumption) (by intro k9 j9 hk9; omega)))) c340_175 (by first | exact q_w32_id (by omega) (by omega) | exact q_w32w _ | exact rfl) (by first | assumption | omega) (by first | assumption | omega) rfl ?_
                intro y188
                refine r_lcmpn c340_176 rfl (by first | exact q_w64_id (by omega) (by omega) | exact rfl) (by first | exact q_w64_id (by omega) (by omega) | exact rfl) ?_ ?_ ?_
                · intro b189
                  refine r_if_gt c340_177 rfl (show q_w32 (-1) = -1 from rfl) ?_ ?_
                  · intro b190
                    exact absurd b190.1 (by decide)
                  · intro b190
                    refine r_aload_n c340_180 rfl rfl ?_
                    refine r_getr c340_181 (by first | assumption | omega) (by decide) (by first | assumption | rfl) rfl rfl ?_
                    refine r_bipush c340_184 rfl ?_
                    refine r_iload_n c340_186 rfl rfl ?_
                    refine r_iadd c340_187 (by first | exact q_w32_id (by omega) (by omega) | exact q_w32w _ | exact rfl) rfl ?_
                    refine r_lconst c340_188 rfl ?_
                    refine r_last c340_189 (by first | assumption | omega) (by decide) (by first | assumption | rfl) (by first | assumption | decide) (by first | exact q_w32_id (by omega) (by omega) | exact q_w32w _ | exact rfl) (by first | assumption | omega) (by first | assumption | omega) rfl ?_
                    refine r_aload_n c340_190 rfl rfl ?_
                    refine r_getr c340_191 (by first | assumption | omega) (by decide) (by first | assumption | rfl) rfl rfl ?_
                    refine r_bipush c340_194 rfl ?_
                    refine r_iload_n c340_196 rfl rfl ?_
                    refine r_iadd c340_197 (by first | exact q_w32_id (by omega) (by omega) | exact q_w32w _ | exact rfl) rfl ?_
                    refine r_laldw (q_Gr.rb (S := fun k j => k = 140 ∧ (26 ≤ j ∧ j ≤ 61 ∧ ¬(47 ≤ j ∧ j ≤ 49))) hR (by repeat (first | exact q_Gr.rf | refine q_Gr.ud ?_ (by omega) (by first | assumption | rfl) rfl (by first | exact ⟨fun h9 => absurd h9 (by decide), fun h9 => absurd h9 (by decide)⟩ | (constructor <;> (intro h9; omega))) | refine q_Gr.udz ?_ (by omega) (by first | assumption | decide | omega) (by first | exact ⟨fun h9 => absurd h9 (by decide), fun h9 => absurd h9 (by decide)⟩ | (constructor <;> (intro h9; omega))) | refine q_Gr.tr ?_ (by assumption) (by intro k9 j9 hk9; omega)))) c340_198 (by first | exact q_w32_id (by omega) (by omega) | exact q_w32w _ | exact rfl) (by first | assumption | omega) (by first | assumption | omega) rfl ?_
                    intro y191
                    refine r_aload_n c340_199 rfl rfl ?_
                    refine r_getr c340_200 (by first | assumption | omega) (by decide) (by first | assumption | rfl) rfl rfl ?_
                    refine r_bipush c340_203 rfl ?_
                    refine r_iload_n c340_205 rfl rfl ?_
                    refine r_iadd c340_206 (by first | exact q_w32_id (by omega) (by omega) | exact q_w32w _ | exact rfl) rfl ?_
                    refine r_laldw (q_Gr.rb (S := fun k j => k = 140 ∧ (26 ≤ j ∧ j ≤ 61 ∧ ¬(47 ≤ j ∧ j ≤ 49))) hR (by repeat (first | exact q_Gr.rf | refine q_Gr.ud ?_ (by omega) (by first | assumption | rfl) rfl (by first | exact ⟨fun h9 => absurd h9 (by decide), fun h9 => absurd h9 (by decide)⟩ | (constructor <;> (intro h9; omega))) | refine q_Gr.udz ?_ (by omega) (by first | assumption | decide | omega) (by first | exact ⟨fun h9 => absurd h9 (by decide), fun h9 => absurd h9 (by decide)⟩ | (constructor <;> (intro h9; omega))) | refine q_Gr.tr ?_ (by assumption) (by intro k9 j9 hk9; omega)))) c340_207 (by first | exact q_w32_id (by omega) (by omega) | exact q_w32w _ | exact rfl) (by first | assumption | omega) (by first | assumption | omega) rfl ?_
                    intro y192
                    refine r_aload_n c340_208 rfl rfl ?_
                    refine r_getr c340_209 (by first | assumption | omega) (by decide) (by first | assumption | rfl) rfl rfl ?_
                    refine r_bipush c340_212 rfl ?_
                    refine r_iload_n c340_214 rfl rfl ?_
                    refine r_iadd c340_215 (by first | exact q_w32_id (by omega) (by omega) | exact q_w32w _ | exact rfl) rfl ?_
                    refine r_laldw (q_Gr.rb (S := fun k j => k = 140 ∧ (26 ≤ j ∧ j ≤ 61 ∧ ¬(47 ≤ j ∧ j ≤ 49))) hR (by repeat (first | exact q_Gr.rf | refine q_Gr.ud ?_ (by omega) (by first | assumption | rfl) rfl (by first | exact ⟨fun h9 => absurd h9 (by decide), fun h9 => absurd h9 (by decide)⟩ | (constructor <;> (intro h9; omega))) | refine q_Gr.udz ?_ (by omega) (by first | assumption | decide | omega) (by first | exact ⟨fun h9 => absurd h9 (by decide), fun h9 => absurd h9 (by decide)⟩ | (constructor <;> (intro h9; omega))) | refine q_Gr.tr ?_ (by assumption) (by intro k9 j9 hk9; omega)))) c340_216 (by first | exact q_w32_id (by omega) (by omega) | exact q_w32w _ | exact rfl) (by first | assumption | omega) (by first | assumption | omega) rfl ?_
                    intro y193
                    refine r_ladd c340_217 rfl rfl ?_
                    refine r_lcmpn c340_218 rfl (by first | exact q_w64_id (by omega) (by omega) | exact rfl) (by first | exact q_w64_id (by omega) (by omega) | exact rfl) ?_ ?_ ?_
                    · intro b194
                      refine r_if_le c340_219 rfl (show q_w32 (-1) = -1 from rfl) ?_ ?_
                      · intro b195
                        refine r_iconst c340_232 rfl ?_
                        exact r_zret c340_233 ⟨rfl, rfl, rfl⟩ (by decide) ⟨rfl, ⟨_, rfl, (by decide)⟩, (by repeat (first | exact q_Gr.rf | refine q_Gr.ud ?_ (by omega) (by first | assumption | rfl) rfl (by first | exact ⟨fun h9 => absurd h9 (by decide), fun h9 => absurd h9 (by decide)⟩ | (constructor <;> (intro h9; omega))) | refine q_Gr.udz ?_ (by omega) (by first | assumption | decide | omega) (by first | exact ⟨fun h9 => absurd h9 (by decide), fun h9 => absurd h9 (by decide)⟩ | (constructor <;> (intro h9; omega))) | refine q_Gr.tr ?_ (by assumption) (by intro k9 j9 hk9; omega)))⟩
                      · intro b195
                        exact absurd b195.1 (by decide)
                    · intro b194
                      refine r_if_le c340_219 rfl (show q_w32 (0) = 0 from rfl) ?_ ?_
                      · intro b196
                        refine r_iconst c340_232 rfl ?_
                        exact r_zret c340_233 ⟨rfl, rfl, rfl⟩ (by decide) ⟨rfl, ⟨_, rfl, (by decide)⟩, (by repeat (first | exact q_Gr.rf | refine q_Gr.ud ?_ (by omega) (by first | assumption | rfl) rfl (by first | exact ⟨fun h9 => absurd h9 (by decide), fun h9 => absurd h9 (by decide)⟩ | (constructor <;> (intro h9; omega))) | refine q_Gr.udz ?_ (by omega) (by first | assumption | decide | omega) (by first | exact ⟨fun h9 => absurd h9 (by decide), fun h9 => absurd h9 (by decide)⟩ | (constructor <;> (intro h9; omega))) | refine q_Gr.tr ?_ (by assumption) (by intro k9 j9 hk9; omega)))⟩
                      · intro b196
                        exact absurd b196.1 (by decide)
                    · intro b194
                      refine r_if_le c340_219 rfl (show q_w32 (1) = 1 from rfl) ?_ ?_
                      · intro b197
                        exact absurd b197.1 (by decide)
                      · intro b197
                        refine r_aload_n c340_222 rfl rfl ?_
                        refine r_getr c340_223 (by first | assumption | omega) (by decide) (by first | assumption | rfl) rfl rfl ?_
                        refine r_bipush c340_226 rfl ?_
                        refine r_iload_n c340_228 rfl rfl ?_
                        refine r_iadd c340_229 (by first | exact q_w32_id (by omega) (by omega) | exact q_w32w _ | exact rfl) rfl ?_
                        refine r_lconst c340_230 rfl ?_
                        refine r_last c340_231 (by first | assumption | omega) (by decide) (by first | assumption | rfl) (by first | assumption | decide) (by first | exact q_w32_id (by omega) (by omega) | exact q_w32w _ | exact rfl) (by first | assumption | omega) (by first | assumption | omega) rfl ?_
                        refine r_iconst c340_232 rfl ?_
                        exact r_zret c340_233 ⟨rfl, rfl, rfl⟩ (by decide) ⟨rfl, ⟨_, rfl, (by decide)⟩, (by repeat (first | exact q_Gr.rf | refine q_Gr.ud ?_ (by omega) (by first | assumption | rfl) rfl (by first | exact ⟨fun h9 => absurd h9 (by decide), fun h9 => absurd h9 (by decide)⟩ | (constructor <;> (intro h9; omega))) | refine q_Gr.udz ?_ (by omega) (by first | assumption | decide | omega) (by first | exact ⟨fun h9 => absurd h9 (by decide), fun h9 => absurd h9 (by decide)⟩ | (constructor <;> (intro h9; omega))) | refine q_Gr.tr ?_ (by assumption) (by intro k9 j9 hk9; omega)))⟩
                · intro b189
                  refine r_if_gt c340_177 rfl (show q_w32 (0) = 0 from rfl) ?_ ?_
                  · intro b198
                    exact absurd b198.1 (by decide)
                  · intro b198
                    refine r_aload_n c340_180 rfl rfl ?_
                    refine r_getr c340_181 (by first | assumption | omega) (by decide) (by first | assumption | rfl) rfl rfl ?_
                    refine r_bipush c340_184 rfl ?_
                    refine r_iload_n c340_186 rfl rfl ?_
                    refine r_iadd c340_187 (by first | exact q_w32_id (by omega) (by omega) | exact q_w32w _ | exact rfl) rfl ?_
                    refine r_lconst c340_188 rfl ?_
                    refine r_last c340_189 (by first | assumption | omega) (by decide) (by first | assumption | rfl) (by first | assumption | decide) (by first | exact q_w32_id (by omega) (by omega) | exact q_w32w _ | exact rfl) (by first | assumption | omega) (by first | assumption | omega) rfl ?_
                    refine r_aload_n c340_190 rfl rfl ?_
                    refine r_getr c340_191 (by first | assumption | omega) (by decide) (by first | assumption | rfl) rfl rfl ?_
                    refine r_bipush c340_194 rfl ?_
                    refine r_iload_n c340_196 rfl rfl ?_
                    refine r_iadd c340_197 (by first | exact q_w32_id (by omega) (by omega) | exact q_w32w _ | exact rfl) rfl ?_
                    refine r_laldw (q_Gr.rb (S := fun k j => k = 140 ∧ (26 ≤ j ∧ j ≤ 61 ∧ ¬(47 ≤ j ∧ j ≤ 49))) hR (by repeat (first | exact q_Gr.rf | refine q_Gr.ud ?_ (by omega) (by first | assumption | rfl) rfl (by first | exact ⟨fun h9 => absurd h9 (by decide), fun h9 => absurd h9 (by decide)⟩ | (constructor <;> (intro h9; omega))) | refine q_Gr.udz ?_ (by omega) (by first | assumption | decide | omega) (by first | exact ⟨fun h9 => absurd h9 (by decide), fun h9 => absurd h9 (by decide)⟩ | (constructor <;> (intro h9; omega))) | refine q_Gr.tr ?_ (by assumption) (by intro k9 j9 hk9; omega)))) c340_198 (by first | exact q_w32_id (by omega) (by omega) | exact q_w32w _ | exact rfl) (by first | assumption | omega) (by first | assumption | omega) rfl ?_
                    intro y199
                    refine r_aload_n c340_199 rfl rfl ?_
                    refine r_getr c340_200 (by first | assumption | omega) (by decide) (by first | assumption | rfl) rfl rfl ?_
                    refine r_bipush c340_203 rfl ?_
                    refine r_iload_n c340_205 rfl rfl ?_
                    refine r_iadd c340_206 (by first | exact q_w32_id (by omega) (by omega) | exact q_w32w _ | exact rfl) rfl ?_
                    refine r_laldw (q_Gr.rb (S := fun k j => k = 140 ∧ (26 ≤ j ∧ j ≤ 61 ∧ ¬(47 ≤ j ∧ j ≤ 49))) hR (by repeat (first | exact q_Gr.rf | refine q_Gr.ud ?_ (by omega) (by first | assumption | rfl) rfl (by first | exact ⟨fun h9 => absurd h9 (by decide), fun h9 => absurd h9 (by decide)⟩ | (constructor <;> (intro h9; omega))) | refine q_Gr.udz ?_ (by omega) (by first | assumption | decide | omega) (by first | exact ⟨fun h9 => absurd h9 (by decide), fun h9 => absurd h9 (by decide)⟩ | (constructor <;> (intro h9; omega))) | refine q_Gr.tr ?_ (by assumption) (by intro k9 j9 hk9; omega)))) c340_207 (by first | exact q_w32_id (by omega) (by omega) | exact q_w32w _ | exact rfl) (by first | assumption | omega) (by first | assumption | omega) rfl ?_
                    intro y200
                    refine r_aload_n c340_208 rfl rfl ?_
                    refine r_getr c340_209 (by first | assumption | omega) (by decide) (by first | assumption | rfl) rfl rfl ?_
                    refine r_bipush c340_212 rfl ?_
                    refine r_iload_n c340_214 rfl rfl ?_
                    refine r_iadd c340_215 (by first | exact q_w32_id (by omega) (by omega) | exact q_w32w _ | exact rfl) rfl ?_
                    refine r_laldw (q_Gr.rb (S := fun k j => k = 140 ∧ (26 ≤ j ∧ j ≤ 61 ∧ ¬(47 ≤ j ∧ j ≤ 49))) hR (by repeat (first | exact q_Gr.rf | refine q_Gr.ud ?_ (by omega) (by first | assumption | rfl) rfl (by first | exact ⟨fun h9 => absurd h9 (by decide), fun h9 => absurd h9 (by decide)⟩ | (constructor <;> (intro h9; omega))) | refine q_Gr.udz ?_ (by omega) (by first | assumption | decide | omega) (by first | exact ⟨fun h9 => absurd h9 (by decide), fun h9 => absurd h9 (by decide)⟩ | (constructor <;> (intro h9; omega))) | refine q_Gr.tr ?_ (by assumption) (by intro k9 j9 hk9; omega)))) c340_216 (by first | exact q_w32_id (by omega) (by omega) | exact q_w32w _ | exact rfl) (by first | assumption | omega) (by first | assumption | omega) rfl ?_
                    intro y201
                    refine r_ladd c340_217 rfl rfl ?_
                    refine r_lcmpn c340_218 rfl (by first | exact q_w64_id (by omega) (by omega) | exact rfl) (by first | exact q_w64_id (by omega) (by omega) | exact rfl) ?_ ?_ ?_
                    · intro b202
                      refine r_if_le c340_219 rfl (show q_w32 (-1) = -1 from rfl) ?_ ?_
                      · intro b203
                        refine r_iconst c340_232 rfl ?_
                        exact r_zret c340_233 ⟨rfl, rfl, rfl⟩ (by decide) ⟨rfl, ⟨_, rfl, (by decide)⟩, (by repeat (first | exact q_Gr.rf | refine q_Gr.ud ?_ (by omega) (by first | assumption | rfl) rfl (by first | exact ⟨fun h9 => absurd h9 (by decide), fun h9 => absurd h9 (by decide)⟩ | (constructor <;> (intro h9; omega))) | refine q_Gr.udz ?_ (by omega) (by first | assumption | decide | omega) (by first | exact ⟨fun h9 => absurd h9 (by decide), fun h9 => absurd h9 (by decide)⟩ | (constructor <;> (intro h9; omega))) | refine q_Gr.tr ?_ (by assumption) (by intro k9 j9 hk9; omega)))⟩
                      · intro b203
                        exact absurd b203.1 (by decide)
                    · intro b202
                      refine r_if_le c340_219 rfl (show q_w32 (0) = 0 from rfl) ?_ ?_
                      · intro b204
                        refine r_iconst c340_232 rfl ?_
                        exact r_zret c340_233 ⟨rfl, rfl, rfl⟩ (by decide) ⟨rfl, ⟨_, rfl, (by decide)⟩, (by repeat (first | exact q_Gr.rf | refine q_Gr.ud ?_ (by omega) (by first | assumption | rfl) rfl (by first | exact ⟨fun h9 => absurd h9 (by decide), fun h9 => absurd h9 (by decide)⟩ | (constructor <;> (intro h9; omega))) | refine q_Gr.udz ?_ (by omega) (by first | assumption | decide | omega) (by first | exact ⟨fun h9 => absurd h9 (by decide), fun h9 => absurd h9 (by decide)⟩ | (constructor <;> (intro h9; omega))) | refine q_Gr.tr ?_ (by assumption) (by intro k9 j9 hk9; omega)))⟩
                      · intro b204
                        exact absurd b204.1 (by decide)
                    · intro b202
                      refine r_if_le c340_219 rfl (show q_w32 (1) = 1 from rfl) ?_ ?_
                      · intro b205
                        exact absurd b205.1 (by decide)
                      · intro b205
                        refine r_aload_n c340_222 rfl rfl ?_
                        refine r_getr c340_223 (by first | assumption | omega) (by decide) (by first | assumption | rfl) rfl rfl ?_
                        refine r_bipush c340_226 rfl ?_
                        refine r_iload_n c340_228 rfl rfl ?_
                        refine r_iadd c340_229 (by first | exact q_w32_id (by omega) (by omega) | exact q_w32w _ | exact rfl) rfl ?_
                        refine r_lconst c340_230 rfl ?_
                        refine r_last c340_231 (by first | assumption | omega) (by decide) (by first | assumption | rfl) (by first | assumption | decide) (by first | exact q_w32_id (by omega) (by omega) | exact q_w32w _ | exact rfl) (by first | assumption | omega) (by first | assumption | omega) rfl ?_
                        refine r_iconst c340_232 rfl ?_
                        exact r_zret c340_233 ⟨rfl, rfl, rfl⟩ (by decide) ⟨rfl, ⟨_, rfl, (by decide)⟩, (by repeat (first | exact q_Gr.rf | refine q_Gr.ud ?_ (by omega) (by first | assumption | rfl) rfl (by first | exact ⟨fun h9 => absurd h9 (by decide), fun h9 => absurd h9 (by decide)⟩ | (constructor <;> (intro h9; omega))) | refine q_Gr.udz ?_ (by omega) (by first | assumption | decide | omega) (by first | exact ⟨fun h9 => absurd h9 (by decide), fun h9 => absurd h9 (by decide)⟩ | (constructor <;> (intro h9; omega))) | refine q_Gr.tr ?_ (by assumption) (by intro k9 j9 hk9; omega)))⟩
                · intro b189
                  refine r_if_gt c340_177 rfl (show q_w32 (1) = 1 from rfl) ?_ ?_
                  · intro b206
                    refine r_aload_n c340_190 rfl rfl ?_
                    refine r_getr c340_191 (by first | assumption | omega) (by decide) (by first | assumption | rfl) rfl rfl ?_
                    refine r_bipush c340_194 rfl ?_
                    refine r_iload_n c340_196 rfl rfl ?_
                    refine r_iadd c340_197 (by first | exact q_w32_id (by omega) (by omega) | exact q_w32w _ | exact rfl) rfl ?_
                    refine r_laldw (q_Gr.rb (S := fun k j => k = 140 ∧ (26 ≤ j ∧ j ≤ 61 ∧ ¬(47 ≤ j ∧ j ≤ 49))) hR (by repeat (first | exact q_Gr.rf | refine q_Gr.ud ?_ (by omega) (by first | assumption | rfl) rfl (by first | exact ⟨fun h9 => absurd h9 (by decide), fun h9 => absurd h9 (by decide)⟩ | (constructor <;> (intro h9; omega))) | refine q_Gr.udz ?_ (by omega) (by first | assumption | decide | omega) (by first | exact ⟨fun h9 => absurd h9 (by decide), fun h9 => absurd h9 (by decide)⟩ | (constructor <;> (intro h9; omega))) | refine q_Gr.tr ?_ (by assumption) (by intro k9 j9 hk9; omega)))) c340_198 (by first | exact q_w32_id (by omega) (by omega) | exact q_w32w _ | exact rfl) (by first | assumption | omega) (by first | assumption | omega) rfl ?_
                    intro y207
                    refine r_aload_n c340_199 rfl rfl ?_
                    refine r_getr c340_200 (by first | assumption | omega) (by decide) (by first | assumption | rfl) rfl rfl ?_
                    refine r_bipush c340_203 rfl ?_
                    refine r_iload_n c340_205 rfl rfl ?_
                    refine r_iadd c340_206 (by first | exact q_w32_id (by omega) (by omega) | exact q_w32w _ | exact rfl) rfl ?_
                    refine r_laldw (q_Gr.rb (S := fun k j => k = 140 ∧ (26 ≤ j ∧ j ≤ 61 ∧ ¬(47 ≤ j ∧ j ≤ 49))) hR (by repeat (first | exact q_Gr.rf | refine q_Gr.ud ?_ (by omega) (by first | assumption | rfl) rfl (by first | exact ⟨fun h9 => absurd h9 (by decide), fun h9 => absurd h9 (by decide)⟩ | (constructor <;> (intro h9; omega))) | refine q_Gr.udz ?_ (by omega) (by first | assumption | decide | omega) (by first | exact ⟨fun h9 => absurd h9 (by decide), fun h9 => absurd h9 (by decide)⟩ | (constructor <;> (intro h9; omega))) | refine q_Gr.tr ?_ (by assumption) (by intro k9 j9 hk9; omega)))) c340_207 (by first | exact q_w32_id (by omega) (by omega) | exact q_w32w _ | exact rfl) (by first | assumption | omega) (by first | assumption | omega) rfl ?_
                    intro y208
                    refine r_aload_n c340_208 rfl rfl ?_
                    refine r_getr c340_209 (by first | assumption | omega) (by decide) (by first | assumption | rfl) rfl rfl ?_
                    refine r_bipush c340_212 rfl ?_
                    refine r_iload_n c340_214 rfl rfl ?_
                    refine r_iadd c340_215 (by first | exact q_w32_id (by omega) (by omega) | exact q_w32w _ | exact rfl) rfl ?_
                    refine r_laldw (q_Gr.rb (S := fun k j => k = 140 ∧ (26 ≤ j ∧ j ≤ 61 ∧ ¬(47 ≤ j ∧ j ≤ 49))) hR (by repeat (first | exact q_Gr.rf | refine q_Gr.ud ?_ (by omega) (by first | assumption | rfl) rfl (by first | exact ⟨fun h9 => absurd h9 (by decide), fun h9 => absurd h9 (by decide)⟩ | (constructor <;> (intro h9; omega))) | refine q_Gr.udz ?_ (by omega) (by first | assumption | decide | omega) (by first | exact ⟨fun h9 => absurd h9 (by decide), fun h9 => absurd h9 (by decide)⟩ | (constructor <;> (intro h9; omega))) | refine q_Gr.tr ?_ (by assumption) (by intro k9 j9 hk9; omega)))) c340_216 (by first | exact q_w32_id (by omega) (by omega) | exact q_w32w _ | exact rfl) (by first | assumption | omega) (by first | assumption | omega) rfl ?_
                    intro y209
                    refine r_ladd c340_217 rfl rfl ?_
                    refine r_lcmpn c340_218 rfl (by first | exact q_w64_id (by omega) (by omega) | exact rfl) (by first | exact q_w64_id (by omega) (by omega) | exact rfl) ?_ ?_ ?_
                    · intro b210
                      refine r_if_le c340_219 rfl (show q_w32 (-1) = -1 from rfl) ?_ ?_
                      · intro b211
                        refine r_iconst c340_232 rfl ?_
                        exact r_zret c340_233 ⟨rfl, rfl, rfl⟩ (by decide) ⟨rfl, ⟨_, rfl, (by decide)⟩, (by repeat (first | exact q_Gr.rf | refine q_Gr.ud ?_ (by omega) (by first | assumption | rfl) rfl (by first | exact ⟨fun h9 => absurd h9 (by decide), fun h9 => absurd h9 (by decide)⟩ | (constructor <;> (intro h9; omega))) | refine q_Gr.udz ?_ (by omega) (by first | assumption | decide | omega) (by first | exact ⟨fun h9 => absurd h9 (by decide), fun h9 => absurd h9 (by decide)⟩ | (constructor <;> (intro h9; omega))) | refine q_Gr.tr ?_ (by assumption) (by intro k9 j9 hk9; omega)))⟩
                      · intro b211
                        exact absurd b211.1 (by decide)
                    · intro b210
                      refine r_if_le c340_219 rfl (show q_w32 (0) = 0 from rfl) ?_ ?_
                      · intro b212
                        refine r_iconst c340_232 rfl ?_
                        exact r_zret c340_233 ⟨rfl, rfl, rfl⟩ (by decide) ⟨rfl, ⟨_, rfl, (by decide)⟩, (by repeat (first | exact q_Gr.rf | refine q_Gr.ud ?_ (by omega) (by first | assumption | rfl) rfl (by first | exact ⟨fun h9 => absurd h9 (by decide), fun h9 => absurd h9 (by decide)⟩ | (constructor <;> (intro h9; omega))) | refine q_Gr.udz ?_ (by omega) (by first | assumption | decide | omega) (by first | exact ⟨fun h9 => absurd h9 (by decide), fun h9 => absurd h9 (by decide)⟩ | (constructor <;> (intro h9; omega))) | refine q_Gr.tr ?_ (by assumption) (by intro k9 j9 hk9; omega)))⟩
                      · intro b212
                        exact absurd b212.1 (by decide)
                    · intro b210
                      refine r_if_le c340_219 rfl (show q_w32 (1) = 1 from rfl) ?_ ?_
                      · intro b213
                        exact absurd b213.1 (by decide)
                      · intro b213
                        refine r_aload_n c340_222 rfl rfl ?_
                        refine r_getr c340_223 (by first | assumption | omega) (by decide) (by first | assumption | rfl) rfl rfl ?_
                        refine r_bipush c340_226 rfl ?_
                        refine r_iload_n c340_228 rfl rfl ?_
                        refine r_iadd c340_229 (by first | exact q_w32_id (by omega) (by omega) | exact q_w32w _ | exact rfl) rfl ?_
                        refine r_lconst c340_230 rfl ?_
                        refine r_last c340_231 (by first | assumption | omega) (by decide) (by first | assumption | rfl) (by first | assumption | decide) (by first | exact q_w32_id (by omega) (by omega) | exact q_w32w _ | exact rfl) (by first | assumption | omega) (by first | assumption | omega) rfl ?_
                        refine r_iconst c340_232 rfl ?_
                        exact r_zret c340_233 ⟨rfl, rfl, rfl⟩ (by decide) ⟨rfl, ⟨_, rfl, (by decide)⟩, (by repeat (first | exact q_Gr.rf | refine q_Gr.ud ?_ (by omega) (by first | assumption | rfl) rfl (by first | exact ⟨fun h9 => absurd h9 (by decide), fun h9 => absurd h9 (by decide)⟩ | (constructor <;> (intro h9; omega))) | refine q_Gr.udz ?_ (by omega) (by first | assumption | decide | omega) (by first | exact ⟨fun h9 => absurd h9 (by decide), fun h9 => absurd h9 (by decide)⟩ | (constructor <;> (intro h9; omega))) | refine q_Gr.tr ?_ (by assumption) (by intro k9 j9 hk9; omega)))⟩
                  · intro b206
                    exact absurd b206.1 (by decide)
              · intro b185
                exact absurd b185.1 (by decide)
          · intro b151
            exact absurd b151.1 (by decide)
        · intro b148
          refine r_if_eq c340_95 rfl (show q_w32 (1) = 1 from rfl) ?_ ?_
          · intro b214
            exact absurd b214.1 (by decide)
          · intro b214
            refine r_aload_n c340_98 rfl rfl ?_
            refine r_getr c340_99 (by first | assumption | omega) (by decide) (by first | assumption | rfl) rfl rfl ?_
            refine r_bipush c340_102 rfl ?_
            refine r_iload_n c340_104 rfl rfl ?_
            refine r_iadd c340_105 (by first | exact q_w32_id (by omega) (by omega) | exact q_w32w _ | exact rfl) rfl ?_
            refine r_dup2 c340_106 rfl rfl rfl ?_
            refine r_laldw (q_Gr.rb (S := fun k j => k = 140 ∧ (26 ≤ j ∧ j ≤ 61 ∧ ¬(47 ≤ j ∧ j ≤ 49))) hR (by repeat (first | exact q_Gr.rf | refine q_Gr.ud ?_ (by omega) (by first | assumption | rfl) rfl (by first | exact ⟨fun h9 => absurd h9 (by decide), fun h9 => absurd h9 (by decide)⟩ | (constructor <;> (intro h9; omega))) | refine q_Gr.udz ?_ (by omega) (by first | assumption | decide | omega) (by first | exact ⟨fun h9 => absurd h9 (by decide), fun h9 => absurd h9 (by decide)⟩ | (constructor <;> (intro h9; omega))) | refine q_Gr.tr ?_ (by assumption) (by intro k9 j9 hk9; omega)))) c340_107 (by first | exact q_w32_id (by omega) (by omega) | exact q_w32w _ | exact rfl) (by first | assumption | omega) (by first | assumption | omega) rfl ?_
            intro y215
            refine r_iload_n c340_108 rfl rfl ?_
            refine r_i2l c340_109 (by first | exact q_w32_id (by omega) (by omega) | exact q_w32w _ | exact rfl) rfl ?_
            refine r_ladd c340_110 rfl rfl ?_
            refine r_last c340_111 (by first | assumption | omega) (by decide) (by first | assumption | rfl) (by first | assumption | decide) (by first | exact q_w32_id (by omega) (by omega) | exact q_w32w _ | exact rfl) (by first | assumption | omega) (by first | assumption | omega) rfl ?_
            refine r_iconst c340_112 rfl ?_
            exact r_zret c340_113 ⟨rfl, rfl, rfl⟩ (by decide) ⟨rfl, ⟨_, rfl, (by decide)⟩, (by repeat (first | exact q_Gr.rf | refine q_Gr.ud ?_ (by omega) (by first | assumption | rfl) rfl (by first | exact ⟨fun h9 => absurd h9 (by decide), fun h9 => absurd h9 (by decide)⟩ | (constructor <;> (intro h9; omega))) | refine q_Gr.udz ?_ (by omega) (by first | assumption | decide | omega) (by first | exact ⟨fun h9 => absurd h9 (by decide), fun h9 => absurd h9 (by decide)⟩ | (constructor <;> (intro h9; omega))) | refine q_Gr.tr ?_ (by assumption) (by intro k9 j9 hk9; omega)))⟩
      · intro b146
        refine r_aload_n c340_69 rfl rfl ?_
        refine r_getr c340_70 (by first | assumption | omega) (by decide) (by first | assumption | rfl) rfl rfl ?_
        refine r_bipush c340_73 rfl ?_
        refine r_iload_n c340_75 rfl rfl ?_
        refine r_iadd c340_76 (by first | exact q_w32_id (by omega) (by omega) | exact q_w32w _ | exact rfl) rfl ?_
        refine r_laldw (q_Gr.rb (S := fun k j => k = 140 ∧ (26 ≤ j ∧ j ≤ 61 ∧ ¬(47 ≤ j ∧ j ≤ 49))) hR (by repeat (first | exact q_Gr.rf | refine q_Gr.ud ?_ (by omega) (by first | assumption | rfl) rfl (by first | exact ⟨fun h9 => absurd h9 (by decide), fun h9 => absurd h9 (by decide)⟩ | (constructor <;> (intro h9; omega))) | refine q_Gr.udz ?_ (by omega) (by first | assumption | decide | omega) (by first | exact ⟨fun h9 => absurd h9 (by decide), fun h9 => absurd h9 (by decide)⟩ | (constructor <;> (intro h9; omega))) | refine q_Gr.tr ?_ (by assumption) (by intro k9 j9 hk9; omega)))) c340_77 (by first | exact q_w32_id (by omega) (by omega) | exact q_w32w _ | exact rfl) (by first | assumption | omega) (by first | assumption | omega) rfl ?_
        intro y216
        refine r_goto c340_78 ?_
        refine r_lstore c340_82 (lo' := [(5, _), (3, _), (0, _), (1, _), (2, _)]) rfl rfl rfl ?_
        refine r_aload_n c340_84 rfl rfl ?_
        refine r_getr c340_85 (by first | assumption | omega) (by decide) (by first | assumption | rfl) rfl rfl ?_
        refine r_bipush c340_88 rfl ?_
        refine r_iload_n c340_90 rfl rfl ?_
        refine r_iadd c340_91 (by first | exact q_w32_id (by omega) (by omega) | exact q_w32w _ | exact rfl) rfl ?_
        refine r_laldw (q_Gr.rb (S := fun k j => k = 140 ∧ (26 ≤ j ∧ j ≤ 61 ∧ ¬(47 ≤ j ∧ j ≤ 49))) hR (by repeat (first | exact q_Gr.rf | refine q_Gr.ud ?_ (by omega) (by first | assumption | rfl) rfl (by first | exact ⟨fun h9 => absurd h9 (by decide), fun h9 => absurd h9 (by decide)⟩ | (constructor <;> (intro h9; omega))) | refine q_Gr.udz ?_ (by omega) (by first | assumption | decide | omega) (by first | exact ⟨fun h9 => absurd h9 (by decide), fun h9 => absurd h9 (by decide)⟩ | (constructor <;> (intro h9; omega))) | refine q_Gr.tr ?_ (by assumption) (by intro k9 j9 hk9; omega)))) c340_92 (by first | exact q_w32_id (by omega) (by omega) | exact q_w32w _ | exact rfl) (by first | assumption | omega) (by first | assumption | omega) rfl ?_
        intro y217
        refine r_lload_n c340_93 rfl rfl ?_
        refine r_lcmpn c340_94 rfl (by first | exact q_w64_id (by omega) (by omega) | exact rfl) (by first | exact q_w64_id (by omega) (by omega) | exact rfl) ?_ ?_ ?_
        · intro b218
          refine r_if_eq c340_95 rfl (show q_w32 (-1) = -1 from rfl) ?_ ?_
          · intro b219
            exact absurd b219.1 (by decide)
          · intro b219
            refine r_aload_n c340_98 rfl rfl ?_
            refine r_getr c340_99 (by first | assumption | omega) (by decide) (by first | assumption | rfl) rfl rfl ?_
            refine r_bipush c340_102 rfl ?_
            refine r_iload_n c340_104 rfl rfl ?_
            refine r_iadd c340_105 (by first | exact q_w32_id (by omega) (by omega) | exact q_w32w _ | exact rfl) rfl ?_
            refine r_dup2 c340_106 rfl rfl rfl ?_
            refine r_laldw (q_Gr.rb (S := fun k j => k = 140 ∧ (26 ≤ j ∧ j ≤ 61 ∧ ¬(47 ≤ j ∧ j ≤ 49))) hR (by repeat (first | exact q_Gr.rf | refine q_Gr.ud ?_ (by omega) (by first | assumption | rfl) rfl (by first | exact ⟨fun h9 => absurd h9 (by decide), fun h9 => absurd h9 (by decide)⟩ | (constructor <;> (intro h9; omega))) | refine q_Gr.udz ?_ (by omega) (by first | assumption | decide | omega) (by first | exact ⟨fun h9 => absurd h9 (by decide), fun h9 => absurd h9 (by decide)⟩ | (constructor <;> (intro h9; omega))) | refine q_Gr.tr ?_ (by assumption) (by intro k9 j9 hk9; omega)))) c340_107 (by first | exact q_w32_id (by omega) (by omega) | exact q_w32w _ | exact rfl) (by first | assumption | omega) (by first | assumption | omega) rfl ?_
            intro y220
            refine r_iload_n c340_108 rfl rfl ?_
            refine r_i2l c340_109 (by first | exact q_w32_id (by omega) (by omega) | exact q_w32w _ | exact rfl) rfl ?_
            refine r_ladd c340_110 rfl rfl ?_
            refine r_last c340_111 (by first | assumption | omega) (by decide) (by first | assumption | rfl) (by first | assumption | decide) (by first | exact q_w32_id (by omega) (by omega) | exact q_w32w _ | exact rfl) (by first | assumption | omega) (by first | assumption | omega) rfl ?_
            refine r_iconst c340_112 rfl ?_
            exact r_zret c340_113 ⟨rfl, rfl, rfl⟩ (by decide) ⟨rfl, ⟨_, rfl, (by decide)⟩, (by repeat (first | exact q_Gr.rf | refine q_Gr.ud ?_ (by omega) (by first | assumption | rfl) rfl (by first | exact ⟨fun h9 => absurd h9 (by decide), fun h9 => absurd h9 (by decide)⟩ | (constructor <;> (intro h9; omega))) | refine q_Gr.udz ?_ (by omega) (by first | assumption | decide | omega) (by first | exact ⟨fun h9 => absurd h9 (by decide), fun h9 => absurd h9 (by decide)⟩ | (constructor <;> (intro h9; omega))) | refine q_Gr.tr ?_ (by assumption) (by intro k9 j9 hk9; omega)))⟩
        · intro b218
          refine r_if_eq c340_95 rfl (show q_w32 (0) = 0 from rfl) ?_ ?_
          · intro b221
            refine r_aload_n c340_114 rfl rfl ?_
            refine r_getr c340_115 (by first | assumption | omega) (by decide) (by first | assumption | rfl) rfl rfl ?_
            refine r_bipush c340_118 rfl ?_
            refine r_iload_n c340_120 rfl rfl ?_
            refine r_iadd c340_121 (by first | exact q_w32_id (by omega) (by omega) | exact q_w32w _ | exact rfl) rfl ?_
            refine r_laldw (q_Gr.rb (S := fun k j => k = 140 ∧ (26 ≤ j ∧ j ≤ 61 ∧ ¬(47 ≤ j ∧ j ≤ 49))) hR (by repeat (first | exact q_Gr.rf | refine q_Gr.ud ?_ (by omega) (by first | assumption | rfl) rfl (by first | exact ⟨fun h9 => absurd h9 (by decide), fun h9 => absurd h9 (by decide)⟩ | (constructor <;> (intro h9; omega))) | refine q_Gr.udz ?_ (by omega) (by first | assumption | decide | omega) (by first | exact ⟨fun h9 => absurd h9 (by decide), fun h9 => absurd h9 (by decide)⟩ | (constructor <;> (intro h9; omega))) | refine q_Gr.tr ?_ (by assumption) (by intro k9 j9 hk9; omega)))) c340_122 (by first | exact q_w32_id (by omega) (by omega) | exact q_w32w _ | exact rfl) (by first | assumption | omega) (by first | assumption | omega) rfl ?_
            intro y222
            refine r_lload c340_123 rfl rfl ?_
            refine r_lcmpn c340_125 rfl (by first | exact q_w64_id (by omega) (by omega) | exact rfl) (by first | exact q_w64_id (by omega) (by omega) | exact rfl) ?_ ?_ ?_
            · intro b223
              refine r_if_ne c340_126 rfl (show q_w32 (-1) = -1 from rfl) ?_ ?_
              · intro b224
                refine r_aload_n c340_144 rfl rfl ?_
                refine r_getr c340_145 (by first | assumption | omega) (by decide) (by first | assumption | rfl) rfl rfl ?_
                refine r_bipush c340_148 rfl ?_
                refine r_iload_n c340_150 rfl rfl ?_
                refine r_iadd c340_151 (by first | exact q_w32_id (by omega) (by omega) | exact q_w32w _ | exact rfl) rfl ?_
                refine r_dup2 c340_152 rfl rfl rfl ?_
                refine r_laldw (q_Gr.rb (S := fun k j => k = 140 ∧ (26 ≤ j ∧ j ≤ 61 ∧ ¬(47 ≤ j ∧ j ≤ 49))) hR (by repeat (first | exact q_Gr.rf | refine q_Gr.ud ?_ (by omega) (by first | assumption | rfl) rfl (by first | exact ⟨fun h9 => absurd h9 (by decide), fun h9 => absurd h9 (by decide)⟩ | (constructor <;> (intro h9; omega))) | refine q_Gr.udz ?_ (by omega) (by first | assumption | decide | omega) (by first | exact ⟨fun h9 => absurd h9 (by decide), fun h9 => absurd h9 (by decide)⟩ | (constructor <;> (intro h9; omega))) | refine q_Gr.tr ?_ (by assumption) (by intro k9 j9 hk9; omega)))) c340_153 (by first | exact q_w32_id (by omega) (by omega) | exact q_w32w _ | exact rfl) (by first | assumption | omega) (by first | assumption | omega) rfl ?_
                intro y225
                refine r_iload_n c340_154 rfl rfl ?_
                refine r_i2l c340_155 (by first | exact q_w32_id (by omega) (by omega) | exact q_w32w _ | exact rfl) rfl ?_
                refine r_ladd c340_156 rfl rfl ?_
                refine r_last c340_157 (by first | assumption | omega) (by decide) (by first | assumption | rfl) (by first | assumption | decide) (by first | exact q_w32_id (by omega) (by omega) | exact q_w32w _ | exact rfl) (by first | assumption | omega) (by first | assumption | omega) rfl ?_
                refine r_aload_n c340_158 rfl rfl ?_
                refine r_getr c340_159 (by first | assumption | omega) (by decide) (by first | assumption | rfl) rfl rfl ?_
                refine r_bipush c340_162 rfl ?_
                refine r_iload_n c340_164 rfl rfl ?_
                refine r_iadd c340_165 (by first | exact q_w32_id (by omega) (by omega) | exact q_w32w _ | exact rfl) rfl ?_
                refine r_laldw (q_Gr.rb (S := fun k j => k = 140 ∧ (26 ≤ j ∧ j ≤ 61 ∧ ¬(47 ≤ j ∧ j ≤ 49))) hR (by repeat (first | exact q_Gr.rf | refine q_Gr.ud ?_ (by omega) (by first | assumption | rfl) rfl (by first | exact ⟨fun h9 => absurd h9 (by decide), fun h9 => absurd h9 (by decide)⟩ | (constructor <;> (intro h9; omega))) | refine q_Gr.udz ?_ (by omega) (by first | assumption | decide | omega) (by first | exact ⟨fun h9 => absurd h9 (by decide), fun h9 => absurd h9 (by decide)⟩ | (constructor <;> (intro h9; omega))) | refine q_Gr.tr ?_ (by assumption) (by intro k9 j9 hk9; omega)))) c340_166 (by first | exact q_w32_id (by omega) (by omega) | exact q_w32w _ | exact rfl) (by first | assumption | omega) (by first | assumption | omega) rfl ?_
                intro y226
                refine r_aload_n c340_167 rfl rfl ?_
                refine r_getr c340_168 (by first | assumption | omega) (by decide) (by first | assumption | rfl) rfl rfl ?_
                refine r_bipush c340_171 rfl ?_
                refine r_iload_n c340_173 rfl rfl ?_
                refine r_iadd c340_174 (by first | exact q_w32_id (by omega) (by omega) | exact q_w32w _ | exact rfl) rfl ?_
                refine r_laldw (q_Gr.rb (S := fun k j => k = 140 ∧ (26 ≤ j ∧ j ≤ 61 ∧ ¬(47 ≤ j ∧ j ≤ 49))) hR (by repeat (first | exact q_Gr.rf | refine q_Gr.ud ?_ (by omega) (by first | assumption | rfl) rfl (by first | exact ⟨fun h9 => absurd h9 (by decide), fun h9 => absurd h9 (by decide)⟩ | (constructor <;> (intro h9; omega))) | refine q_Gr.udz ?_ (by omega) (by first | assumption | decide | omega) (by first | exact ⟨fun h9 => absurd h9 (by decide), fun h9 => absurd h9 (by decide)⟩ | (constructor <;> (intro h9; omega))) | refine q_Gr.tr ?_ (by assumption) (by intro k9 j9 hk9; omega)))) c340_175 (by first | exact q_w32_id (by omega) (by omega) | exact q_w32w _ | exact rfl) (by first | assumption | omega) (by first | assumption | omega) rfl ?_
                intro y227
                refine r_lcmpn c340_176 rfl (by first | exact q_w64_id (by omega) (by omega) | exact rfl) (by first | exact q_w64_id (by omega) (by omega) | exact rfl) ?_ ?_ ?_
                · intro b228
                  refine r_if_gt c340_177 rfl (show q_w32 (-1) = -1 from rfl) ?_ ?_
                  · intro b229
                    exact absurd b229.1 (by decide)
                  · intro b229
                    refine r_aload_n c340_180 rfl rfl ?_
                    refine r_getr c340_181 (by first | assumption | omega) (by decide) (by first | assumption | rfl) rfl rfl ?_
                    refine r_bipush c340_184 rfl ?_
                    refine r_iload_n c340_186 rfl rfl ?_
                    refine r_iadd c340_187 (by first | exact q_w32_id (by omega) (by omega) | exact q_w32w _ | exact rfl) rfl ?_
                    refine r_lconst c340_188 rfl ?_
                    refine r_last c340_189 (by first | assumption | omega) (by decide) (by first | assumption | rfl) (by first | assumption | decide) (by first | exact q_w32_id (by omega) (by omega) | exact q_w32w _ | exact rfl) (by first | assumption | omega) (by first | assumption | omega) rfl ?_
                    refine r_aload_n c340_190 rfl rfl ?_
                    refine r_getr c340_191 (by first | assumption | omega) (by decide) (by first | assumption | rfl) rfl rfl ?_
                    refine r_bipush c340_194 rfl ?_
                    refine r_iload_n c340_196 rfl rfl ?_
                    refine r_iadd c340_197 (by first | exact q_w32_id (by omega) (by omega) | exact q_w32w _ | exact rfl) rfl ?_
                    refine r_laldw (q_Gr.rb (S := fun k j => k = 140 ∧ (26 ≤ j ∧ j ≤ 61 ∧ ¬(47 ≤ j ∧ j ≤ 49))) hR (by repeat (first | exact q_Gr.rf | refine q_Gr.ud ?_ (by omega) (by first | assumption | rfl) rfl (by first | exact ⟨fun h9 => absurd h9 (by decide), fun h9 => absurd h9 (by decide)⟩ | (constructor <;> (intro h9; omega))) | refine q_Gr.udz ?_ (by omega) (by first | assumption | decide | omega) (by first | exact ⟨fun h9 => absurd h9 (by decide), fun h9 => absurd h9 (by decide)⟩ | (constructor <;> (intro h9; omega))) | refine q_Gr.tr ?_ (by assumption) (by intro k9 j9 hk9; omega)))) c340_198 (by first | exact q_w32_id (by omega) (by omega) | exact q_w32w _ | exact rfl) (by first | assumption | omega) (by first | assumption | omega) rfl ?_
                    intro y230
                    refine r_aload_n c340_199 rfl rfl ?_
                    refine r_getr c340_200 (by first | assumption | omega) (by decide) (by first | assumption | rfl) rfl rfl ?_
                    refine r_bipush c340_203 rfl ?_
                    refine r_iload_n c340_205 rfl rfl ?_
                    refine r_iadd c340_206 (by first | exact q_w32_id (by omega) (by omega) | exact q_w32w _ | exact rfl) rfl ?_
                    refine r_laldw (q_Gr.rb (S := fun k j => k = 140 ∧ (26 ≤ j ∧ j ≤ 61 ∧ ¬(47 ≤ j ∧ j ≤ 49))) hR (by repeat (first | exact q_Gr.rf | refine q_Gr.ud ?_ (by omega) (by first | assumption | rfl) rfl (by first | exact ⟨fun h9 => absurd h9 (by decide), fun h9 => absurd h9 (by decide)⟩ | (constructor <;> (intro h9; omega))) | refine q_Gr.udz ?_ (by omega) (by first | assumption | decide | omega) (by first | exact ⟨fun h9 => absurd h9 (by decide), fun h9 => absurd h9 (by decide)⟩ | (constructor <;> (intro h9; omega))) | refine q_Gr.tr ?_ (by assumption) (by intro k9 j9 hk9; omega)))) c340_207 (by first | exact q_w32_id (by omega) (by omega) | exact q_w32w _ | exact rfl) (by first | assumption | omega) (by first | assumption | omega) rfl ?_
                    intro y231
                    refine r_aload_n c340_208 rfl rfl ?_
                    refine r_getr c340_209 (by first | assumption | omega) (by decide) (by first | assumption | rfl) rfl rfl ?_
                    refine r_bipush c340_212 rfl ?_
                    refine r_iload_n c340_214 rfl rfl ?_
                    refine r_iadd c340_215 (by first | exact q_w32_id (by omega) (by omega) | exact q_w32w _ | exact rfl) rfl ?_
                    refine r_laldw (q_Gr.rb (S := fun k j => k = 140 ∧ (26 ≤ j ∧ j ≤ 61 ∧ ¬(47 ≤ j ∧ j ≤ 49))) hR (by repeat (first | exact q_Gr.rf | refine q_Gr.ud ?_ (by omega) (by first | assumption | rfl) rfl (by first | exact ⟨fun h9 => absurd h9 (by decide), fun h9 => absurd h9 (by decide)⟩ | (constructor <;> (intro h9; omega))) | refine q_Gr.udz ?_ (by omega) (by first | assumption | decide | omega) (by first | exact ⟨fun h9 => absurd h9 (by decide), fun h9 => absurd h9 (by decide)⟩ | (constructor <;> (intro h9; omega))) | refine q_Gr.tr ?_ (by assumption) (by intro k9 j9 hk9; omega)))) c340_216 (by first | exact q_w32_id (by omega) (by omega) | exact q_w32w _ | exact rfl) (by first | assumption | omega) (by first | assumption | omega) rfl ?_
                    intro y232
                    refine r_ladd c340_217 rfl rfl ?_
                    refine r_lcmpn c340_218 rfl (by first | exact q_w64_id (by omega) (by omega) | exact rfl) (by first | exact q_w64_id (by omega) (by omega) | exact rfl) ?_ ?_ ?_
                    · intro b233
                      refine r_if_le c340_219 rfl (show q_w32 (-1) = -1 from rfl) ?_ ?_
                      · intro b234
                        refine r_iconst c340_232 rfl ?_
                        exact r_zret c340_233 ⟨rfl, rfl, rfl⟩ (by decide) ⟨rfl, ⟨_, rfl, (by decide)⟩, (by repeat (first | exact q_Gr.rf | refine q_Gr.ud ?_ (by omega) (by first | assumption | rfl) rfl (by first | exact ⟨fun h9 => absurd h9 (by decide), fun h9 => absurd h9 (by decide)⟩ | (constructor <;> (intro h9; omega))) | refine q_Gr.udz ?_ (by omega) (by first | assumption | decide | omega) (by first | exact ⟨fun h9 => absurd h9 (by decide), fun h9 => absurd h9 (by decide)⟩ | (constructor <;> (intro h9; omega))) | refine q_Gr.tr ?_ (by assumption) (by intro k9 j9 hk9; omega)))⟩
                      · intro b234
                        exact absurd b234.1 (by decide)
                    · intro b233
                      refine r_if_le c340_219 rfl (show q_w32 (0) = 0 from rfl) ?_ ?_
                      · intro b235
                        refine r_iconst c340_232 rfl ?_
                        exact r_zret c340_233 ⟨rfl, rfl, rfl⟩ (by decide) ⟨rfl, ⟨_, rfl, (by decide)⟩, (by repeat (first | exact q_Gr.rf | refine q_Gr.ud ?_ (by omega) (by first | assumption | rfl) rfl (by first | exact ⟨fun h9 => absurd h9 (by decide), fun h9 => absurd h9 (by decide)⟩ | (constructor <;> (intro h9; omega))) | refine q_Gr.udz ?_ (by omega) (by first | assumption | decide | omega) (by first | exact ⟨fun h9 => absurd h9 (by decide), fun h9 => absurd h9 (by decide)⟩ | (constructor <;> (intro h9; omega))) | refine q_Gr.tr ?_ (by assumption) (by intro k9 j9 hk9; omega)))⟩
                      · intro b235
                        exact absurd b235.1 (by decide)
                    · intro b233
                      refine r_if_le c340_219 rfl (show q_w32 (1) = 1 from rfl) ?_ ?_
                      · intro b236
                        exact absurd b236.1 (by decide)
                      · intro b236
                        refine r_aload_n c340_222 rfl rfl ?_
                        refine r_getr c340_223 (by first | assumption | omega) (by decide) (by first | assumption | rfl) rfl rfl ?_
                        refine r_bipush c340_226 rfl ?_
                        refine r_iload_n c340_228 rfl rfl ?_
                        refine r_iadd c340_229 (by first | exact q_w32_id (by omega) (by omega) | exact q_w32w _ | exact rfl) rfl ?_
                        refine r_lconst c340_230 rfl ?_
                        refine r_last c340_231 (by first | assumption | omega) (by decide) (by first | assumption | rfl) (by first | assumption | decide) (by first | exact q_w32_id (by omega) (by omega) | exact q_w32w _ | exact rfl) (by first | assumption | omega) (by first | assumption | omega) rfl ?_
                        refine r_iconst c340_232 rfl ?_
                        exact r_zret c340_233 ⟨rfl, rfl, rfl⟩ (by decide) ⟨rfl, ⟨_, rfl, (by decide)⟩, (by repeat (first | exact q_Gr.rf | refine q_Gr.ud ?_ (by omega) (by first | assumption | rfl) rfl (by first | exact ⟨fun h9 => absurd h9 (by decide), fun h9 => absurd h9 (by decide)⟩ | (constructor <;> (intro h9; omega))) | refine q_Gr.udz ?_ (by omega) (by first | assumption | decide | omega) (by first | exact ⟨fun h9 => absurd h9 (by decide), fun h9 => absurd h9 (by decide)⟩ | (constructor <;> (intro h9; omega))) | refine q_Gr.tr ?_ (by assumption) (by intro k9 j9 hk9; omega)))⟩
                · intro b228
                  refine r_if_gt c340_177 rfl (show q_w32 (0) = 0 from rfl) ?_ ?_
                  · intro b237
                    exact absurd b237.1 (by decide)
                  · intro b237
                    refine r_aload_n c340_180 rfl rfl ?_
                    refine r_getr c340_181 (by first | assumption | omega) (by decide) (by first | assumption | rfl) rfl rfl ?_
                    refine r_bipush c340_184 rfl ?_
                    refine r_iload_n c340_186 rfl rfl ?_
                    refine r_iadd c340_187 (by first | exact q_w32_id (by omega) (by omega) | exact q_w32w _ | exact rfl) rfl ?_
                    refine r_lconst c340_188 rfl ?_
                    refine r_last c340_189 (by first | assumption | omega) (by decide) (by first | assumption | rfl) (by first | assumption | decide) (by first | exact q_w32_id (by omega) (by omega) | exact q_w32w _ | exact rfl) (by first | assumption | omega) (by first | assumption | omega) rfl ?_
                    refine r_aload_n c340_190 rfl rfl ?_
                    refine r_getr c340_191 (by first | assumption | omega) (by decide) (by first | assumption | rfl) rfl rfl ?_
                    refine r_bipush c340_194 rfl ?_
                    refine r_iload_n c340_196 rfl rfl ?_
                    refine r_iadd c340_197 (by first | exact q_w32_id (by omega) (by omega) | exact q_w32w _ | exact rfl) rfl ?_
                    refine r_laldw (q_Gr.rb (S := fun k j => k = 140 ∧ (26 ≤ j ∧ j ≤ 61 ∧ ¬(47 ≤ j ∧ j ≤ 49))) hR (by repeat (first | exact q_Gr.rf | refine q_Gr.ud ?_ (by omega) (by first | assumption | rfl) rfl (by first | exact ⟨fun h9 => absurd h9 (by decide), fun h9 => absurd h9 (by decide)⟩ | (constructor <;> (intro h9; omega))) | refine q_Gr.udz ?_ (by omega) (by first | assumption | decide | omega) (by first | exact ⟨fun h9 => absurd h9 (by decide), fun h9 => absurd h9 (by decide)⟩ | (constructor <;> (intro h9; omega))) | refine q_Gr.tr ?_ (by assumption) (by intro k9 j9 hk9; omega)))) c340_198 (by first | exact q_w32_id (by omega) (by omega) | exact q_w32w _ | exact rfl) (by first | assumption | omega) (by first | assumption | omega) rfl ?_
                    intro y238
                    refine r_aload_n c340_199 rfl rfl ?_
                    refine r_getr c340_200 (by first | assumption | omega) (by decide) (by first | assumption | rfl) rfl rfl ?_
                    refine r_bipush c340_203 rfl ?_
                    refine r_iload_n c340_205 rfl rfl ?_
                    refine r_iadd c340_206 (by first | exact q_w32_id (by omega) (by omega) | exact q_w32w _ | exact rfl) rfl ?_
                    refine r_laldw (q_Gr.rb (S := fun k j => k = 140 ∧ (26 ≤ j ∧ j ≤ 61 ∧ ¬(47 ≤ j ∧ j ≤ 49))) hR (by repeat (first | exact q_Gr.rf | refine q_Gr.ud ?_ (by omega) (by first | assumption | rfl) rfl (by first | exact ⟨fun h9 => absurd h9 (by decide), fun h9 => absurd h9 (by decide)⟩ | (constructor <;> (intro h9; omega))) | refine q_Gr.udz ?_ (by omega) (by first | assumption | decide | omega) (by first | exact ⟨fun h9 => absurd h9 (by decide), fun h9 => absurd h9 (by decide)⟩ | (constructor <;> (intro h9; omega))) | refine q_Gr.tr ?_ (by assumption) (by intro k9 j9 hk9; omega)))) c340_207 (by first | exact q_w32_id (by omega) (by omega) | exact q_w32w _ | exact rfl) (by first | assumption | omega) (by first | assumption | omega) rfl ?_
                    intro y239
                    refine r_aload_n c340_208 rfl rfl ?_
                    refine r_getr c340_209 (by first | assumption | omega) (by decide) (by first | assumption | rfl) rfl rfl ?_
                    refine r_bipush c340_212 rfl ?_
                    refine r_iload_n c340_214 rfl rfl ?_
                    refine r_iadd c340_215 (by first | exact q_w32_id (by omega) (by omega) | exact q_w32w _ | exact rfl) rfl ?_
                    refine r_laldw (q_Gr.rb (S := fun k j => k = 140 ∧ (26 ≤ j ∧ j ≤ 61 ∧ ¬(47 ≤ j ∧ j ≤ 49))) hR (by repeat (first | exact q_Gr.rf | refine q_Gr.ud ?_ (by omega) (by first | assumption | rfl) rfl (by first | exact ⟨fun h9 => absurd h9 (by decide), fun h9 => absurd h9 (by decide)⟩ | (constructor <;> (intro h9; omega))) | refine q_Gr.udz ?_ (by omega) (by first | assumption | decide | omega) (by first | exact ⟨fun h9 => absurd h9 (by decide), fun h9 => absurd h9 (by decide)⟩ | (constructor <;> (intro h9; omega))) | refine q_Gr.tr ?_ (by assumption) (by intro k9 j9 hk9; omega)))) c340_216 (by first | exact q_w32_id (by omega) (by omega) | exact q_w32w _ | exact rfl) (by first | assumption | omega) (by first | assumption | omega) rfl ?_
                    intro y240
                    refine r_ladd c340_217 rfl rfl ?_
                    refine r_lcmpn c340_218 rfl (by first | exact q_w64_id (by omega) (by omega) | exact rfl) (by first | exact q_w64_id (by omega) (by omega) | exact rfl) ?_ ?_ ?_
                    · intro b241
                      refine r_if_le c340_219 rfl (show q_w32 (-1) = -1 from rfl) ?_ ?_
                      · intro b242
                        refine r_iconst c340_232 rfl ?_
                        exact r_zret c340_233 ⟨rfl, rfl, rfl⟩ (by decide) ⟨rfl, ⟨_, rfl, (by decide)⟩, (by repeat (first | exact q_Gr.rf | refine q_Gr.ud ?_ (by omega) (by first | assumption | rfl) rfl (by first | exact ⟨fun h9 => absurd h9 (by decide), fun h9 => absurd h9 (by decide)⟩ | (constructor <;> (intro h9; omega))) | refine q_Gr.udz ?_ (by omega) (by first | assumption | decide | omega) (by first | exact ⟨fun h9 => absurd h9 (by decide), fun h9 => absurd h9 (by decide)⟩ | (constructor <;> (intro h9; omega))) | refine q_Gr.tr ?_ (by assumption) (by intro k9 j9 hk9; omega)))⟩
                      · intro b242
                        exact absurd b242.1 (by decide)
                    · intro b241
                      refine r_if_le c340_219 rfl (show q_w32 (0) = 0 from rfl) ?_ ?_
                      · intro b243
                        refine r_iconst c340_232 rfl ?_
                        exact r_zret c340_233 ⟨rfl, rfl, rfl⟩ (by decide) ⟨rfl, ⟨_, rfl, (by decide)⟩, (by repeat (first | exact q_Gr.rf | refine q_Gr.ud ?_ (by omega) (by first | assumption | rfl) rfl (by first | exact ⟨fun h9 => absurd h9 (by decide), fun h9 => absurd h9 (by decide)⟩ | (constructor <;> (intro h9; omega))) | refine q_Gr.udz ?_ (by omega) (by first | assumption | decide | omega) (by first | exact ⟨fun h9 => absurd h9 (by decide), fun h9 => absurd h9 (by decide)⟩ | (constructor <;> (intro h9; omega))) | refine q_Gr.tr ?_ (by assumption) (by intro k9 j9 hk9; omega)))⟩
                      · intro b243
                        exact absurd b243.1 (by decide)
                    · intro b241
                      refine r_if_le c340_219 rfl (show q_w32 (1) = 1 from rfl) ?_ ?_
                      · intro b244
                        exact absurd b244.1 (by decide)
                      · intro b244
                        refine r_aload_n c340_222 rfl rfl ?_
                        refine r_getr c340_223 (by first | assumption | omega) (by decide) (by first | assumption | rfl) rfl rfl ?_
                        refine r_bipush c340_226 rfl ?_
                        refine r_iload_n c340_228 rfl rfl ?_
                        refine r_iadd c340_229 (by first | exact q_w32_id (by omega) (by omega) | exact q_w32w _ | exact rfl) rfl ?_
                        refine r_lconst c340_230 rfl ?_
                        refine r_last c340_231 (by first | assumption | omega) (by decide) (by first | assumption | rfl) (by first | assumption | decide) (by first | exact q_w32_id (by omega) (by omega) | exact q_w32w _ | exact rfl) (by first | assumption | omega) (by first | assumption | omega) rfl ?_
                        refine r_iconst c340_232 rfl ?_
                        exact r_zret c340_233 ⟨rfl, rfl, rfl⟩ (by decide) ⟨rfl, ⟨_, rfl, (by decide)⟩, (by repeat (first | exact q_Gr.rf | refine q_Gr.ud ?_ (by omega) (by first | assumption | rfl) rfl (by first | exact ⟨fun h9 => absurd h9 (by decide), fun h9 => absurd h9 (by decide)⟩ | (constructor <;> (intro h9; omega))) | refine q_Gr.udz ?_ (by omega) (by first | assumption | decide | omega) (by first | exact ⟨fun h9 => absurd h9 (by decide), fun h9 => absurd h9 (by decide)⟩ | (constructor <;> (intro h9; omega))) | refine q_Gr.tr ?_ (by assumption) (by intro k9 j9 hk9; omega)))⟩
                · intro b228
                  refine r_if_gt c340_177 rfl (show q_w32 (1) = 1 from rfl) ?_ ?_
                  · intro b245
                    refine r_aload_n c340_190 rfl rfl ?_
                    refine r_getr c340_191 (by first | assumption | omega) (by decide) (by first | assumption | rfl) rfl rfl ?_
                    refine r_bipush c340_194 rfl ?_
                    refine r_iload_n c340_196 rfl rfl ?_
                    refine r_iadd c340_197 (by first | exact q_w32_id (by omega) (by omega) | exact q_w32w _ | exact rfl) rfl ?_
                    refine r_laldw (q_Gr.rb (S := fun k j => k = 140 ∧ (26 ≤ j ∧ j ≤ 61 ∧ ¬(47 ≤ j ∧ j ≤ 49))) hR (by repeat (first | exact q_Gr.rf | refine q_Gr.ud ?_ (by omega) (by first | assumption | rfl) rfl (by first | exact ⟨fun h9 => absurd h9 (by decide), fun h9 => absurd h9 (by decide)⟩ | (constructor <;> (intro h9; omega))) | refine q_Gr.udz ?_ (by omega) (by first | assumption | decide | omega) (by first | exact ⟨fun h9 => absurd h9 (by decide), fun h9 => absurd h9 (by decide)⟩ | (constructor <;> (intro h9; omega))) | refine q_Gr.tr ?_ (by assumption) (by intro k9 j9 hk9; omega)))) c340_198 (by first | exact q_w32_id (by omega) (by omega) | exact q_w32w _ | exact rfl) (by first | assumption | omega) (by first | assumption | omega) rfl ?_
                    intro y246
                    refine r_aload_n c340_199 rfl rfl ?_
                    refine r_getr c340_200 (by first | assumption | omega) (by decide) (by first | assumption | rfl) rfl rfl ?_
                    refine r_bipush c340_203 rfl ?_
                    refine r_iload_n c340_205 rfl rfl ?_
                    refine r_iadd c340_206 (by first | exact q_w32_id (by omega) (by omega) | exact q_w32w _ | exact rfl) rfl ?_
                    refine r_laldw (q_Gr.rb (S := fun k j => k = 140 ∧ (26 ≤ j ∧ j ≤ 61 ∧ ¬(47 ≤ j ∧ j ≤ 49))) hR (by repeat (first | exact q_Gr.rf | refine q_Gr.ud ?_ (by omega) (by first | assumption | rfl) rfl (by first | exact ⟨fun h9 => absurd h9 (by decide), fun h9 => absurd h9 (by decide)⟩ | (constructor <;> (intro h9; omega))) | refine q_Gr.udz ?_ (by omega) (by first | assumption | decide | omega) (by first | exact ⟨fun h9 => absurd h9 (by decide), fun h9 => absurd h9 (by decide)⟩ | (constructor <;> (intro h9; omega))) | refine q_Gr.tr ?_ (by assumption) (by intro k9 j9 hk9; omega)))) c340_207 (by first | exact q_w32_id (by omega) (by omega) | exact q_w32w _ | exact rfl) (by first | assumption | omega) (by first | assumption | omega) rfl ?_
                    intro y247
                    refine r_aload_n c340_208 rfl rfl ?_
                    refine r_getr c340_209 (by first | assumption | omega) (by decide) (by first | assumption | rfl) rfl rfl ?_
                    refine r_bipush c340_212 rfl ?_
                    refine r_iload_n c340_214 rfl rfl ?_
                    refine r_iadd c340_215 (by first | exact q_w32_id (by omega) (by omega) | exact q_w32w _ | exact rfl) rfl ?_
                    refine r_laldw (q_Gr.rb (S := fun k j => k = 140 ∧ (26 ≤ j ∧ j ≤ 61 ∧ ¬(47 ≤ j ∧ j ≤ 49))) hR (by repeat (first | exact q_Gr.rf | refine q_Gr.ud ?_ (by omega) (by first | assumption | rfl) rfl (by first | exact ⟨fun h9 => absurd h9 (by decide), fun h9 => absurd h9 (by decide)⟩ | (constructor <;> (intro h9; omega))) | refine q_Gr.udz ?_ (by omega) (by first | assumption | decide | omega) (by first | exact ⟨fun h9 => absurd h9 (by decide), fun h9 => absurd h9 (by decide)⟩ | (constructor <;> (intro h9; omega))) | refine q_Gr.tr ?_ (by assumption) (by intro k9 j9 hk9; omega)))) c340_216 (by first | exact q_w32_id (by omega) (by omega) | exact q_w32w _ | exact rfl) (by first | assumption | omega) (by first | assumption | omega) rfl ?_
                    intro y248
                    refine r_ladd c340_217 rfl rfl ?_
                    refine r_lcmpn c340_218 rfl (by first | exact q_w64_id (by omega) (by omega) | exact rfl) (by first | exact q_w64_id (by omega) (by omega) | exact rfl) ?_ ?_ ?_
                    · intro b249
                      refine r_if_le c340_219 rfl (show q_w32 (-1) = -1 from rfl) ?_ ?_
                      · intro b250
                        refine r_iconst c340_232 rfl ?_
                        exact r_zret c340_233 ⟨rfl, rfl, rfl⟩ (by decide) ⟨rfl, ⟨_, rfl, (by decide)⟩, (by repeat (first | exact q_Gr.rf | refine q_Gr.ud ?_ (by omega) (by first | assumption | rfl) rfl (by first | exact ⟨fun h9 => absurd h9 (by decide), fun h9 => absurd h9 (by decide)⟩ | (constructor <;> (intro h9; omega))) | refine q_Gr.udz ?_ (by omega) (by first | assumption | decide | omega) (by first | exact ⟨fun h9 => absurd h9 (by decide), fun h9 => absurd h9 (by decide)⟩ | (constructor <;> (intro h9; omega))) | refine q_Gr.tr ?_ (by assumption) (by intro k9 j9 hk9; omega)))⟩
                      · intro b250
                        exact absurd b250.1 (by decide)
                    · intro b249
                      refine r_if_le c340_219 rfl (show q_w32 (0) = 0 from rfl) ?_ ?_
                      · intro b251
                        refine r_iconst c340_232 rfl ?_
                        exact r_zret c340_233 ⟨rfl, rfl, rfl⟩ (by decide) ⟨rfl, ⟨_, rfl, (by decide)⟩, (by repeat (first | exact q_Gr.rf | refine q_Gr.ud ?_ (by omega) (by first | assumption | rfl) rfl (by first | exact ⟨fun h9 => absurd h9 (by decide), fun h9 => absurd h9 (by decide)⟩ | (constructor <;> (intro h9; omega))) | refine q_Gr.udz ?_ (by omega) (by first | assumption | decide | omega) (by first | exact ⟨fun h9 => absurd h9 (by decide), fun h9 => absurd h9 (by decide)⟩ | (constructor <;> (intro h9; omega))) | refine q_Gr.tr ?_ (by assumption) (by intro k9 j9 hk9; omega)))⟩
                      · intro b251
                        exact absurd b251.1 (by decide)
                    · intro b249
                      refine r_if_le c340_219 rfl (show q_w32 (1) = 1 from rfl) ?_ ?_
                      · intro b252
                        exact absurd b252.1 (by decide)
                      · intro b252
                        refine r_aload_n c340_222 rfl rfl ?_
                        refine r_getr c340_223 (by first | assumption | omega) (by decide) (by first | assumption | rfl) rfl rfl ?_
                        refine r_bipush c340_226 rfl ?_
                        refine r_iload_n c340_228 rfl rfl ?_
                        refine r_iadd c340_229 (by first | exact q_w32_id (by omega) (by omega) | exact q_w32w _ | exact rfl) rfl ?_
                        refine r_lconst c340_230 rfl ?_
                        refine r_last c340_231 (by first | assumption | omega) (by decide) (by first | assumption | rfl) (by first | assumption | decide) (by first | exact q_w32_id (by omega) (by omega) | exact q_w32w _ | exact rfl) (by first | assumption | omega) (by first | assumption | omega) rfl ?_
                        refine r_iconst c340_232 rfl ?_
                        exact r_zret c340_233 ⟨rfl, rfl, rfl⟩ (by decide) ⟨rfl, ⟨_, rfl, (by decide)⟩, (by repeat (first | exact q_Gr.rf | refine q_Gr.ud ?_ (by omega) (by first | assumption | rfl) rfl (by first | exact ⟨fun h9 => absurd h9 (by decide), fun h9 => absurd h9 (by decide)⟩ | (constructor <;> (intro h9; omega))) | refine q_Gr.udz ?_ (by omega) (by first | assumption | decide | omega) (by first | exact ⟨fun h9 => absurd h9 (by decide), fun h9 => absurd h9 (by decide)⟩ | (constructor <;> (intro h9; omega))) | refine q_Gr.tr ?_ (by assumption) (by intro k9 j9 hk9; omega)))⟩
                  · intro b245
                    exact absurd b245.1 (by decide)
              · intro b224
                exact absurd b224.1 (by decide)
            · intro b223
              refine r_if_ne c340_126 rfl (show q_w32 (0) = 0 from rfl) ?_ ?_
              · intro b253
                exact absurd b253.1 (by decide)
              · intro b253
                refine r_aload_n c340_129 rfl rfl ?_
                refine r_getr c340_130 (by first | assumption | omega) (by decide) (by first | assumption | rfl) rfl rfl ?_
                refine r_bipush c340_133 rfl ?_
                refine r_iload_n c340_135 rfl rfl ?_
                refine r_iadd c340_136 (by first | exact q_w32_id (by omega) (by omega) | exact q_w32w _ | exact rfl) rfl ?_
                refine r_dup2 c340_137 rfl rfl rfl ?_
                refine r_laldw (q_Gr.rb (S := fun k j => k = 140 ∧ (26 ≤ j ∧ j ≤ 61 ∧ ¬(47 ≤ j ∧ j ≤ 49))) hR (by repeat (first | exact q_Gr.rf | refine q_Gr.ud ?_ (by omega) (by first | assumption | rfl) rfl (by first | exact ⟨fun h9 => absurd h9 (by decide), fun h9 => absurd h9 (by decide)⟩ | (constructor <;> (intro h9; omega))) | refine q_Gr.udz ?_ (by omega) (by first | assumption | decide | omega) (by first | exact ⟨fun h9 => absurd h9 (by decide), fun h9 => absurd h9 (by decide)⟩ | (constructor <;> (intro h9; omega))) | refine q_Gr.tr ?_ (by assumption) (by intro k9 j9 hk9; omega)))) c340_138 (by first | exact q_w32_id (by omega) (by omega) | exact q_w32w _ | exact rfl) (by first | assumption | omega) (by first | assumption | omega) rfl ?_
                intro y254
                refine r_lconst c340_139 rfl ?_
                refine r_ladd c340_140 rfl rfl ?_
                refine r_last c340_141 (by first | assumption | omega) (by decide) (by first | assumption | rfl) (by first | assumption | decide) (by first | exact q_w32_id (by omega) (by omega) | exact q_w32w _ | exact rfl) (by first | assumption | omega) (by first | assumption | omega) rfl ?_
                refine r_iconst c340_142 rfl ?_
                exact r_zret c340_143 ⟨rfl, rfl, rfl⟩ (by decide) ⟨rfl, ⟨_, rfl, (by decide)⟩, (by repeat (first | exact q_Gr.rf | refine q_Gr.ud ?_ (by omega) (by first | assumption | rfl) rfl (by first | exact ⟨fun h9 => absurd h9 (by decide), fun h9 => absurd h9 (by decide)⟩ | (constructor <;> (intro h9; omega))) | refine q_Gr.udz ?_ (by omega) (by first | assumption | decide | omega) (by first | exact ⟨fun h9 => absurd h9 (by decide), fun h9 => absurd h9 (by decide)⟩ | (constructor <;> (intro h9; omega))) | refine q_Gr.tr ?_ (by assumption) (by intro k9 j9 hk9; omega)))⟩
            · intro b223
              refine r_if_ne c340_126 rfl (show q_w32 (1) = 1 from rfl) ?_ ?_
              · intro b255
                refine r_aload_n c340_144 rfl rfl ?_
                refine r_getr c340_145 (by first | assumption | omega) (by decide) (by first | assumption | rfl) rfl rfl ?_
                refine r_bipush c340_148 rfl ?_
                refine r_iload_n c340_150 rfl rfl ?_
                refine r_iadd c340_151 (by first | exact q_w32_id (by omega) (by omega) | exact q_w32w _ | exact rfl) rfl ?_
                refine r_dup2 c340_152 rfl rfl rfl ?_
                refine r_laldw (q_Gr.rb (S := fun k j => k = 140 ∧ (26 ≤ j ∧ j ≤ 61 ∧ ¬(47 ≤ j ∧ j ≤ 49))) hR (by repeat (first | exact q_Gr.rf | refine q_Gr.ud ?_ (by omega) (by first | assumption | rfl) rfl (by first | exact ⟨fun h9 => absurd h9 (by decide), fun h9 => absurd h9 (by decide)⟩ | (constructor <;> (intro h9; omega))) | refine q_Gr.udz ?_ (by omega) (by first | assumption | decide | omega) (by first | exact ⟨fun h9 => absurd h9 (by decide), fun h9 => absurd h9 (by decide)⟩ | (constructor <;> (intro h9; omega))) | refine q_Gr.tr ?_ (by assumption) (by intro k9 j9 hk9; omega)))) c340_153 (by first | exact q_w32_id (by omega) (by omega) | exact q_w32w _ | exact rfl) (by first | assumption | omega) (by first | assumption | omega) rfl ?_
                intro y256
                refine r_iload_n c340_154 rfl rfl ?_
                refine r_i2l c340_155 (by first | exact q_w32_id (by omega) (by omega) | exact q_w32w _ | exact rfl) rfl ?_
                refine r_ladd c340_156 rfl rfl ?_
                refine r_last c340_157 (by first | assumption | omega) (by decide) (by first | assumption | rfl) (by first | assumption | decide) (by first | exact q_w32_id (by omega) (by omega) | exact q_w32w _ | exact rfl) (by first | assumption | omega) (by first | assumption | omega) rfl ?_
                refine r_aload_n c340_158 rfl rfl ?_
                refine r_getr c340_159 (by first | assumption | omega) (by decide) (by first | assumption | rfl) rfl rfl ?_
                refine r_bipush c340_162 rfl ?_
                refine r_iload_n c340_164 rfl rfl ?_
                refine r_iadd c340_165 (by first | exact q_w32_id (by omega) (by omega) | exact q_w32w _ | exact rfl) rfl ?_
                refine r_laldw (q_Gr.rb (S := fun k j => k = 140 ∧ (26 ≤ j ∧ j ≤ 61 ∧ ¬(47 ≤ j ∧ j ≤ 49))) hR (by repeat (first | exact q_Gr.rf | refine q_Gr.ud ?_ (by omega) (by first | assumption | rfl) rfl (by first | exact ⟨fun h9 => absurd h9 (by decide), fun h9 => absurd h9 (by decide)⟩ | (constructor <;> (intro h9; omega))) | refine q_Gr.udz ?_ (by omega) (by first | assumption | decide | omega) (by first | exact ⟨fun h9 => absurd h9 (by decide), fun h9 => absurd h9 (by decide)⟩ | (constructor <;> (intro h9; omega))) | refine q_Gr.tr ?_ (by assumption) (by intro k9 j9 hk9; omega)))) c340_166 (by first | exact q_w32_id (by omega) (by omega) | exact q_w32w _ | exact rfl) (by first | assumption | omega) (by first | assumption | omega) rfl ?_
                intro y257
                refine r_aload_n c340_167 rfl rfl ?_
                refine r_getr c340_168 (by first | assumption | omega) (by decide) (by first | assumption | rfl) rfl rfl ?_
                refine r_bipush c340_171 rfl ?_
                refine r_iload_n c340_173 rfl rfl ?_
                refine r_iadd c340_174 (by first | exact q_w32_id (by omega) (by omega) | exact q_w32w _ | exact rfl) rfl ?_
                refine r_laldw (q_Gr.rb (S := fun k j => k = 140 ∧ (26 ≤ j ∧ j ≤ 61 ∧ ¬(47 ≤ j ∧ j ≤ 49))) hR (by repeat (first | exact q_Gr.rf | refine q_Gr.ud ?_ (by omega) (by first | assumption | rfl) rfl (by first | exact ⟨fun h9 => absurd h9 (by decide), fun h9 => absurd h9 (by decide)⟩ | (constructor <;> (intro h9; omega))) | refine q_Gr.udz ?_ (by omega) (by first | assumption | decide | omega) (by first | exact ⟨fun h9 => absurd h9 (by decide), fun h9 => absurd h9 (by decide)⟩ | (constructor <;> (intro h9; omega))) | refine q_Gr.tr ?_ (by assumption) (by intro k9 j9 hk9; omega)))) c340_175 (by first | exact q_w32_id (by omega) (by omega) | exact q_w32w _ | exact rfl) (by first | assumption | omega) (by first | assumption | omega) rfl ?_
                intro y258
                refine r_lcmpn c340_176 rfl (by first | exact q_w64_id (by omega) (by omega) | exact rfl) (by first | exact q_w64_id (by omega) (by omega) | exact rfl) ?_ ?_ ?_
                · intro b259
                  refine r_if_gt c340_177 rfl (show q_w32 (-1) = -1 from rfl) ?_ ?_
                  · intro b260
                    exact absurd b260.1 (by decide)
                  · intro b260
                    refine r_aload_n c340_180 rfl rfl ?_
                    refine r_getr c340_181 (by first | assumption | omega) (by decide) (by first | assumption | rfl) rfl rfl ?_
                    refine r_bipush c340_184 rfl ?_
                    refine r_iload_n c340_186 rfl rfl ?_
                    refine r_iadd c340_187 (by first | exact q_w32_id (by omega) (by omega) | exact q_w32w _ | exact rfl) rfl ?_
                    refine r_lconst c340_188 rfl ?_
                    refine r_last c340_189 (by first | assumption | omega) (by decide) (by first | assumption | rfl) (by first | assumption | decide) (by first | exact q_w32_id (by omega) (by omega) | exact q_w32w _ | exact rfl) (by first | assumption | omega) (by first | assumption | omega) rfl ?_
                    refine r_aload_n c340_190 rfl rfl ?_
                    refine r_getr c340_191 (by first | assumption | omega) (by decide) (by first | assumption | rfl) rfl rfl ?_
                    refine r_bipush c340_194 rfl ?_
                    refine r_iload_n c340_196 rfl rfl ?_
                    refine r_iadd c340_197 (by first | exact q_w32_id (by omega) (by omega) | exact q_w32w _ | exact rfl) rfl ?_
                    refine r_laldw (q_Gr.rb (S := fun k j => k = 140 ∧ (26 ≤ j ∧ j ≤ 61 ∧ ¬(47 ≤ j ∧ j ≤ 49))) hR (by repeat (first | exact q_Gr.rf | refine q_Gr.ud ?_ (by omega) (by first | assumption | rfl) rfl (by first | exact ⟨fun h9 => absurd h9 (by decide), fun h9 => absurd h9 (by decide)⟩ | (constructor <;> (intro h9; omega))) | refine q_Gr.udz ?_ (by omega) (by first | assumption | decide | omega) (by first | exact ⟨fun h9 => absurd h9 (by decide), fun h9 => absurd h9 (by decide)⟩ | (constructor <;> (intro h9; omega))) | refine q_Gr.tr ?_ (by assumption) (by intro k9 j9 hk9; omega)))) c340_198 (by first | exact q_w32_id (by omega) (by omega) | exact q_w32w _ | exact rfl) (by first | assumption | omega) (by first | assumption | omega) rfl ?_
                    intro y261
                    refine r_aload_n c340_199 rfl rfl ?_
                    refine r_getr c340_200 (by first | assumption | omega) (by decide) (by first | assumption | rfl) rfl rfl ?_
                    refine r_bipush c340_203 rfl ?_
                    refine r_iload_n c340_205 rfl rfl ?_
                    refine r_iadd c340_206 (by first | exact q_w32_id (by omega) (by omega) | exact q_w32w _ | exact rfl) rfl ?_
                    refine r_laldw (q_Gr.rb (S := fun k j => k = 140 ∧ (26 ≤ j ∧ j ≤ 61 ∧ ¬(47 ≤ j ∧ j ≤ 49))) hR (by repeat (first | exact q_Gr.rf | refine q_Gr.ud ?_ (by omega) (by first | assumption | rfl) rfl (by first | exact ⟨fun h9 => absurd h9 (by decide), fun h9 => absurd h9 (by decide)⟩ | (constructor <;> (intro h9; omega))) | refine q_Gr.udz ?_ (by omega) (by first | assumption | decide | omega) (by first | exact ⟨fun h9 => absurd h9 (by decide), fun h9 => absurd h9 (by decide)⟩ | (constructor <;> (intro h9; omega))) | refine q_Gr.tr ?_ (by assumption) (by intro k9 j9 hk9; omega)))) c340_207 (by first | exact q_w32_id (by omega) (by omega) | exact q_w32w _ | exact rfl) (by first | assumption | omega) (by first | assumption | omega) rfl ?_
                    intro y262
                    refine r_aload_n c340_208 rfl rfl ?_
                    refine r_getr c340_209 (by first | assumption | omega) (by decide) (by first | assumption | rfl) rfl rfl ?_
                    refine r_bipush c340_212 rfl ?_
                    refine r_iload_n c340_214 rfl rfl ?_
                    refine r_iadd c340_215 (by first | exact q_w32_id (by omega) (by omega) | exact q_w32w _ | exact rfl) rfl ?_
                    refine r_laldw (q_Gr.rb (S := fun k j => k = 140 ∧ (26 ≤ j ∧ j ≤ 61 ∧ ¬(47 ≤ j ∧ j ≤ 49))) hR (by repeat (first | exact q_Gr.rf | refine q_Gr.ud ?_ (by omega) (by first | assumption | rfl) rfl (by first | exact ⟨fun h9 => absurd h9 (by decide), fun h9 => absurd h9 (by decide)⟩ | (constructor <;> (intro h9; omega))) | refine q_Gr.udz ?_ (by omega) (by first | assumption | decide | omega) (by first | exact ⟨fun h9 => absurd h9 (by decide), fun h9 => absurd h9 (by decide)⟩ | (constructor <;> (intro h9; omega))) | refine q_Gr.tr ?_ (by assumption) (by intro k9 j9 hk9; omega)))) c340_216 (by first | exact q_w32_id (by omega) (by omega) | exact q_w32w _ | exact rfl) (by first | assumption | omega) (by first | assumption | omega) rfl ?_
                    intro y263
                    refine r_ladd c340_217 rfl rfl ?_
                    refine r_lcmpn c340_218 rfl (by first | exact q_w64_id (by omega) (by omega) | exact rfl) (by first | exact q_w64_id (by omega) (by omega) | exact rfl) ?_ ?_ ?_
                    · intro b264
                      refine r_if_le c340_219 rfl (show q_w32 (-1) = -1 from rfl) ?_ ?_
                      · intro b265
                        refine r_iconst c340_232 rfl ?_
                        exact r_zret c340_233 ⟨rfl, rfl, rfl⟩ (by decide) ⟨rfl, ⟨_, rfl, (by decide)⟩, (by repeat (first | exact q_Gr.rf | refine q_Gr.ud ?_ (by omega) (by first | assumption | rfl) rfl (by first | exact ⟨fun h9 => absurd h9 (by decide), fun h9 => absurd h9 (by decide)⟩ | (constructor <;> (intro h9; omega))) | refine q_Gr.udz ?_ (by omega) (by first | assumption | decide | omega) (by first | exact ⟨fun h9 => absurd h9 (by decide), fun h9 => absurd h9 (by decide)⟩ | (constructor <;> (intro h9; omega))) | refine q_Gr.tr ?_ (by assumption) (by intro k9 j9 hk9; omega)))⟩
                      · intro b265
                        exact absurd b265.1 (by decide)
                    · intro b264
                      refine r_if_le c340_219 rfl (show q_w32 (0) = 0 from rfl) ?_ ?_
                      · intro b266
                        refine r_iconst c340_232 rfl ?_
                        exact r_zret c340_233 ⟨rfl, rfl, rfl⟩ (by decide) ⟨rfl, ⟨_, rfl, (by decide)⟩, (by repeat (first | exact q_Gr.rf | refine q_Gr.ud ?_ (by omega) (by first | assumption | rfl) rfl (by first | exact ⟨fun h9 => absurd h9 (by decide), fun h9 => absurd h9 (by decide)⟩ | (constructor <;> (intro h9; omega))) | refine q_Gr.udz ?_ (by omega) (by first | assumption | decide | omega) (by first | exact ⟨fun h9 => absurd h9 (by decide), fun h9 => absurd h9 (by decide)⟩ | (constructor <;> (intro h9; omega))) | refine q_Gr.tr ?_ (by assumption) (by intro k9 j9 hk9; omega)))⟩
                      · intro b266
                        exact absurd b266.1 (by decide)
                    · intro b264
                      refine r_if_le c340_219 rfl (show q_w32 (1) = 1 from rfl) ?_ ?_
                      · intro b267
                        exact absurd b267.1 (by decide)
                      · intro b267
                        refine r_aload_n c340_222 rfl rfl ?_
                        refine r_getr c340_223 (by first | assumption | omega) (by decide) (by first | assumption | rfl) rfl rfl ?_
                        refine r_bipush c340_226 rfl ?_
                        refine r_iload_n c340_228 rfl rfl ?_
                        refine r_iadd c340_229 (by first | exact q_w32_id (by omega) (by omega) | exact q_w32w _ | exact rfl) rfl ?_
                        refine r_lconst c340_230 rfl ?_
                        refine r_last c340_231 (by first | assumption | omega) (by decide) (by first | assumption | rfl) (by first | assumption | decide) (by first | exact q_w32_id (by omega) (by omega) | exact q_w32w _ | exact rfl) (by first | assumption | omega) (by first | assumption | omega) rfl ?_
                        refine r_iconst c340_232 rfl ?_
                        exact r_zret c340_233 ⟨rfl, rfl, rfl⟩ (by decide) ⟨rfl, ⟨_, rfl, (by decide)⟩, (by repeat (first | exact q_Gr.rf | refine q_Gr.ud ?_ (by omega) (by first | assumption | rfl) rfl (by first | exact ⟨fun h9 => absurd h9 (by decide), fun h9 => absurd h9 (by decide)⟩ | (constructor <;> (intro h9; omega))) | refine q_Gr.udz ?_ (by omega) (by first | assumption | decide | omega) (by first | exact ⟨fun h9 => absurd h9 (by decide), fun h9 => absurd h9 (by decide)⟩ | (constructor <;> (intro h9; omega))) | refine q_Gr.tr ?_ (by assumption) (by intro k9 j9 hk9; omega)))⟩
                · intro b259
                  refine r_if_gt c340_177 rfl (show q_w32 (0) = 0 from rfl) ?_ ?_
                  · intro b268
                    exact absurd b268.1 (by decide)
                  · intro b268
                    refine r_aload_n c340_180 rfl rfl ?_
                    refine r_getr c340_181 (by first | assumption | omega) (by decide) (by first | assumption | rfl) rfl rfl ?_
                    refine r_bipush c340_184 rfl ?_
                    refine r_iload_n c340_186 rfl rfl ?_
                    refine r_iadd c340_187 (by first | exact q_w32_id (by omega) (by omega) | exact q_w32w _ | exact rfl) rfl ?_
                    refine r_lconst c340_188 rfl ?_
                    refine r_last c340_189 (by first | assumption | omega) (by decide) (by first | assumption | rfl) (by first | assumption | decide) (by first | exact q_w32_id (by omega) (by omega) | exact q_w32w _ | exact rfl) (by first | assumption | omega) (by first | assumption | omega) rfl ?_
                    refine r_aload_n c340_190 rfl rfl ?_
                    refine r_getr c340_191 (by first | assumption | omega) (by decide) (by first | assumption | rfl) rfl rfl ?_
                    refine r_bipush c340_194 rfl ?_
                    refine r_iload_n c340_196 rfl rfl ?_
                    refine r_iadd c340_197 (by first | exact q_w32_id (by omega) (by omega) | exact q_w32w _ | exact rfl) rfl ?_
                    refine r_laldw (q_Gr.rb (S := fun k j => k = 140 ∧ (26 ≤ j ∧ j ≤ 61 ∧ ¬(47 ≤ j ∧ j ≤ 49))) hR (by repeat (first | exact q_Gr.rf | refine q_Gr.ud ?_ (by omega) (by first | assumption | rfl) rfl (by first | exact ⟨fun h9 => absurd h9 (by decide), fun h9 => absurd h9 (by decide)⟩ | (constructor <;> (intro h9; omega))) | refine q_Gr.udz ?_ (by omega) (by first | assumption | decide | omega) (by first | exact ⟨fun h9 => absurd h9 (by decide), fun h9 => absurd h9 (by decide)⟩ | (constructor <;> (intro h9; omega))) | refine q_Gr.tr ?_ (by assumption) (by intro k9 j9 hk9; omega)))) c340_198 (by first | exact q_w32_id (by omega) (by omega) | exact q_w32w _ | exact rfl) (by first | assumption | omega) (by first | assumption | omega) rfl ?_
                    intro y269
                    refine r_aload_n c340_199 rfl rfl ?_
                    refine r_getr c340_200 (by first | assumption | omega) (by decide) (by first | assumption | rfl) rfl rfl ?_
                    refine r_bipush c340_203 rfl ?_
                    refine r_iload_n c340_205 rfl rfl ?_
                    refine r_iadd c340_206 (by first | exact q_w32_id (by omega) (by omega) | exact q_w32w _ | exact rfl) rfl ?_
                    refine r_laldw (q_Gr.rb (S := fun k j => k = 140 ∧ (26 ≤ j ∧ j ≤ 61 ∧ ¬(47 ≤ j ∧ j ≤ 49))) hR (by repeat (first | exact q_Gr.rf | refine q_Gr.ud ?_ (by omega) (by first | assumption | rfl) rfl (by first | exact ⟨fun h9 => absurd h9 (by decide), fun h9 => absurd h9 (by decide)⟩ | (constructor <;> (intro h9; omega))) | refine q_Gr.udz ?_ (by omega) (by first | assumption | decide | omega) (by first | exact ⟨fun h9 => absurd h9 (by decide), fun h9 => absurd h9 (by decide)⟩ | (constructor <;> (intro h9; omega))) | refine q_Gr.tr ?_ (by assumption) (by intro k9 j9 hk9; omega)))) c340_207 (by first | exact q_w32_id (by omega) (by omega) | exact q_w32w _ | exact rfl) (by first | assumption | omega) (by first | assumption | omega) rfl ?_
                    intro y270
                    refine r_aload_n c340_208 rfl rfl ?_
                    refine r_getr c340_209 (by first | assumption | omega) (by decide) (by first | assumption | rfl) rfl rfl ?_
                    refine r_bipush c340_212 rfl ?_
                    refine r_iload_n c340_214 rfl rfl ?_
                    refine r_iadd c340_215 (by first | exact q_w32_id (by omega) (by omega) | exact q_w32w _ | exact rfl) rfl ?_
                    refine r_laldw (q_Gr.rb (S := fun k j => k = 140 ∧ (26 ≤ j ∧ j ≤ 61 ∧ ¬(47 ≤ j ∧ j ≤ 49))) hR (by repeat (first | exact q_Gr.rf | refine q_Gr.ud ?_ (by omega) (by first | assumption | rfl) rfl (by first | exact ⟨fun h9 => absurd h9 (by decide), fun h9 => absurd h9 (by decide)⟩ | (constructor <;> (intro h9; omega))) | refine q_Gr.udz ?_ (by omega) (by first | assumption | decide | omega) (by first | exact ⟨fun h9 => absurd h9 (by decide), fun h9 => absurd h9 (by decide)⟩ | (constructor <;> (intro h9; omega))) | refine q_Gr.tr ?_ (by assumption) (by intro k9 j9 hk9; omega)))) c340_216 (by first | exact q_w32_id (by omega) (by omega) | exact q_w32w _ | exact rfl) (by first | assumption | omega) (by first | assumption | omega) rfl ?_
                    intro y271
                    refine r_ladd c340_217 rfl rfl ?_
                    refine r_lcmpn c340_218 rfl (by first | exact q_w64_id (by omega) (by omega) | exact rfl) (by first | exact q_w64_id (by omega) (by omega) | exact rfl) ?_ ?_ ?_
                    · intro b272
                      refine r_if_le c340_219 rfl (show q_w32 (-1) = -1 from rfl) ?_ ?_
                      · intro b273
                        refine r_iconst c340_232 rfl ?_
                        exact r_zret c340_233 ⟨rfl, rfl, rfl⟩ (by decide) ⟨rfl, ⟨_, rfl, (by decide)⟩, (by repeat (first | exact q_Gr.rf | refine q_Gr.ud ?_ (by omega) (by first | assumption | rfl) rfl (by first | exact ⟨fun h9 => absurd h9 (by decide), fun h9 => absurd h9 (by decide)⟩ | (constructor <;> (intro h9; omega))) | refine q_Gr.udz ?_ (by omega) (by first | assumption | decide | omega) (by first | exact ⟨fun h9 => absurd h9 (by decide), fun h9 => absurd h9 (by decide)⟩ | (constructor <;> (intro h9; omega))) | refine q_Gr.tr ?_ (by assumption) (by intro k9 j9 hk9; omega)))⟩
                      · intro b273
                        exact absurd b273.1 (by decide)
                    · intro b272
                      refine r_if_le c340_219 rfl (show q_w32 (0) = 0 from rfl) ?_ ?_
                      · intro b274
                        refine r_iconst c340_232 rfl ?_
                        exact r_zret c340_233 ⟨rfl, rfl, rfl⟩ (by decide) ⟨rfl, ⟨_, rfl, (by decide)⟩, (by repeat (first | exact q_Gr.rf | refine q_Gr.ud ?_ (by omega) (by first | assumption | rfl) rfl (by first | exact ⟨fun h9 => absurd h9 (by decide), fun h9 => absurd h9 (by decide)⟩ | (constructor <;> (intro h9; omega))) | refine q_Gr.udz ?_ (by omega) (by first | assumption | decide | omega) (by first | exact ⟨fun h9 => absurd h9 (by decide), fun h9 => absurd h9 (by decide)⟩ | (constructor <;> (intro h9; omega))) | refine q_Gr.tr ?_ (by assumption) (by intro k9 j9 hk9; omega)))⟩
                      · intro b274
                        exact absurd b274.1 (by decide)
                    · intro b272
                      refine r_if_le c340_219 rfl (show q_w32 (1) = 1 from rfl) ?_ ?_
                      · intro b275
                        exact absurd b275.1 (by decide)
                      · intro b275
                        refine r_aload_n c340_222 rfl rfl ?_
                        refine r_getr c340_223 (by first | assumption | omega) (by decide) (by first | assumption | rfl) rfl rfl ?_
                        refine r_bipush c340_226 rfl ?_
                        refine r_iload_n c340_228 rfl rfl ?_
                        refine r_iadd c340_229 (by first | exact q_w32_id (by omega) (by omega) | exact q_w32w _ | exact rfl) rfl ?_
                        refine r_lconst c340_230 rfl ?_
                        refine r_last c340_231 (by first | assumption | omega) (by decide) (by first | assumption | rfl) (by first | assumption | decide) (by first | exact q_w32_id (by omega) (by omega) | exact q_w32w _ | exact rfl) (by first | assumption | omega) (by first | assumption | omega) rfl ?_
                        refine r_iconst c340_232 rfl ?_
                        exact r_zret c340_233 ⟨rfl, rfl, rfl⟩ (by decide) ⟨rfl, ⟨_, rfl, (by decide)⟩, (by repeat (first | exact q_Gr.rf | refine q_Gr.ud ?_ (by omega) (by first | assumption | rfl) rfl (by first | exact ⟨fun h9 => absurd h9 (by decide), fun h9 => absurd h9 (by decide)⟩ | (constructor <;> (intro h9; omega))) | refine q_Gr.udz ?_ (by omega) (by first | assumption | decide | omega) (by first | exact ⟨fun h9 => absurd h9 (by decide), fun h9 => absurd h9 (by decide)⟩ | (constructor <;> (intro h9; omega))) | refine q_Gr.tr ?_ (by assumption) (by intro k9 j9 hk9; omega)))⟩
                · intro b259
                  refine r_if_gt c340_177 rfl (show q_w32 (1) = 1 from rfl) ?_ ?_
                  · intro b276
                    refine r_aload_n c340_190 rfl rfl ?_
                    refine r_getr c340_191 (by first | assumption | omega) (by decide) (by first | assumption | rfl) rfl rfl ?_
                    refine r_bipush c340_194 rfl ?_
                    refine r_iload_n c340_196 rfl rfl ?_
                    refine r_iadd c340_197 (by first | exact q_w32_id (by omega) (by omega) | exact q_w32w _ | exact rfl) rfl ?_
                    refine r_laldw (q_Gr.rb (S := fun k j => k = 140 ∧ (26 ≤ j ∧ j ≤ 61 ∧ ¬(47 ≤ j ∧ j ≤ 49))) hR (by repeat (first | exact q_Gr.rf | refine q_Gr.ud ?_ (by omega) (by first | assumption | rfl) rfl (by first | exact ⟨fun h9 => absurd h9 (by decide), fun h9 => absurd h9 (by decide)⟩ | (constructor <;> (intro h9; omega))) | refine q_Gr.udz ?_ (by omega) (by first | assumption | decide | omega) (by first | exact ⟨fun h9 => absurd h9 (by decide), fun h9 => absurd h9 (by decide)⟩ | (constructor <;> (intro h9; omega))) | refine q_Gr.tr ?_ (by assumption) (by intro k9 j9 hk9; omega)))) c340_198 (by first | exact q_w32_id (by omega) (by omega) | exact q_w32w _ | exact rfl) (by first | assumption | omega) (by first | assumption | omega) rfl ?_
                    intro y277
                    refine r_aload_n c340_199 rfl rfl ?_
                    refine r_getr c340_200 (by first | assumption | omega) (by decide) (by first | assumption | rfl) rfl rfl ?_
                    refine r_bipush c340_203 rfl ?_
                    refine r_iload_n c340_205 rfl rfl ?_
                    refine r_iadd c340_206 (by first | exact q_w32_id (by omega) (by omega) | exact q_w32w _ | exact rfl) rfl ?_
                    refine r_laldw (q_Gr.rb (S := fun k j => k = 140 ∧ (26 ≤ j ∧ j ≤ 61 ∧ ¬(47 ≤ j ∧ j ≤ 49))) hR (by repeat (first | exact q_Gr.rf | refine q_Gr.ud ?_ (by omega) (by first | assumption | rfl) rfl (by first | exact ⟨fun h9 => absurd h9 (by decide), fun h9 => absurd h9 (by decide)⟩ | (constructor <;> (intro h9; omega))) | refine q_Gr.udz ?_ (by omega) (by first | assumption | decide | omega) (by first | exact ⟨fun h9 => absurd h9 (by decide), fun h9 => absurd h9 (by decide)⟩ | (constructor <;> (intro h9; omega))) | refine q_Gr.tr ?_ (by assumption) (by intro k9 j9 hk9; omega)))) c340_207 (by first | exact q_w32_id (by omega) (by omega) | exact q_w32w _ | exact rfl) (by first | assumption | omega) (by first | assumption | omega) rfl ?_
                    intro y278
                    refine r_aload_n c340_208 rfl rfl ?_
                    refine r_getr c340_209 (by first | assumption | omega) (by decide) (by first | assumption | rfl) rfl rfl ?_
                    refine r_bipush c340_212 rfl ?_
                    refine r_iload_n c340_214 rfl rfl ?_
                    refine r_iadd c340_215 (by first | exact q_w32_id (by omega) (by omega) | exact q_w32w _ | exact rfl) rfl ?_
                    refine r_laldw (q_Gr.rb (S := fun k j => k = 140 ∧ (26 ≤ j ∧ j ≤ 61 ∧ ¬(47 ≤ j ∧ j ≤ 49))) hR (by repeat (first | exact q_Gr.rf | refine q_Gr.ud ?_ (by omega) (by first | assumption | rfl) rfl (by first | exact ⟨fun h9 => absurd h9 (by decide), fun h9 => absurd h9 (by decide)⟩ | (constructor <;> (intro h9; omega))) | refine q_Gr.udz ?_ (by omega) (by first | assumption | decide | omega) (by first | exact ⟨fun h9 => absurd h9 (by decide), fun h9 => absurd h9 (by decide)⟩ | (constructor <;> (intro h9; omega))) | refine q_Gr.tr ?_ (by assumption) (by intro k9 j9 hk9; omega)))) c340_216 (by first | exact q_w32_id (by omega) (by omega) | exact q_w32w _ | exact rfl) (by first | assumption | omega) (by first | assumption | omega) rfl ?_
                    intro y279
                    refine r_ladd c340_217 rfl rfl ?_
                    refine r_lcmpn c340_218 rfl (by first | exact q_w64_id (by omega) (by omega) | exact rfl) (by first | exact q_w64_id (by omega) (by omega) | exact rfl) ?_ ?_ ?_
                    · intro b280
                      refine r_if_le c340_219 rfl (show q_w32 (-1) = -1 from rfl) ?_ ?_
                      · intro b281
                        refine r_iconst c340_232 rfl ?_
                        exact r_zret c340_233 ⟨rfl, rfl, rfl⟩ (by decide) ⟨rfl, ⟨_, rfl, (by decide)⟩, (by repeat (first | exact q_Gr.rf | refine q_Gr.ud ?_ (by omega) (by first | assumption | rfl) rfl (by first | exact ⟨fun h9 => absurd h9 (by decide), fun h9 => absurd h9 (by decide)⟩ | (constructor <;> (intro h9; omega))) | refine q_Gr.udz ?_ (by omega) (by first | assumption | decide | omega) (by first | exact ⟨fun h9 => absurd h9 (by decide), fun h9 => absurd h9 (by decide)⟩ | (constructor <;> (intro h9; omega))) | refine q_Gr.tr ?_ (by assumption) (by intro k9 j9 hk9; omega)))⟩
                      · intro b281
                        exact absurd b281.1 (by decide)
                    · intro b280
                      refine r_if_le c340_219 rfl (show q_w32 (0) = 0 from rfl) ?_ ?_
                      · intro b282
                        refine r_iconst c340_232 rfl ?_
                        exact r_zret c340_233 ⟨rfl, rfl, rfl⟩ (by decide) ⟨rfl, ⟨_, rfl, (by decide)⟩, (by repeat (first | exact q_Gr.rf | refine q_Gr.ud ?_ (by omega) (by first | assumption | rfl) rfl (by first | exact ⟨fun h9 => absurd h9 (by decide), fun h9 => absurd h9 (by decide)⟩ | (constructor <;> (intro h9; omega))) | refine q_Gr.udz ?_ (by omega) (by first | assumption | decide | omega) (by first | exact ⟨fun h9 => absurd h9 (by decide), fun h9 => absurd h9 (by decide)⟩ | (constructor <;> (intro h9; omega))) | refine q_Gr.tr ?_ (by assumption) (by intro k9 j9 hk9; omega)))⟩
                      · intro b282
                        exact absurd b282.1 (by decide)
                    · intro b280
                      refine r_if_le c340_219 rfl (show q_w32 (1) = 1 from rfl) ?_ ?_
                      · intro b283
                        exact absurd b283.1 (by decide)
                      · intro b283
                        refine r_aload_n c340_222 rfl rfl ?_
                        refine r_getr c340_223 (by first | assumption | omega) (by decide) (by first | assumption | rfl) rfl rfl ?_
                        refine r_bipush c340_226 rfl ?_
                        refine r_iload_n c340_228 rfl rfl ?_
                        refine r_iadd c340_229 (by first | exact q_w32_id (by omega) (by omega) | exact q_w32w _ | exact rfl) rfl ?_
                        refine r_lconst c340_230 rfl ?_
                        refine r_last c340_231 (by first | assumption | omega) (by decide) (by first | assumption | rfl) (by first | assumption | decide) (by first | exact q_w32_id (by omega) (by omega) | exact q_w32w _ | exact rfl) (by first | assumption | omega) (by first | assumption | omega) rfl ?_
                        refine r_iconst c340_232 rfl ?_
                        exact r_zret c340_233 ⟨rfl, rfl, rfl⟩ (by decide) ⟨rfl, ⟨_, rfl, (by decide)⟩, (by repeat (first | exact q_Gr.rf | refine q_Gr.ud ?_ (by omega) (by first | assumption | rfl) rfl (by first | exact ⟨fun h9 => absurd h9 (by decide), fun h9 => absurd h9 (by decide)⟩ | (constructor <;> (intro h9; omega))) | refine q_Gr.udz ?_ (by omega) (by first | assumption | decide | omega) (by first | exact ⟨fun h9 => absurd h9 (by decide), fun h9 => absurd h9 (by decide)⟩ | (constructor <;> (intro h9; omega))) | refine q_Gr.tr ?_ (by assumption) (by intro k9 j9 hk9; omega)))⟩
                  · intro b276
                    exact absurd b276.1 (by decide)
              · intro b255
                exact absurd b255.1 (by decide)
          · intro b221
            exact absurd b221.1 (by decide)
        · intro b218
          refine r_if_eq c340_95 rfl (show q_w32 (1) = 1 from rfl) ?_ ?_
          · intro b284
            exact absurd b284.1 (by decide)
          · intro b284
            refine r_aload_n c340_98 rfl rfl ?_
            refine r_getr c340_99 (by first | assumption | omega) (by decide) (by first | assumption | rfl) rfl rfl ?_
            refine r_bipush c340_102 rfl ?_
            refine r_iload_n c340_104 rfl rfl ?_
            refine r_iadd c340_105 (by first | exact q_w32_id (by omega) (by omega) | exact q_w32w _ | exact rfl) rfl ?_
            refine r_dup2 c340_106 rfl rfl rfl ?_
            refine r_laldw (q_Gr.rb (S := fun k j => k = 140 ∧ (26 ≤ j ∧ j ≤ 61 ∧ ¬(47 ≤ j ∧ j ≤ 49))) hR (by repeat (first | exact q_Gr.rf | refine q_Gr.ud ?_ (by omega) (by first | assumption | rfl) rfl (by first | exact ⟨fun h9 => absurd h9 (by decide), fun h9 => absurd h9 (by decide)⟩ | (constructor <;> (intro h9; omega))) | refine q_Gr.udz ?_ (by omega) (by first | assumption | decide | omega) (by first | exact ⟨fun h9 => absurd h9 (by decide), fun h9 => absurd h9 (by decide)⟩ | (constructor <;> (intro h9; omega))) | refine q_Gr.tr ?_ (by assumption) (by intro k9 j9 hk9; omega)))) c340_107 (by first | exact q_w32_id (by omega) (by omega) | exact q_w32w _ | exact rfl) (by first | assumption | omega) (by first | assumption | omega) rfl ?_
            intro y285
            refine r_iload_n c340_108 rfl rfl ?_
            refine r_i2l c340_109 (by first | exact q_w32_id (by omega) (by omega) | exact q_w32w _ | exact rfl) rfl ?_
            refine r_ladd c340_110 rfl rfl ?_
            refine r_last c340_111 (by first | assumption | omega) (by decide) (by first | assumption | rfl) (by first | assumption | decide) (by first | exact q_w32_id (by omega) (by omega) | exact q_w32w _ | exact rfl) (by first | assumption | omega) (by first | assumption | omega) rfl ?_
            refine r_iconst c340_112 rfl ?_
            exact r_zret c340_113 ⟨rfl, rfl, rfl⟩ (by decide) ⟨rfl, ⟨_, rfl, (by decide)⟩, (by repeat (first | exact q_Gr.rf | refine q_Gr.ud ?_ (by omega) (by first | assumption | rfl) rfl (by first | exact ⟨fun h9 => absurd h9 (by decide), fun h9 => absurd h9 (by decide)⟩ | (constructor <;> (intro h9; omega))) | refine q_Gr.udz ?_ (by omega) (by first | assumption | decide | omega) (by first | exact ⟨fun h9 => absurd h9 (by decide), fun h9 => absurd h9 (by decide)⟩ | (constructor <;> (intro h9; omega))) | refine q_Gr.tr ?_ (by assumption) (by intro k9 j9 hk9; omega)))⟩
  · intro b2
    refine r_bipush c340_33 rfl ?_
    refine r_goto c340_35 ?_
    refine r_iload_n c340_40 rfl rfl ?_
    refine r_iadd c340_41 (by first | exact q_w32_id (by omega) (by omega) | exact q_w32w _ | exact rfl) rfl ?_
    refine r_dup2 c340_42 rfl rfl rfl ?_
    refine r_laldw (q_Gr.rb (S := fun k j => k = 140 ∧ (26 ≤ j ∧ j ≤ 61 ∧ ¬(47 ≤ j ∧ j ≤ 49))) hR (by repeat (first | exact q_Gr.rf | refine q_Gr.ud ?_ (by omega) (by first | assumption | rfl) rfl (by first | exact ⟨fun h9 => absurd h9 (by decide), fun h9 => absurd h9 (by decide)⟩ | (constructor <;> (intro h9; omega))) | refine q_Gr.udz ?_ (by omega) (by first | assumption | decide | omega) (by first | exact ⟨fun h9 => absurd h9 (by decide), fun h9 => absurd h9 (by decide)⟩ | (constructor <;> (intro h9; omega))) | refine q_Gr.tr ?_ (by assumption) (by intro k9 j9 hk9; omega)))) c340_43 (by first | exact q_w32_id (by omega) (by omega) | exact q_w32w _ | exact rfl) (by first | assumption | omega) (by first | assumption | omega) rfl ?_
    intro y286
    refine r_lconst c340_44 rfl ?_
    refine r_ladd c340_45 rfl rfl ?_
    refine r_last c340_46 (by first | assumption | omega) (by decide) (by first | assumption | rfl) (by first | assumption | decide) (by first | exact q_w32_id (by omega) (by omega) | exact q_w32w _ | exact rfl) (by first | assumption | omega) (by first | assumption | omega) rfl ?_
    refine r_iload_n c340_47 rfl rfl ?_
    refine r_if_le c340_48 rfl (by first | exact q_w32_id (by omega) (by omega) | exact q_w32w _ | exact rfl) ?_ ?_
    · intro b287
      refine r_lconst c340_63 rfl ?_
      refine r_lstore_n c340_64 (lo' := [(3, _), (0, _), (1, _), (2, _)]) rfl rfl rfl ?_
      refine r_iload_n c340_65 rfl rfl ?_
      refine r_if_le c340_66 rfl (by first | exact q_w32_id (by omega) (by omega) | exact q_w32w _ | exact rfl) ?_ ?_
      · intro b288
        refine r_lconst c340_81 rfl ?_
        refine r_lstore c340_82 (lo' := [(5, _), (3, _), (0, _), (1, _), (2, _)]) rfl rfl rfl ?_
        refine r_aload_n c340_84 rfl rfl ?_
        refine r_getr c340_85 (by first | assumption | omega) (by decide) (by first | assumption | rfl) rfl rfl ?_
        refine r_bipush c340_88 rfl ?_
        refine r_iload_n c340_90 rfl rfl ?_
        refine r_iadd c340_91 (by first | exact q_w32_id (by omega) (by omega) | exact q_w32w _ | exact rfl) rfl ?_
        refine r_laldw (q_Gr.rb (S := fun k j => k = 140 ∧ (26 ≤ j ∧ j ≤ 61 ∧ ¬(47 ≤ j ∧ j ≤ 49))) hR (by repeat (first | exact q_Gr.rf | refine q_Gr.ud ?_ (by omega) (by first | assumption | rfl) rfl (by first | exact ⟨fun h9 => absurd h9 (by decide), fun h9 => absurd h9 (by decide)⟩ | (constructor <;> (intro h9; omega))) | refine q_Gr.udz ?_ (by omega) (by first | assumption | decide | omega) (by first | exact ⟨fun h9 => absurd h9 (by decide), fun h9 => absurd h9 (by decide)⟩ | (constructor <;> (intro h9; omega))) | refine q_Gr.tr ?_ (by assumption) (by intro k9 j9 hk9; omega)))) c340_92 (by first | exact q_w32_id (by omega) (by omega) | exact q_w32w _ | exact rfl) (by first | assumption | omega) (by first | assumption | omega) rfl ?_
        intro y289
        refine r_lload_n c340_93 rfl rfl ?_
        refine r_lcmpn c340_94 rfl (by first | exact q_w64_id (by omega) (by omega) | exact rfl) (show q_w64 (0) = 0 from rfl) ?_ ?_ ?_
        · intro b290
          refine r_if_eq c340_95 rfl (show q_w32 (-1) = -1 from rfl) ?_ ?_
          · intro b291
            exact absurd b291.1 (by decide)
          · intro b291
            refine r_aload_n c340_98 rfl rfl ?_
            refine r_getr c340_99 (by first | assumption | omega) (by decide) (by first | assumption | rfl) rfl rfl ?_
            refine r_bipush c340_102 rfl ?_
            refine r_iload_n c340_104 rfl rfl ?_
            refine r_iadd c340_105 (by first | exact q_w32_id (by omega) (by omega) | exact q_w32w _ | exact rfl) rfl ?_
            refine r_dup2 c340_106 rfl rfl rfl ?_
            refine r_laldw (q_Gr.rb (S := fun k j => k = 140 ∧ (26 ≤ j ∧ j ≤ 61 ∧ ¬(47 ≤ j ∧ j ≤ 49))) hR (by repeat (first | exact q_Gr.rf | refine q_Gr.ud ?_ (by omega) (by first | assumption | rfl) rfl (by first | exact ⟨fun h9 => absurd h9 (by decide), fun h9 => absurd h9 (by decide)⟩ | (constructor <;> (intro h9; omega))) | refine q_Gr.udz ?_ (by omega) (by first | assumption | decide | omega) (by first | exact ⟨fun h9 => absurd h9 (by decide), fun h9 => absurd h9 (by decide)⟩ | (constructor <;> (intro h9; omega))) | refine q_Gr.tr ?_ (by assumption) (by intro k9 j9 hk9; omega)))) c340_107 (by first | exact q_w32_id (by omega) (by omega) | exact q_w32w _ | exact rfl) (by first | assumption | omega) (by first | assumption | omega) rfl ?_
            intro y292
            refine r_iload_n c340_108 rfl rfl ?_
            refine r_i2l c340_109 (by first | exact q_w32_id (by omega) (by omega) | exact q_w32w _ | exact rfl) rfl ?_
            refine r_ladd c340_110 rfl rfl ?_
            refine r_last c340_111 (by first | assumption | omega) (by decide) (by first | assumption | rfl) (by first | assumption | decide) (by first | exact q_w32_id (by omega) (by omega) | exact q_w32w _ | exact rfl) (by first | assumption | omega) (by first | assumption | omega) rfl ?_
            refine r_iconst c340_112 rfl ?_
            exact r_zret c340_113 ⟨rfl, rfl, rfl⟩ (by decide) ⟨rfl, ⟨_, rfl, (by decide)⟩, (by repeat (first | exact q_Gr.rf | refine q_Gr.ud ?_ (by omega) (by first | assumption | rfl) rfl (by first | exact ⟨fun h9 => absurd h9 (by decide), fun h9 => absurd h9 (by decide)⟩ | (constructor <;> (intro h9; omega))) | refine q_Gr.udz ?_ (by omega) (by first | assumption | decide | omega) (by first | exact ⟨fun h9 => absurd h9 (by decide), fun h9 => absurd h9 (by decide)⟩ | (constructor <;> (intro h9; omega))) | refine q_Gr.tr ?_ (by assumption) (by intro k9 j9 hk9; omega)))⟩
        · intro b290
          refine r_if_eq c340_95 rfl (show q_w32 (0) = 0 from rfl) ?_ ?_
          · intro b293
            refine r_aload_n c340_114 rfl rfl ?_
            refine r_getr c340_115 (by first | assumption | omega) (by decide) (by first | assumption | rfl) rfl rfl ?_
            refine r_bipush c340_118 rfl ?_
            refine r_iload_n c340_120 rfl rfl ?_
            refine r_iadd c340_121 (by first | exact q_w32_id (by omega) (by omega) | exact q_w32w _ | exact rfl) rfl ?_
            refine r_laldw (q_Gr.rb (S := fun k j => k = 140 ∧ (26 ≤ j ∧ j ≤ 61 ∧ ¬(47 ≤ j ∧ j ≤ 49))) hR (by repeat (first | exact q_Gr.rf | refine q_Gr.ud ?_ (by omega) (by first | assumption | rfl) rfl (by first | exact ⟨fun h9 => absurd h9 (by decide), fun h9 => absurd h9 (by decide)⟩ | (constructor <;> (intro h9; omega))) | refine q_Gr.udz ?_ (by omega) (by first | assumption | decide | omega) (by first | exact ⟨fun h9 => absurd h9 (by decide), fun h9 => absurd h9 (by decide)⟩ | (constructor <;> (intro h9; omega))) | refine q_Gr.tr ?_ (by assumption) (by intro k9 j9 hk9; omega)))) c340_122 (by first | exact q_w32_id (by omega) (by omega) | exact q_w32w _ | exact rfl) (by first | assumption | omega) (by first | assumption | omega) rfl ?_
            intro y294
            refine r_lload c340_123 rfl rfl ?_
            refine r_lcmpn c340_125 rfl (by first | exact q_w64_id (by omega) (by omega) | exact rfl) (show q_w64 (0) = 0 from rfl) ?_ ?_ ?_
            · intro b295
              refine r_if_ne c340_126 rfl (show q_w32 (-1) = -1 from rfl) ?_ ?_
              · intro b296
                refine r_aload_n c340_144 rfl rfl ?_
                refine r_getr c340_145 (by first | assumption | omega) (by decide) (by first | assumption | rfl) rfl rfl ?_
                refine r_bipush c340_148 rfl ?_
                refine r_iload_n c340_150 rfl rfl ?_
                refine r_iadd c340_151 (by first | exact q_w32_id (by omega) (by omega) | exact q_w32w _ | exact rfl) rfl ?_
                refine r_dup2 c340_152 rfl rfl rfl ?_
                refine r_laldw (q_Gr.rb (S := fun k j => k = 140 ∧ (26 ≤ j ∧ j ≤ 61 ∧ ¬(47 ≤ j ∧ j ≤ 49))) hR (by repeat (first | exact q_Gr.rf | refine q_Gr.ud ?_ (by omega) (by first | assumption | rfl) rfl (by first | exact ⟨fun h9 => absurd h9 (by decide), fun h9 => absurd h9 (by decide)⟩ | (constructor <;> (intro h9; omega))) | refine q_Gr.udz ?_ (by omega) (by first | assumption | decide | omega) (by first | exact ⟨fun h9 => absurd h9 (by decide), fun h9 => absurd h9 (by decide)⟩ | (constructor <;> (intro h9; omega))) | refine q_Gr.tr ?_ (by assumption) (by intro k9 j9 hk9; omega)))) c340_153 (by first | exact q_w32_id (by omega) (by omega) | exact q_w32w _ | exact rfl) (by first | assumption | omega) (by first | assumption | omega) rfl ?_
                intro y297
                refine r_iload_n c340_154 rfl rfl ?_
                refine r_i2l c340_155 (by first | exact q_w32_id (by omega) (by omega) | exact q_w32w _ | exact rfl) rfl ?_
                refine r_ladd c340_156 rfl rfl ?_
                refine r_last c340_157 (by first | assumption | omega) (by decide) (by first | assumption | rfl) (by first | assumption | decide) (by first | exact q_w32_id (by omega) (by omega) | exact q_w32w _ | exact rfl) (by first | assumption | omega) (by first | assumption | omega) rfl ?_
                refine r_aload_n c340_158 rfl rfl ?_
                refine r_getr c340_159 (by first | assumption | omega) (by decide) (by first | assumption | rfl) rfl rfl ?_
                refine r_bipush c340_162 rfl ?_
                refine r_iload_n c340_164 rfl rfl ?_
                refine r_iadd c340_165 (by first | exact q_w32_id (by omega) (by omega) | exact q_w32w _ | exact rfl) rfl ?_
                refine r_laldw (q_Gr.rb (S := fun k j => k = 140 ∧ (26 ≤ j ∧ j ≤ 61 ∧ ¬(47 ≤ j ∧ j ≤ 49))) hR (by repeat (first | exact q_Gr.rf | refine q_Gr.ud ?_ (by omega) (by first | assumption | rfl) rfl (by first | exact ⟨fun h9 => absurd h9 (by decide), fun h9 => absurd h9 (by decide)⟩ | (constructor <;> (intro h9; omega))) | refine q_Gr.udz ?_ (by omega) (by first | assumption | decide | omega) (by first | exact ⟨fun h9 => absurd h9 (by decide), fun h9 => absurd h9 (by decide)⟩ | (constructor <;> (intro h9; omega))) | refine q_Gr.tr ?_ (by assumption) (by intro k9 j9 hk9; omega)))) c340_166 (by first | exact q_w32_id (by omega) (by omega) | exact q_w32w _ | exact rfl) (by first | assumption | omega) (by first | assumption | omega) rfl ?_
                intro y298
                refine r_aload_n c340_167 rfl rfl ?_
                refine r_getr c340_168 (by first | assumption | omega) (by decide) (by first | assumption | rfl) rfl rfl ?_
                refine r_bipush c340_171 rfl ?_
                refine r_iload_n c340_173 rfl rfl ?_
                refine r_iadd c340_174 (by first | exact q_w32_id (by omega) (by omega) | exact q_w32w _ | exact rfl) rfl ?_
                refine r_laldw (q_Gr.rb (S := fun k j => k = 140 ∧ (26 ≤ j ∧ j ≤ 61 ∧ ¬(47 ≤ j ∧ j ≤ 49))) hR (by repeat (first | exact q_Gr.rf | refine q_Gr.ud ?_ (by omega) (by first | assumption | rfl) rfl (by first | exact ⟨fun h9 => absurd h9 (by decide), fun h9 => absurd h9 (by decide)⟩ | (constructor <;> (intro h9; omega))) | refine q_Gr.udz ?_ (by omega) (by first | assumption | decide | omega) (by first | exact ⟨fun h9 => absurd h9 (by decide), fun h9 => absurd h9 (by decide)⟩ | (constructor <;> (intro h9; omega))) | refine q_Gr.tr ?_ (by assumption) (by intro k9 j9 hk9; omega)))) c340_175 (by first | exact q_w32_id (by omega) (by omega) | exact q_w32w _ | exact rfl) (by first | assumption | omega) (by first | assumption | omega) rfl ?_
                intro y299
                refine r_lcmpn c340_176 rfl (by first | exact q_w64_id (by omega) (by omega) | exact rfl) (by first | exact q_w64_id (by omega) (by omega) | exact rfl) ?_ ?_ ?_
                · intro b300
                  refine r_if_gt c340_177 rfl (show q_w32 (-1) = -1 from rfl) ?_ ?_
                  · intro b301
                    exact absurd b301.1 (by decide)
                  · intro b301
                    refine r_aload_n c340_180 rfl rfl ?_
                    refine r_getr c340_181 (by first | assumption | omega) (by decide) (by first | assumption | rfl) rfl rfl ?_
                    refine r_bipush c340_184 rfl ?_
                    refine r_iload_n c340_186 rfl rfl ?_
                    refine r_iadd c340_187 (by first | exact q_w32_id (by omega) (by omega) | exact q_w32w _ | exact rfl) rfl ?_
                    refine r_lconst c340_188 rfl ?_
                    refine r_last c340_189 (by first | assumption | omega) (by decide) (by first | assumption | rfl) (by first | assumption | decide) (by first | exact q_w32_id (by omega) (by omega) | exact q_w32w _ | exact rfl) (by first | assumption | omega) (by first | assumption | omega) rfl ?_
                    refine r_aload_n c340_190 rfl rfl ?_
                    refine r_getr c340_191 (by first | assumption | omega) (by decide) (by first | assumption | rfl) rfl rfl ?_
                    refine r_bipush c340_194 rfl ?_
                    refine r_iload_n c340_196 rfl rfl ?_
                    refine r_iadd c340_197 (by first | exact q_w32_id (by omega) (by omega) | exact q_w32w _ | exact rfl) rfl ?_
                    refine r_laldw (q_Gr.rb (S := fun k j => k = 140 ∧ (26 ≤ j ∧ j ≤ 61 ∧ ¬(47 ≤ j ∧ j ≤ 49))) hR (by repeat (first | exact q_Gr.rf | refine q_Gr.ud ?_ (by omega) (by first | assumption | rfl) rfl (by first | exact ⟨fun h9 => absurd h9 (by decide), fun h9 => absurd h9 (by decide)⟩ | (constructor <;> (intro h9; omega))) | refine q_Gr.udz ?_ (by omega) (by first | assumption | decide | omega) (by first | exact ⟨fun h9 => absurd h9 (by decide), fun h9 => absurd h9 (by decide)⟩ | (constructor <;> (intro h9; omega))) | refine q_Gr.tr ?_ (by assumption) (by intro k9 j9 hk9; omega)))) c340_198 (by first | exact q_w32_id (by omega) (by omega) | exact q_w32w _ | exact rfl) (by first | assumption | omega) (by first | assumption | omega) rfl ?_
                    intro y302
                    refine r_aload_n c340_199 rfl rfl ?_
                    refine r_getr c340_200 (by first | assumption | omega) (by decide) (by first | assumption | rfl) rfl rfl ?_
                    refine r_bipush c340_203 rfl ?_
                    refine r_iload_n c340_205 rfl rfl ?_
                    refine r_iadd c340_206 (by first | exact q_w32_id (by omega) (by omega) | exact q_w32w _ | exact rfl) rfl ?_
                    refine r_laldw (q_Gr.rb (S := fun k j => k = 140 ∧ (26 ≤ j ∧ j ≤ 61 ∧ ¬(47 ≤ j ∧ j ≤ 49))) hR (by repeat (first | exact q_Gr.rf | refine q_Gr.ud ?_ (by omega) (by first | assumption | rfl) rfl (by first | exact ⟨fun h9 => absurd h9 (by decide), fun h9 => absurd h9 (by decide)⟩ | (constructor <;> (intro h9; omega))) | refine q_Gr.udz ?_ (by omega) (by first | assumption | decide | omega) (by first | exact ⟨fun h9 => absurd h9 (by decide), fun h9 => absurd h9 (by decide)⟩ | (constructor <;> (intro h9; omega))) | refine q_Gr.tr ?_ (by assumption) (by intro k9 j9 hk9; omega)))) c340_207 (by first | exact q_w32_id (by omega) (by omega) | exact q_w32w _ | exact rfl) (by first | assumption | omega) (by first | assumption | omega) rfl ?_
                    intro y303
                    refine r_aload_n c340_208 rfl rfl ?_
                    refine r_getr c340_209 (by first | assumption | omega) (by decide) (by first | assumption | rfl) rfl rfl ?_
                    refine r_bipush c340_212 rfl ?_
                    refine r_iload_n c340_214 rfl rfl ?_
                    refine r_iadd c340_215 (by first | exact q_w32_id (by omega) (by omega) | exact q_w32w _ | exact rfl) rfl ?_
                    refine r_laldw (q_Gr.rb (S := fun k j => k = 140 ∧ (26 ≤ j ∧ j ≤ 61 ∧ ¬(47 ≤ j ∧ j ≤ 49))) hR (by repeat (first | exact q_Gr.rf | refine q_Gr.ud ?_ (by omega) (by first | assumption | rfl) rfl (by first | exact ⟨fun h9 => absurd h9 (by decide), fun h9 => absurd h9 (by decide)⟩ | (constructor <;> (intro h9; omega))) | refine q_Gr.udz ?_ (by omega) (by first | assumption | decide | omega) (by first | exact ⟨fun h9 => absurd h9 (by decide), fun h9 => absurd h9 (by decide)⟩ | (constructor <;> (intro h9; omega))) | refine q_Gr.tr ?_ (by assumption) (by intro k9 j9 hk9; omega)))) c340_216 (by first | exact q_w32_id (by omega) (by omega) | exact q_w32w _ | exact rfl) (by first | assumption | omega) (by first | assumption | omega) rfl ?_
                    intro y304
                    refine r_ladd c340_217 rfl rfl ?_
                    refine r_lcmpn c340_218 rfl (by first | exact q_w64_id (by omega) (by omega) | exact rfl) (by first | exact q_w64_id (by omega) (by omega) | exact rfl) ?_ ?_ ?_
                    · intro b305
                      refine r_if_le c340_219 rfl (show q_w32 (-1) = -1 from rfl) ?_ ?_
                      · intro b306
                        refine r_iconst c340_232 rfl ?_
                        exact r_zret c340_233 ⟨rfl, rfl, rfl⟩ (by decide) ⟨rfl, ⟨_, rfl, (by decide)⟩, (by repeat (first | exact q_Gr.rf | refine q_Gr.ud ?_ (by omega) (by first | assumption | rfl) rfl (by first | exact ⟨fun h9 => absurd h9 (by decide), fun h9 => absurd h9 (by decide)⟩ | (constructor <;> (intro h9; omega))) | refine q_Gr.udz ?_ (by omega) (by first | assumption | decide | omega) (by first | exact ⟨fun h9 => absurd h9 (by decide), fun h9 => absurd h9 (by decide)⟩ | (constructor <;> (intro h9; omega))) | refine q_Gr.tr ?_ (by assumption) (by intro k9 j9 hk9; omega)))⟩
                      · intro b306
                        exact absurd b306.1 (by decide)
                    · intro b305
                      refine r_if_le c340_219 rfl (show q_w32 (0) = 0 from rfl) ?_ ?_
                      · intro b307
                        refine r_iconst c340_232 rfl ?_
                        exact r_zret c340_233 ⟨rfl, rfl, rfl⟩ (by decide) ⟨rfl, ⟨_, rfl, (by decide)⟩, (by repeat (first | exact q_Gr.rf | refine q_Gr.ud ?_ (by omega) (by first | assumption | rfl) rfl (by first | exact ⟨fun h9 => absurd h9 (by decide), fun h9 => absurd h9 (by decide)⟩ | (constructor <;> (intro h9; omega))) | refine q_Gr.udz ?_ (by omega) (by first | assumption | decide | omega) (by first | exact ⟨fun h9 => absurd h9 (by decide), fun h9 => absurd h9 (by decide)⟩ | (constructor <;> (intro h9; omega))) | refine q_Gr.tr ?_ (by assumption) (by intro k9 j9 hk9; omega)))⟩
                      · intro b307
                        exact absurd b307.1 (by decide)
                    · intro b305
                      refine r_if_le c340_219 rfl (show q_w32 (1) = 1 from rfl) ?_ ?_
                      · intro b308
                        exact absurd b308.1 (by decide)
                      · intro b308
                        refine r_aload_n c340_222 rfl rfl ?_
                        refine r_getr c340_223 (by first | assumption | omega) (by decide) (by first | assumption | rfl) rfl rfl ?_
                        refine r_bipush c340_226 rfl ?_
                        refine r_iload_n c340_228 rfl rfl ?_
                        refine r_iadd c340_229 (by first | exact q_w32_id (by omega) (by omega) | exact q_w32w _ | exact rfl) rfl ?_
                        refine r_lconst c340_230 rfl ?_
                        refine r_last c340_231 (by first | assumption | omega) (by decide) (by first | assumption | rfl) (by first | assumption | decide) (by first | exact q_w32_id (by omega) (by omega) | exact q_w32w _ | exact rfl) (by first | assumption | omega) (by first | assumption | omega) rfl ?_
                        refine r_iconst c340_232 rfl ?_
                        exact r_zret c340_233 ⟨rfl, rfl, rfl⟩ (by decide) ⟨rfl, ⟨_, rfl, (by decide)⟩, (by repeat (first | exact q_Gr.rf | refine q_Gr.ud ?_ (by omega) (by first | assumption | rfl) rfl (by first | exact ⟨fun h9 => absurd h9 (by decide), fun h9 => absurd h9 (by decide)⟩ | (constructor <;> (intro h9; omega))) | refine q_Gr.udz ?_ (by omega) (by first | assumption | decide | omega) (by first | exact ⟨fun h9 => absurd h9 (by decide), fun h9 => absurd h9 (by decide)⟩ | (constructor <;> (intro h9; omega))) | refine q_Gr.tr ?_ (by assumption) (by intro k9 j9 hk9; omega)))⟩
                · intro b300
                  refine r_if_gt c340_177 rfl (show q_w32 (0) = 0 from rfl) ?_ ?_
                  · intro b309
                    exact absurd b309.1 (by decide)
                  · intro b309
                    refine r_aload_n c340_180 rfl rfl ?_
                    refine r_getr c340_181 (by first | assumption | omega) (by decide) (by first | assumption | rfl) rfl rfl ?_
                    refine r_bipush c340_184 rfl ?_
                    refine r_iload_n c340_186 rfl rfl ?_
                    refine r_iadd c340_187 (by first | exact q_w32_id (by omega) (by omega) | exact q_w32w _ | exact rfl) rfl ?_
                    refine r_lconst c340_188 rfl ?_
                    refine r_last c340_189 (by first | assumption | omega) (by decide) (by first | assumption | rfl) (by first | assumption | decide) (by first | exact q_w32_id (by omega) (by omega) | exact q_w32w _ | exact rfl) (by first | assumption | omega) (by first | assumption | omega) rfl ?_
                    refine r_aload_n c340_190 rfl rfl ?_
                    refine r_getr c340_191 (by first | assumption | omega) (by decide) (by first | assumption | rfl) rfl rfl ?_
                    refine r_bipush c340_194 rfl ?_
                    refine r_iload_n c340_196 rfl rfl ?_
                    refine r_iadd c340_197 (by first | exact q_w32_id (by omega) (by omega) | exact q_w32w _ | exact rfl) rfl ?_
                    refine r_laldw (q_Gr.rb (S := fun k j => k = 140 ∧ (26 ≤ j ∧ j ≤ 61 ∧ ¬(47 ≤ j ∧ j ≤ 49))) hR (by repeat (first | exact q_Gr.rf | refine q_Gr.ud ?_ (by omega) (by first | assumption | rfl) rfl (by first | exact ⟨fun h9 => absurd h9 (by decide), fun h9 => absurd h9 (by decide)⟩ | (constructor <;> (intro h9; omega))) | refine q_Gr.udz ?_ (by omega) (by first | assumption | decide | omega) (by first | exact ⟨fun h9 => absurd h9 (by decide), fun h9 => absurd h9 (by decide)⟩ | (constructor <;> (intro h9; omega))) | refine q_Gr.tr ?_ (by assumption) (by intro k9 j9 hk9; omega)))) c340_198 (by first | exact q_w32_id (by omega) (by omega) | exact q_w32w _ | exact rfl) (by first | assumption | omega) (by first | assumption | omega) rfl ?_
                    intro y310
                    refine r_aload_n c340_199 rfl rfl ?_
                    refine r_getr c340_200 (by first | assumption | omega) (by decide) (by first | assumption | rfl) rfl rfl ?_
                    refine r_bipush c340_203 rfl ?_
                    refine r_iload_n c340_205 rfl rfl ?_
                    refine r_iadd c340_206 (by first | exact q_w32_id (by omega) (by omega) | exact q_w32w _ | exact rfl) rfl ?_
                    refine r_laldw (q_Gr.rb (S := fun k j => k = 140 ∧ (26 ≤ j ∧ j ≤ 61 ∧ ¬(47 ≤ j ∧ j ≤ 49))) hR (by repeat (first | exact q_Gr.rf | refine q_Gr.ud ?_ (by omega) (by first | assumption | rfl) rfl (by first | exact ⟨fun h9 => absurd h9 (by decide), fun h9 => absurd h9 (by decide)⟩ | (constructor <;> (intro h9; omega))) | refine q_Gr.udz ?_ (by omega) (by first | assumption | decide | omega) (by first | exact ⟨fun h9 => absurd h9 (by decide), fun h9 => absurd h9 (by decide)⟩ | (constructor <;> (intro h9; omega))) | refine q_Gr.tr ?_ (by assumption) (by intro k9 j9 hk9; omega)))) c340_207 (by first | exact q_w32_id (by omega) (by omega) | exact q_w32w _ | exact rfl) (by first | assumption | omega) (by first | assumption | omega) rfl ?_
                    intro y311
                    refine r_aload_n c340_208 rfl rfl ?_
                    refine r_getr c340_209 (by first | assumption | omega) (by decide) (by first | assumption | rfl) rfl rfl ?_
                    refine r_bipush c340_212 rfl ?_
                    refine r_iload_n c340_214 rfl rfl ?_
                    refine r_iadd c340_215 (by first | exact q_w32_id (by omega) (by omega) | exact q_w32w _ | exact rfl) rfl ?_
                    refine r_laldw (q_Gr.rb (S := fun k j => k = 140 ∧ (26 ≤ j ∧ j ≤ 61 ∧ ¬(47 ≤ j ∧ j ≤ 49))) hR (by repeat (first | exact q_Gr.rf | refine q_Gr.ud ?_ (by omega) (by first | assumption | rfl) rfl (by first | exact ⟨fun h9 => absurd h9 (by decide), fun h9 => absurd h9 (by decide)⟩ | (constructor <;> (intro h9; omega))) | refine q_Gr.udz ?_ (by omega) (by first | assumption | decide | omega) (by first | exact ⟨fun h9 => absurd h9 (by decide), fun h9 => absurd h9 (by decide)⟩ | (constructor <;> (intro h9; omega))) | refine q_Gr.tr ?_ (by assumption) (by intro k9 j9 hk9; omega)))) c340_216 (by first | exact q_w32_id (by omega) (by omega) | exact q_w32w _ | exact rfl) (by first | assumption | omega) (by first | assumption | omega) rfl ?_
                    intro y312
                    refine r_ladd c340_217 rfl rfl ?_
                    refine r_lcmpn c340_218 rfl (by first | exact q_w64_id (by omega) (by omega) | exact rfl) (by first | exact q_w64_id (by omega) (by omega) | exact rfl) ?_ ?_ ?_
                    · intro b313
                      refine r_if_le c340_219 rfl (show q_w32 (-1) = -1 from rfl) ?_ ?_
                      · intro b314
                        refine r_iconst c340_232 rfl ?_
                        exact r_zret c340_233 ⟨rfl, rfl, rfl⟩ (by decide) ⟨rfl, ⟨_, rfl, (by decide)⟩, (by repeat (first | exact q_Gr.rf | refine q_Gr.ud ?_ (by omega) (by first | assumption | rfl) rfl (by first | exact ⟨fun h9 => absurd h9 (by decide), fun h9 => absurd h9 (by decide)⟩ | (constructor <;> (intro h9; omega))) | refine q_Gr.udz ?_ (by omega) (by first | assumption | decide | omega) (by first | exact ⟨fun h9 => absurd h9 (by decide), fun h9 => absurd h9 (by decide)⟩ | (constructor <;> (intro h9; omega))) | refine q_Gr.tr ?_ (by assumption) (by intro k9 j9 hk9; omega)))⟩
                      · intro b314
                        exact absurd b314.1 (by decide)
                    · intro b313
                      refine r_if_le c340_219 rfl (show q_w32 (0) = 0 from rfl) ?_ ?_
                      · intro b315
                        refine r_iconst c340_232 rfl ?_
                        exact r_zret c340_233 ⟨rfl, rfl, rfl⟩ (by decide) ⟨rfl, ⟨_, rfl, (by decide)⟩, (by repeat (first | exact q_Gr.rf | refine q_Gr.ud ?_ (by omega) (by first | assumption | rfl) rfl (by first | exact ⟨fun h9 => absurd h9 (by decide), fun h9 => absurd h9 (by decide)⟩ | (constructor <;> (intro h9; omega))) | refine q_Gr.udz ?_ (by omega) (by first | assumption | decide | omega) (by first | exact ⟨fun h9 => absurd h9 (by decide), fun h9 => absurd h9 (by decide)⟩ | (constructor <;> (intro h9; omega))) | refine q_Gr.tr ?_ (by assumption) (by intro k9 j9 hk9; omega)))⟩
                      · intro b315
                        exact absurd b315.1 (by decide)
                    · intro b313
                      refine r_if_le c340_219 rfl (show q_w32 (1) = 1 from rfl) ?_ ?_
                      · intro b316
                        exact absurd b316.1 (by decide)
                      · intro b316
                        refine r_aload_n c340_222 rfl rfl ?_
                        refine r_getr c340_223 (by first | assumption | omega) (by decide) (by first | assumption | rfl) rfl rfl ?_
                        refine r_bipush c340_226 rfl ?_
                        refine r_iload_n c340_228 rfl rfl ?_
                        refine r_iadd c340_229 (by first | exact q_w32_id (by omega) (by omega) | exact q_w32w _ | exact rfl) rfl ?_
                        refine r_lconst c340_230 rfl ?_
                        refine r_last c340_231 (by first | assumption | omega) (by decide) (by first | assumption | rfl) (by first | assumption | decide) (by first | exact q_w32_id (by omega) (by omega) | exact q_w32w _ | exact rfl) (by first | assumption | omega) (by first | assumption | omega) rfl ?_
                        refine r_iconst c340_232 rfl ?_
                        exact r_zret c340_233 ⟨rfl, rfl, rfl⟩ (by decide) ⟨rfl, ⟨_, rfl, (by decide)⟩, (by repeat (first | exact q_Gr.rf | refine q_Gr.ud ?_ (by omega) (by first | assumption | rfl) rfl (by first | exact ⟨fun h9 => absurd h9 (by decide), fun h9 => absurd h9 (by decide)⟩ | (constructor <;> (intro h9; omega))) | refine q_Gr.udz ?_ (by omega) (by first | assumption | decide | omega) (by first | exact ⟨fun h9 => absurd h9 (by decide), fun h9 => absurd h9 (by decide)⟩ | (constructor <;> (intro h9; omega))) | refine q_Gr.tr ?_ (by assumption) (by intro k9 j9 hk9; omega)))⟩
                · intro b300
                  refine r_if_gt c340_177 rfl (show q_w32 (1) = 1 from rfl) ?_ ?_
                  · intro b317
                    refine r_aload_n c340_190 rfl rfl ?_
                    refine r_getr c340_191 (by first | assumption | omega) (by decide) (by first | assumption | rfl) rfl rfl ?_
                    refine r_bipush c340_194 rfl ?_
                    refine r_iload_n c340_196 rfl rfl ?_
                    refine r_iadd c340_197 (by first | exact q_w32_id (by omega) (by omega) | exact q_w32w _ | exact rfl) rfl ?_
                    refine r_laldw (q_Gr.rb (S := fun k j => k = 140 ∧ (26 ≤ j ∧ j ≤ 61 ∧ ¬(47 ≤ j ∧ j ≤ 49))) hR (by repeat (first | exact q_Gr.rf | refine q_Gr.ud ?_ (by omega) (by first | assumption | rfl) rfl (by first | exact ⟨fun h9 => absurd h9 (by decide), fun h9 => absurd h9 (by decide)⟩ | (constructor <;> (intro h9; omega))) | refine q_Gr.udz ?_ (by omega) (by first | assumption | decide | omega) (by first | exact ⟨fun h9 => absurd h9 (by decide), fun h9 => absurd h9 (by decide)⟩ | (constructor <;> (intro h9; omega))) | refine q_Gr.tr ?_ (by assumption) (by intro k9 j9 hk9; omega)))) c340_198 (by first | exact q_w32_id (by omega) (by omega) | exact q_w32w _ | exact rfl) (by first | assumption | omega) (by first | assumption | omega) rfl ?_
                    intro y318
                    refine r_aload_n c340_199 rfl rfl ?_
                    refine r_getr c340_200 (by first | assumption | omega) (by decide) (by first | assumption | rfl) rfl rfl ?_
                    refine r_bipush c340_203 rfl ?_
                    refine r_iload_n c340_205 rfl rfl ?_
                    refine r_iadd c340_206 (by first | exact q_w32_id (by omega) (by omega) | exact q_w32w _ | exact rfl) rfl ?_
                    refine r_laldw (q_Gr.rb (S := fun k j => k = 140 ∧ (26 ≤ j ∧ j ≤ 61 ∧ ¬(47 ≤ j ∧ j ≤ 49))) hR (by repeat (first | exact q_Gr.rf | refine q_Gr.ud ?_ (by omega) (by first | assumption | rfl) rfl (by first | exact ⟨fun h9 => absurd h9 (by decide), fun h9 => absurd h9 (by decide)⟩ | (constructor <;> (intro h9; omega))) | refine q_Gr.udz ?_ (by omega) (by first | assumption | decide | omega) (by first | exact ⟨fun h9 => absurd h9 (by decide), fun h9 => absurd h9 (by decide)⟩ | (constructor <;> (intro h9; omega))) | refine q_Gr.tr ?_ (by assumption) (by intro k9 j9 hk9; omega)))) c340_207 (by first | exact q_w32_id (by omega) (by omega) | exact q_w32w _ | exact rfl) (by first | assumption | omega) (by first | assumption | omega) rfl ?_
                    intro y319
                    refine r_aload_n c340_208 rfl rfl ?_
                    refine r_getr c340_209 (by first | assumption | omega) (by decide) (by first | assumption | rfl) rfl rfl ?_
                    refine r_bipush c340_212 rfl ?_
                    refine r_iload_n c340_214 rfl rfl ?_
                    refine r_iadd c340_215 (by first | exact q_w32_id (by omega) (by omega) | exact q_w32w _ | exact rfl) rfl ?_
                    refine r_laldw (q_Gr.rb (S := fun k j => k = 140 ∧ (26 ≤ j ∧ j ≤ 61 ∧ ¬(47 ≤ j ∧ j ≤ 49))) hR (by repeat (first | exact q_Gr.rf | refine q_Gr.ud ?_ (by omega) (by first | assumption | rfl) rfl (by first | exact ⟨fun h9 => absurd h9 (by decide), fun h9 => absurd h9 (by decide)⟩ | (constructor <;> (intro h9; omega))) | refine q_Gr.udz ?_ (by omega) (by first | assumption | decide | omega) (by first | exact ⟨fun h9 => absurd h9 (by decide), fun h9 => absurd h9 (by decide)⟩ | (constructor <;> (intro h9; omega))) | refine q_Gr.tr ?_ (by assumption) (by intro k9 j9 hk9; omega)))) c340_216 (by first | exact q_w32_id (by omega) (by omega) | exact q_w32w _ | exact rfl) (by first | assumption | omega) (by first | assumption | omega) rfl ?_
                    intro y320
                    refine r_ladd c340_217 rfl rfl ?_
                    refine r_lcmpn c340_218 rfl (by first | exact q_w64_id (by omega) (by omega) | exact rfl) (by first | exact q_w64_id (by omega) (by omega) | exact rfl) ?_ ?_ ?_
                    · intro b321
                      refine r_if_le c340_219 rfl (show q_w32 (-1) = -1 from rfl) ?_ ?_
                      · intro b322
                        refine r_iconst c340_232 rfl ?_
                        exact r_zret c340_233 ⟨rfl, rfl, rfl⟩ (by decide) ⟨rfl, ⟨_, rfl, (by decide)⟩, (by repeat (first | exact q_Gr.rf | refine q_Gr.ud ?_ (by omega) (by first | assumption | rfl) rfl (by first | exact ⟨fun h9 => absurd h9 (by decide), fun h9 => absurd h9 (by decide)⟩ | (constructor <;> (intro h9; omega))) | refine q_Gr.udz ?_ (by omega) (by first | assumption | decide | omega) (by first | exact ⟨fun h9 => absurd h9 (by decide), fun h9 => absurd h9 (by decide)⟩ | (constructor <;> (intro h9; omega))) | refine q_Gr.tr ?_ (by assumption) (by intro k9 j9 hk9; omega)))⟩
                      · intro b322
                        exact absurd b322.1 (by decide)
                    · intro b321
                      refine r_if_le c340_219 rfl (show q_w32 (0) = 0 from rfl) ?_ ?_
                      · intro b323
                        refine r_iconst c340_232 rfl ?_
                        exact r_zret c340_233 ⟨rfl, rfl, rfl⟩ (by decide) ⟨rfl, ⟨_, rfl, (by decide)⟩, (by repeat (first | exact q_Gr.rf | refine q_Gr.ud ?_ (by omega) (by first | assumption | rfl) rfl (by first | exact ⟨fun h9 => absurd h9 (by decide), fun h9 => absurd h9 (by decide)⟩ | (constructor <;> (intro h9; omega))) | refine q_Gr.udz ?_ (by omega) (by first | assumption | decide | omega) (by first | exact ⟨fun h9 => absurd h9 (by decide), fun h9 => absurd h9 (by decide)⟩ | (constructor <;> (intro h9; omega))) | refine q_Gr.tr ?_ (by assumption) (by intro k9 j9 hk9; omega)))⟩
                      · intro b323
                        exact absurd b323.1 (by decide)
                    · intro b321
                      refine r_if_le c340_219 rfl (show q_w32 (1) = 1 from rfl) ?_ ?_
                      · intro b324
                        exact absurd b324.1 (by decide)
                      · intro b324
                        refine r_aload_n c340_222 rfl rfl ?_
                        refine r_getr c340_223 (by first | assumption | omega) (by decide) (by first | assumption | rfl) rfl rfl ?_
                        refine r_bipush c340_226 rfl ?_
                        refine r_iload_n c340_228 rfl rfl ?_
                        refine r_iadd c340_229 (by first | exact q_w32_id (by omega) (by omega) | exact q_w32w _ | exact rfl) rfl ?_
                        refine r_lconst c340_230 rfl ?_
                        refine r_last c340_231 (by first | assumption | omega) (by decide) (by first | assumption | rfl) (by first | assumption | decide) (by first | exact q_w32_id (by omega) (by omega) | exact q_w32w _ | exact rfl) (by first | assumption | omega) (by first | assumption | omega) rfl ?_
                        refine r_iconst c340_232 rfl ?_
                        exact r_zret c340_233 ⟨rfl, rfl, rfl⟩ (by decide) ⟨rfl, ⟨_, rfl, (by decide)⟩, (by repeat (first | exact q_Gr.rf | refine q_Gr.ud ?_ (by omega) (by first | assumption | rfl) rfl (by first | exact ⟨fun h9 => absurd h9 (by decide), fun h9 => absurd h9 (by decide)⟩ | (constructor <;> (intro h9; omega))) | refine q_Gr.udz ?_ (by omega) (by first | assumption | decide | omega) (by first | exact ⟨fun h9 => absurd h9 (by decide), fun h9 => absurd h9 (by decide)⟩ | (constructor <;> (intro h9; omega))) | refine q_Gr.tr ?_ (by assumption) (by intro k9 j9 hk9; omega)))⟩
                  · intro b317
                    exact absurd b317.1 (by decide)
              · intro b296
                exact absurd b296.1 (by decide)
            · intro b295
              refine r_if_ne c340_126 rfl (show q_w32 (0) = 0 from rfl) ?_ ?_
              · intro b325
                exact absurd b325.1 (by decide)
              · intro b325
                refine r_aload_n c340_129 rfl rfl ?_
                refine r_getr c340_130 (by first | assumption | omega) (by decide) (by first | assumption | rfl) rfl rfl ?_
                refine r_bipush c340_133 rfl ?_
                refine r_iload_n c340_135 rfl rfl ?_
                refine r_iadd c340_136 (by first | exact q_w32_id (by omega) (by omega) | exact q_w32w _ | exact rfl) rfl ?_
                refine r_dup2 c340_137 rfl rfl rfl ?_
                refine r_laldw (q_Gr.rb (S := fun k j => k = 140 ∧ (26 ≤ j ∧ j ≤ 61 ∧ ¬(47 ≤ j ∧ j ≤ 49))) hR (by repeat (first | exact q_Gr.rf | refine q_Gr.ud ?_ (by omega) (by first | assumption | rfl) rfl (by first | exact ⟨fun h9 => absurd h9 (by decide), fun h9 => absurd h9 (by decide)⟩ | (constructor <;> (intro h9; omega))) | refine q_Gr.udz ?_ (by omega) (by first | assumption | decide | omega) (by first | exact ⟨fun h9 => absurd h9 (by decide), fun h9 => absurd h9 (by decide)⟩ | (constructor <;> (intro h9; omega))) | refine q_Gr.tr ?_ (by assumption) (by intro k9 j9 hk9; omega)))) c340_138 (by first | exact q_w32_id (by omega) (by omega) | exact q_w32w _ | exact rfl) (by first | assumption | omega) (by first | assumption | omega) rfl ?_
                intro y326
                refine r_lconst c340_139 rfl ?_
                refine r_ladd c340_140 rfl rfl ?_
                refine r_last c340_141 (by first | assumption | omega) (by decide) (by first | assumption | rfl) (by first | assumption | decide) (by first | exact q_w32_id (by omega) (by omega) | exact q_w32w _ | exact rfl) (by first | assumption | omega) (by first | assumption | omega) rfl ?_
                refine r_iconst c340_142 rfl ?_
                exact r_zret c340_143 ⟨rfl, rfl, rfl⟩ (by decide) ⟨rfl, ⟨_, rfl, (by decide)⟩, (by repeat (first | exact q_Gr.rf | refine q_Gr.ud ?_ (by omega) (by first | assumption | rfl) rfl (by first | exact ⟨fun h9 => absurd h9 (by decide), fun h9 => absurd h9 (by decide)⟩ | (constructor <;> (intro h9; omega))) | refine q_Gr.udz ?_ (by omega) (by first | assumption | decide | omega) (by first | exact ⟨fun h9 => absurd h9 (by decide), fun h9 => absurd h9 (by decide)⟩ | (constructor <;> (intro h9; omega))) | refine q_Gr.tr ?_ (by assumption) (by intro k9 j9 hk9; omega)))⟩
            · intro b295
              refine r_if_ne c340_126 rfl (show q_w32 (1) = 1 from rfl) ?_ ?_
              · intro b327
                refine r_aload_n c340_144 rfl rfl ?_
                refine r_getr c340_145 (by first | assumption | omega) (by decide) (by first | assumption | rfl) rfl rfl ?_
                refine r_bipush c340_148 rfl ?_
                refine r_iload_n c340_150 rfl rfl ?_
                refine r_iadd c340_151 (by first | exact q_w32_id (by omega) (by omega) | exact q_w32w _ | exact rfl) rfl ?_
                refine r_dup2 c340_152 rfl rfl rfl ?_
                refine r_laldw (q_Gr.rb (S := fun k j => k = 140 ∧ (26 ≤ j ∧ j ≤ 61 ∧ ¬(47 ≤ j ∧ j ≤ 49))) hR (by repeat (first | exact q_Gr.rf | refine q_Gr.ud ?_ (by omega) (by first | assumption | rfl) rfl (by first | exact ⟨fun h9 => absurd h9 (by decide), fun h9 => absurd h9 (by decide)⟩ | (constructor <;> (intro h9; omega))) | refine q_Gr.udz ?_ (by omega) (by first | assumption | decide | omega) (by first | exact ⟨fun h9 => absurd h9 (by decide), fun h9 => absurd h9 (by decide)⟩ | (constructor <;> (intro h9; omega))) | refine q_Gr.tr ?_ (by assumption) (by intro k9 j9 hk9; omega)))) c340_153 (by first | exact q_w32_id (by omega) (by omega) | exact q_w32w _ | exact rfl) (by first | assumption | omega) (by first | assumption | omega) rfl ?_
                intro y328
                refine r_iload_n c340_154 rfl rfl ?_
                refine r_i2l c340_155 (by first | exact q_w32_id (by omega) (by omega) | exact q_w32w _ | exact rfl) rfl ?_
                refine r_ladd c340_156 rfl rfl ?_
                refine r_last c340_157 (by first | assumption | omega) (by decide) (by first | assumption | rfl) (by first | assumption | decide) (by first | exact q_w32_id (by omega) (by omega) | exact q_w32w _ | exact rfl) (by first | assumption | omega) (by first | assumption | omega) rfl ?_
                refine r_aload_n c340_158 rfl rfl ?_
                refine r_getr c340_159 (by first | assumption | omega) (by decide) (by first | assumption | rfl) rfl rfl ?_
                refine r_bipush c340_162 rfl ?_
                refine r_iload_n c340_164 rfl rfl ?_
                refine r_iadd c340_165 (by first | exact q_w32_id (by omega) (by omega) | exact q_w32w _ | exact rfl) rfl ?_
                refine r_laldw (q_Gr.rb (S := fun k j => k = 140 ∧ (26 ≤ j ∧ j ≤ 61 ∧ ¬(47 ≤ j ∧ j ≤ 49))) hR (by repeat (first | exact q_Gr.rf | refine q_Gr.ud ?_ (by omega) (by first | assumption | rfl) rfl (by first | exact ⟨fun h9 => absurd h9 (by decide), fun h9 => absurd h9 (by decide)⟩ | (constructor <;> (intro h9; omega))) | refine q_Gr.udz ?_ (by omega) (by first | assumption | decide | omega) (by first | exact ⟨fun h9 => absurd h9 (by decide), fun h9 => absurd h9 (by decide)⟩ | (constructor <;> (intro h9; omega))) | refine q_Gr.tr ?_ (by assumption) (by intro k9 j9 hk9; omega)))) c340_166 (by first | exact q_w32_id (by omega) (by omega) | exact q_w32w _ | exact rfl) (by first | assumption | omega) (by first | assumption | omega) rfl ?_
                intro y329
                refine r_aload_n c340_167 rfl rfl ?_
                refine r_getr c340_168 (by first | assumption | omega) (by decide) (by first | assumption | rfl) rfl rfl ?_
                refine r_bipush c340_171 rfl ?_
                refine r_iload_n c340_173 rfl rfl ?_
                refine r_iadd c340_174 (by first | exact q_w32_id (by omega) (by omega) | exact q_w32w _ | exact rfl) rfl ?_
                refine r_laldw (q_Gr.rb (S := fun k j => k = 140 ∧ (26 ≤ j ∧ j ≤ 61 ∧ ¬(47 ≤ j ∧ j ≤ 49))) hR (by repeat (first | exact q_Gr.rf | refine q_Gr.ud ?_ (by omega) (by first | assumption | rfl) rfl (by first | exact ⟨fun h9 => absurd h9 (by decide), fun h9 => absurd h9 (by decide)⟩ | (constructor <;> (intro h9; omega))) | refine q_Gr.udz ?_ (by omega) (by first | assumption | decide | omega) (by first | exact ⟨fun h9 => absurd h9 (by decide), fun h9 => absurd h9 (by decide)⟩ | (constructor <;> (intro h9; omega))) | refine q_Gr.tr ?_ (by assumption) (by intro k9 j9 hk9; omega)))) c340_175 (by first | exact q_w32_id (by omega) (by omega) | exact q_w32w _ | exact rfl) (by first | assumption | omega) (by first | assumption | omega) rfl ?_
                intro y330
                refine r_lcmpn c340_176 rfl (by first | exact q_w64_id (by omega) (by omega) | exact rfl) (by first | exact q_w64_id (by omega) (by omega) | exact rfl) ?_ ?_ ?_
                · intro b331
                  refine r_if_gt c340_177 rfl (show q_w32 (-1) = -1 from rfl) ?_ ?_
                  · intro b332
                    exact absurd b332.1 (by decide)
                  · intro b332
                    refine r_aload_n c340_180 rfl rfl ?_
                    refine r_getr c340_181 (by first | assumption | omega) (by decide) (by first | assumption | rfl) rfl rfl ?_
                    refine r_bipush c340_184 rfl ?_
                    refine r_iload_n c340_186 rfl rfl ?_
                    refine r_iadd c340_187 (by first | exact q_w32_id (by omega) (by omega) | exact q_w32w _ | exact rfl) rfl ?_
                    refine r_lconst c340_188 rfl ?_
                    refine r_last c340_189 (by first | assumption | omega) (by decide) (by first | assumption | rfl) (by first | assumption | decide) (by first | exact q_w32_id (by omega) (by omega) | exact q_w32w _ | exact rfl) (by first | assumption | omega) (by first | assumption | omega) rfl ?_
                    refine r_aload_n c340_190 rfl rfl ?_
                    refine r_getr c340_191 (by first | assumption | omega) (by decide) (by first | assumption | rfl) rfl rfl ?_
                    refine r_bipush c340_194 rfl ?_
                    refine r_iload_n c340_196 rfl rfl ?_
                    refine r_iadd c340_197 (by first | exact q_w32_id (by omega) (by omega) | exact q_w32w _ | exact rfl) rfl ?_
                    refine r_laldw (q_Gr.rb (S := fun k j => k = 140 ∧ (26 ≤ j ∧ j ≤ 61 ∧ ¬(47 ≤ j ∧ j ≤ 49))) hR (by repeat (first | exact q_Gr.rf | refine q_Gr.ud ?_ (by omega) (by first | assumption | rfl) rfl (by first | exact ⟨fun h9 => absurd h9 (by decide), fun h9 => absurd h9 (by decide)⟩ | (constructor <;> (intro h9; omega))) | refine q_Gr.udz ?_ (by omega) (by first | assumption | decide | omega) (by first | exact ⟨fun h9 => absurd h9 (by decide), fun h9 => absurd h9 (by decide)⟩ | (constructor <;> (intro h9; omega))) | refine q_Gr.tr ?_ (by assumption) (by intro k9 j9 hk9; omega)))) c340_198 (by first | exact q_w32_id (by omega) (by omega) | exact q_w32w _ | exact rfl) (by first | assumption | omega) (by first | assumption | omega) rfl ?_
                    intro y333
                    refine r_aload_n c340_199 rfl rfl ?_
                    refine r_getr c340_200 (by first | assumption | omega) (by decide) (by first | assumption | rfl) rfl rfl ?_
                    refine r_bipush c340_203 rfl ?_
                    refine r_iload_n c340_205 rfl rfl ?_
                    refine r_iadd c340_206 (by first | exact q_w32_id (by omega) (by omega) | exact q_w32w _ | exact rfl) rfl ?_
                    refine r_laldw (q_Gr.rb (S := fun k j => k = 140 ∧ (26 ≤ j ∧ j ≤ 61 ∧ ¬(47 ≤ j ∧ j ≤ 49))) hR (by repeat (first | exact q_Gr.rf | refine q_Gr.ud ?_ (by omega) (by first | assumption | rfl) rfl (by first | exact ⟨fun h9 => absurd h9 (by decide), fun h9 => absurd h9 (by decide)⟩ | (constructor <;> (intro h9; omega))) | refine q_Gr.udz ?_ (by omega) (by first | assumption | decide | omega) (by first | exact ⟨fun h9 => absurd h9 (by decide), fun h9 => absurd h9 (by decide)⟩ | (constructor <;> (intro h9; omega))) | refine q_Gr.tr ?_ (by assumption) (by intro k9 j9 hk9; omega)))) c340_207 (by first | exact q_w32_id (by omega) (by omega) | exact q_w32w _ | exact rfl) (by first | assumption | omega) (by first | assumption | omega) rfl ?_
                    intro y334
                    refine r_aload_n c340_208 rfl rfl ?_
                    refine r_getr c340_209 (by first | assumption | omega) (by decide) (by first | assumption | rfl) rfl rfl ?_
                    refine r_bipush c340_212 rfl ?_
                    refine r_iload_n c340_214 rfl rfl ?_
                    refine r_iadd c340_215 (by first | exact q_w32_id (by omega) (by omega) | exact q_w32w _ | exact rfl) rfl ?_
                    refine r_laldw (q_Gr.rb (S := fun k j => k = 140 ∧ (26 ≤ j ∧ j ≤ 61 ∧ ¬(47 ≤ j ∧ j ≤ 49))) hR (by repeat (first | exact q_Gr.rf | refine q_Gr.ud ?_ (by omega) (by first | assumption | rfl) rfl (by first | exact ⟨fun h9 => absurd h9 (by decide), fun h9 => absurd h9 (by decide)⟩ | (constructor <;> (intro h9; omega))) | refine q_Gr.udz ?_ (by omega) (by first | assumption | decide | omega) (by first | exact ⟨fun h9 => absurd h9 (by decide), fun h9 => absurd h9 (by decide)⟩ | (constructor <;> (intro h9; omega))) | refine q_Gr.tr ?_ (by assumption) (by intro k9 j9 hk9; omega)))) c340_216 (by first | exact q_w32_id (by omega) (by omega) | exact q_w32w _ | exact rfl) (by first | assumption | omega) (by first | assumption | omega) rfl ?_
                    intro y335
                    refine r_ladd c340_217 rfl rfl ?_
                    refine r_lcmpn c340_218 rfl (by first | exact q_w64_id (by omega) (by omega) | exact rfl) (by first | exact q_w64_id (by omega) (by omega) | exact rfl) ?_ ?_ ?_
                    · intro b336
                      refine r_if_le c340_219 rfl (show q_w32 (-1) = -1 from rfl) ?_ ?_
                      · intro b337
                        refine r_iconst c340_232 rfl ?_
                        exact r_zret c340_233 ⟨rfl, rfl, rfl⟩ (by decide) ⟨rfl, ⟨_, rfl, (by decide)⟩, (by repeat (first | exact q_Gr.rf | refine q_Gr.ud ?_ (by omega) (by first | assumption | rfl) rfl (by first | exact ⟨fun h9 => absurd h9 (by decide), fun h9 => absurd h9 (by decide)⟩ | (constructor <;> (intro h9; omega))) | refine q_Gr.udz ?_ (by omega) (by first | assumption | decide | omega) (by first | exact ⟨fun h9 => absurd h9 (by decide), fun h9 => absurd h9 (by decide)⟩ | (constructor <;> (intro h9; omega))) | refine q_Gr.tr ?_ (by assumption) (by intro k9 j9 hk9; omega)))⟩
                      · intro b337
                        exact absurd b337.1 (by decide)
                    · intro b336
                      refine r_if_le c340_219 rfl (show q_w32 (0) = 0 from rfl) ?_ ?_
                      · intro b338
                        refine r_iconst c340_232 rfl ?_
                        exact r_zret c340_233 ⟨rfl, rfl, rfl⟩ (by decide) ⟨rfl, ⟨_, rfl, (by decide)⟩, (by repeat (first | exact q_Gr.rf | refine q_Gr.ud ?_ (by omega) (by first | assumption | rfl) rfl (by first | exact ⟨fun h9 => absurd h9 (by decide), fun h9 => absurd h9 (by decide)⟩ | (constructor <;> (intro h9; omega))) | refine q_Gr.udz ?_ (by omega) (by first | assumption | decide | omega) (by first | exact ⟨fun h9 => absurd h9 (by decide), fun h9 => absurd h9 (by decide)⟩ | (constructor <;> (intro h9; omega))) | refine q_Gr.tr ?_ (by assumption) (by intro k9 j9 hk9; omega)))⟩
                      · intro b338
                        exact absurd b338.1 (by decide)
                    · intro b336
                      refine r_if_le c340_219 rfl (show q_w32 (1) = 1 from rfl) ?_ ?_
                      · intro b339
                        exact absurd b339.1 (by decide)
                      · intro b339
                        refine r_aload_n c340_222 rfl rfl ?_
                        refine r_getr c340_223 (by first | assumption | omega) (by decide) (by first | assumption | rfl) rfl rfl ?_
                        refine r_bipush c340_226 rfl ?_
                        refine r_iload_n c340_228 rfl rfl ?_
                        refine r_iadd c340_229 (by first | exact q_w32_id (by omega) (by omega) | exact q_w32w _ | exact rfl) rfl ?_
                        refine r_lconst c340_230 rfl ?_
                        refine r_last c340_231 (by first | assumption | omega) (by decide) (by first | assumption | rfl) (by first | assumption | decide) (by first | exact q_w32_id (by omega) (by omega) | exact q_w32w _ | exact rfl) (by first | assumption | omega) (by first | assumption | omega) rfl ?_
                        refine r_iconst c340_232 rfl ?_
                        exact r_zret c340_233 ⟨rfl, rfl, rfl⟩ (by decide) ⟨rfl, ⟨_, rfl, (by decide)⟩, (by repeat (first | exact q_Gr.rf | refine q_Gr.ud ?_ (by omega) (by first | assumption | rfl) rfl (by first | exact ⟨fun h9 => absurd h9 (by decide), fun h9 => absurd h9 (by decide)⟩ | (constructor <;> (intro h9; omega))) | refine q_Gr.udz ?_ (by omega) (by first | assumption | decide | omega) (by first | exact ⟨fun h9 => absurd h9 (by decide), fun h9 => absurd h9 (by decide)⟩ | (constructor <;> (intro h9; omega))) | refine q_Gr.tr ?_ (by assumption) (by intro k9 j9 hk9; omega)))⟩
                · intro b331
                  refine r_if_gt c340_177 rfl (show q_w32 (0) = 0 from rfl) ?_ ?_
                  · intro b340
                    exact absurd b340.1 (by decide)
                  · intro b340
                    refine r_aload_n c340_180 rfl rfl ?_
                    refine r_getr c340_181 (by first | assumption | omega) (by decide) (by first | assumption | rfl) rfl rfl ?_
                    refine r_bipush c340_184 rfl ?_
                    refine r_iload_n c340_186 rfl rfl ?_
                    refine r_iadd c340_187 (by first | exact q_w32_id (by omega) (by omega) | exact q_w32w _ | exact rfl) rfl ?_
                    refine r_lconst c340_188 rfl ?_
                    refine r_last c340_189 (by first | assumption | omega) (by decide) (by first | assumption | rfl) (by first | assumption | decide) (by first | exact q_w32_id (by omega) (by omega) | exact q_w32w _ | exact rfl) (by first | assumption | omega) (by first | assumption | omega) rfl ?_
                    refine r_aload_n c340_190 rfl rfl ?_
                    refine r_getr c340_191 (by first | assumption | omega) (by decide) (by first | assumption | rfl) rfl rfl ?_
                    refine r_bipush c340_194 rfl ?_
                    refine r_iload_n c340_196 rfl rfl ?_
                    refine r_iadd c340_197 (by first | exact q_w32_id (by omega) (by omega) | exact q_w32w _ | exact rfl) rfl ?_
                    refine r_laldw (q_Gr.rb (S := fun k j => k = 140 ∧ (26 ≤ j ∧ j ≤ 61 ∧ ¬(47 ≤ j ∧ j ≤ 49))) hR (by repeat (first | exact q_Gr.rf | refine q_Gr.ud ?_ (by omega) (by first | assumption | rfl) rfl (by first | exact ⟨fun h9 => absurd h9 (by decide), fun h9 => absurd h9 (by decide)⟩ | (constructor <;> (intro h9; omega))) | refine q_Gr.udz ?_ (by omega) (by first | assumption | decide | omega) (by first | exact ⟨fun h9 => absurd h9 (by decide), fun h9 => absurd h9 (by decide)⟩ | (constructor <;> (intro h9; omega))) | refine q_Gr.tr ?_ (by assumption) (by intro k9 j9 hk9; omega)))) c340_198 (by first | exact q_w32_id (by omega) (by omega) | exact q_w32w _ | exact rfl) (by first | assumption | omega) (by first | assumption | omega) rfl ?_
                    intro y341
                    refine r_aload_n c340_199 rfl rfl ?_
                    refine r_getr c340_200 (by first | assumption | omega) (by decide) (by first | assumption | rfl) rfl rfl ?_
                    refine r_bipush c340_203 rfl ?_
                    refine r_iload_n c340_205 rfl rfl ?_
                    refine r_iadd c340_206 (by first | exact q_w32_id (by omega) (by omega) | exact q_w32w _ | exact rfl) rfl ?_
                    refine r_laldw (q_Gr.rb (S := fun k j => k = 140 ∧ (26 ≤ j ∧ j ≤ 61 ∧ ¬(47 ≤ j ∧ j ≤ 49))) hR (by repeat (first | exact q_Gr.rf | refine q_Gr.ud ?_ (by omega) (by first | assumption | rfl) rfl (by first | exact ⟨fun h9 => absurd h9 (by decide), fun h9 => absurd h9 (by decide)⟩ | (constructor <;> (intro h9; omega))) | refine q_Gr.udz ?_ (by omega) (by first | assumption | decide | omega) (by first | exact ⟨fun h9 => absurd h9 (by decide), fun h9 => absurd h9 (by decide)⟩ | (constructor <;> (intro h9; omega))) | refine q_Gr.tr ?_ (by assumption) (by intro k9 j9 hk9; omega)))) c340_207 (by first | exact q_w32_id (by omega) (by omega) | exact q_w32w _ | exact rfl) (by first | assumption | omega) (by first | assumption | omega) rfl ?_
                    intro y342
                    refine r_aload_n c340_208 rfl rfl ?_
                    refine r_getr c340_209 (by first | assumption | omega) (by decide) (by first | assumption | rfl) rfl rfl ?_
                    refine r_bipush c340_212 rfl ?_
                    refine r_iload_n c340_214 rfl rfl ?_
                    refine r_iadd c340_215 (by first | exact q_w32_id (by omega) (by omega) | exact q_w32w _ | exact rfl) rfl ?_
                    refine r_laldw (q_Gr.rb (S := fun k j => k = 140 ∧ (26 ≤ j ∧ j ≤ 61 ∧ ¬(47 ≤ j ∧ j ≤ 49))) hR (by repeat (first | exact q_Gr.rf | refine q_Gr.ud ?_ (by omega) (by first | assumption | rfl) rfl (by first | exact ⟨fun h9 => absurd h9 (by decide), fun h9 => absurd h9 (by decide)⟩ | (constructor <;> (intro h9; omega))) | refine q_Gr.udz ?_ (by omega) (by first | assumption | decide | omega) (by first | exact ⟨fun h9 => absurd h9 (by decide), fun h9 => absurd h9 (by decide)⟩ | (constructor <;> (intro h9; omega))) | refine q_Gr.tr ?_ (by assumption) (by intro k9 j9 hk9; omega)))) c340_216 (by first | exact q_w32_id (by omega) (by omega) | exact q_w32w _ | exact rfl) (by first | assumption | omega) (by first | assumption | omega) rfl ?_
                    intro y343
                    refine r_ladd c340_217 rfl rfl ?_
                    refine r_lcmpn c340_218 rfl (by first | exact q_w64_id (by omega) (by omega) | exact rfl) (by first | exact q_w64_id (by omega) (by omega) | exact rfl) ?_ ?_ ?_
                    · intro b344
                      refine r_if_le c340_219 rfl (show q_w32 (-1) = -1 from rfl) ?_ ?_
                      · intro b345
                        refine r_iconst c340_232 rfl ?_
                        exact r_zret c340_233 ⟨rfl, rfl, rfl⟩ (by decide) ⟨rfl, ⟨_, rfl, (by decide)⟩, (by repeat (first | exact q_Gr.rf | refine q_Gr.ud ?_ (by omega) (by first | assumption | rfl) rfl (by first | exact ⟨fun h9 => absurd h9 (by decide), fun h9 => absurd h9 (by decide)⟩ | (constructor <;> (intro h9; omega))) | refine q_Gr.udz ?_ (by omega) (by first | assumption | decide | omega) (by first | exact ⟨fun h9 => absurd h9 (by decide), fun h9 => absurd h9 (by decide)⟩ | (constructor <;> (intro h9; omega))) | refine q_Gr.tr ?_ (by assumption) (by intro k9 j9 hk9; omega)))⟩
                      · intro b345
                        exact absurd b345.1 (by decide)
                    · intro b344
                      refine r_if_le c340_219 rfl (show q_w32 (0) = 0 from rfl) ?_ ?_
                      · intro b346
                        refine r_iconst c340_232 rfl ?_
                        exact r_zret c340_233 ⟨rfl, rfl, rfl⟩ (by decide) ⟨rfl, ⟨_, rfl, (by decide)⟩, (by repeat (first | exact q_Gr.rf | refine q_Gr.ud ?_ (by omega) (by first | assumption | rfl) rfl (by first | exact ⟨fun h9 => absurd h9 (by decide), fun h9 => absurd h9 (by decide)⟩ | (constructor <;> (intro h9; omega))) | refine q_Gr.udz ?_ (by omega) (by first | assumption | decide | omega) (by first | exact ⟨fun h9 => absurd h9 (by decide), fun h9 => absurd h9 (by decide)⟩ | (constructor <;> (intro h9; omega))) | refine q_Gr.tr ?_ (by assumption) (by intro k9 j9 hk9; omega)))⟩
                      · intro b346
                        exact absurd b346.1 (by decide)
                    · intro b344
                      refine r_if_le c340_219 rfl (show q_w32 (1) = 1 from rfl) ?_ ?_
                      · intro b347
                        exact absurd b347.1 (by decide)
                      · intro b347
                        refine r_aload_n c340_222 rfl rfl ?_
                        refine r_getr c340_223 (by first | assumption | omega) (by decide) (by first | assumption | rfl) rfl rfl ?_
                        refine r_bipush c340_226 rfl ?_
                        refine r_iload_n c340_228 rfl rfl ?_
                        refine r_iadd c340_229 (by first | exact q_w32_id (by omega) (by omega) | exact q_w32w _ | exact rfl) rfl ?_
                        refine r_lconst c340_230 rfl ?_
                        refine r_last c340_231 (by first | assumption | omega) (by decide) (by first | assumption | rfl) (by first | assumption | decide) (by first | exact q_w32_id (by omega) (by omega) | exact q_w32w _ | exact rfl) (by first | assumption | omega) (by first | assumption | omega) rfl ?_
                        refine r_iconst c340_232 rfl ?_
                        exact r_zret c340_233 ⟨rfl, rfl, rfl⟩ (by decide) ⟨rfl, ⟨_, rfl, (by decide)⟩, (by repeat (first | exact q_Gr.rf | refine q_Gr.ud ?_ (by omega) (by first | assumption | rfl) rfl (by first | exact ⟨fun h9 => absurd h9 (by decide), fun h9 => absurd h9 (by decide)⟩ | (constructor <;> (intro h9; omega))) | refine q_Gr.udz ?_ (by omega) (by first | assumption | decide | omega) (by first | exact ⟨fun h9 => absurd h9 (by decide), fun h9 => absurd h9 (by decide)⟩ | (constructor <;> (intro h9; omega))) | refine q_Gr.tr ?_ (by assumption) (by intro k9 j9 hk9; omega)))⟩
                · intro b331
                  refine r_if_gt c340_177 rfl (show q_w32 (1) = 1 from rfl) ?_ ?_
                  · intro b348
                    refine r_aload_n c340_190 rfl rfl ?_
                    refine r_getr c340_191 (by first | assumption | omega) (by decide) (by first | assumption | rfl) rfl rfl ?_
                    refine r_bipush c340_194 rfl ?_
                    refine r_iload_n c340_196 rfl rfl ?_
                    refine r_iadd c340_197 (by first | exact q_w32_id (by omega) (by omega) | exact q_w32w _ | exact rfl) rfl ?_
                    refine r_laldw (q_Gr.rb (S := fun k j => k = 140 ∧ (26 ≤ j ∧ j ≤ 61 ∧ ¬(47 ≤ j ∧ j ≤ 49))) hR (by repeat (first | exact q_Gr.rf | refine q_Gr.ud ?_ (by omega) (by first | assumption | rfl) rfl (by first | exact ⟨fun h9 => absurd h9 (by decide), fun h9 => absurd h9 (by decide)⟩ | (constructor <;> (intro h9; omega))) | refine q_Gr.udz ?_ (by omega) (by first | assumption | decide | omega) (by first | exact ⟨fun h9 => absurd h9 (by decide), fun h9 => absurd h9 (by decide)⟩ | (constructor <;> (intro h9; omega))) | refine q_Gr.tr ?_ (by assumption) (by intro k9 j9 hk9; omega)))) c340_198 (by first | exact q_w32_id (by omega) (by omega) | exact q_w32w _ | exact rfl) (by first | assumption | omega) (by first | assumption | omega) rfl ?_
                    intro y349
                    refine r_aload_n c340_199 rfl rfl ?_
                    refine r_getr c340_200 (by first | assumption | omega) (by decide) (by first | assumption | rfl) rfl rfl ?_
                    refine r_bipush c340_203 rfl ?_
                    refine r_iload_n c340_205 rfl rfl ?_
                    refine r_iadd c340_206 (by first | exact q_w32_id (by omega) (by omega) | exact q_w32w _ | exact rfl) rfl ?_
                    refine r_laldw (q_Gr.rb (S := fun k j => k = 140 ∧ (26 ≤ j ∧ j ≤ 61 ∧ ¬(47 ≤ j ∧ j ≤ 49))) hR (by repeat (first | exact q_Gr.rf | refine q_Gr.ud ?_ (by omega) (by first | assumption | rfl) rfl (by first | exact ⟨fun h9 => absurd h9 (by decide), fun h9 => absurd h9 (by decide)⟩ | (constructor <;> (intro h9; omega))) | refine q_Gr.udz ?_ (by omega) (by first | assumption | decide | omega) (by first | exact ⟨fun h9 => absurd h9 (by decide), fun h9 => absurd h9 (by decide)⟩ | (constructor <;> (intro h9; omega))) | refine q_Gr.tr ?_ (by assumption) (by intro k9 j9 hk9; omega)))) c340_207 (by first | exact q_w32_id (by omega) (by omega) | exact q_w32w _ | exact rfl) (by first | assumption | omega) (by first | assumption | omega) rfl ?_
                    intro y350
                    refine r_aload_n c340_208 rfl rfl ?_
                    refine r_getr c340_209 (by first | assumption | omega) (by decide) (by first | assumption | rfl) rfl rfl ?_
                    refine r_bipush c340_212 rfl ?_
                    refine r_iload_n c340_214 rfl rfl ?_
                    refine r_iadd c340_215 (by first | exact q_w32_id (by omega) (by omega) | exact q_w32w _ | exact rfl) rfl ?_
                    refine r_laldw (q_Gr.rb (S := fun k j => k = 140 ∧ (26 ≤ j ∧ j ≤ 61 ∧ ¬(47 ≤ j ∧ j ≤ 49))) hR (by repeat (first | exact q_Gr.rf | refine q_Gr.ud ?_ (by omega) (by first | assumption | rfl) rfl (by first | exact ⟨fun h9 => absurd h9 (by decide), fun h9 => absurd h9 (by decide)⟩ | (constructor <;> (intro h9; omega))) | refine q_Gr.udz ?_ (by omega) (by first | assumption | decide | omega) (by first | exact ⟨fun h9 => absurd h9 (by decide), fun h9 => absurd h9 (by decide)⟩ | (constructor <;> (intro h9; omega))) | refine q_Gr.tr ?_ (by assumption) (by intro k9 j9 hk9; omega)))) c340_216 (by first | exact q_w32_id (by omega) (by omega) | exact q_w32w _ | exact rfl) (by first | assumption | omega) (by first | assumption | omega) rfl ?_
                    intro y351
                    refine r_ladd c340_217 rfl rfl ?_
                    refine r_lcmpn c340_218 rfl (by first | exact q_w64_id (by omega) (by omega) | exact rfl) (by first | exact q_w64_id (by omega) (by omega) | exact rfl) ?_ ?_ ?_
                    · intro b352
                      refine r_if_le c340_219 rfl (show q_w32 (-1) = -1 from rfl) ?_ ?_
                      · intro b353
                        refine r_iconst c340_232 rfl ?_
                        exact r_zret c340_233 ⟨rfl, rfl, rfl⟩ (by decide) ⟨rfl, ⟨_, rfl, (by decide)⟩, (by repeat (first | exact q_Gr.rf | refine q_Gr.ud ?_ (by omega) (by first | assumption | rfl) rfl (by first | exact ⟨fun h9 => absurd h9 (by decide), fun h9 => absurd h9 (by decide)⟩ | (constructor <;> (intro h9; omega))) | refine q_Gr.udz ?_ (by omega) (by first | assumption | decide | omega) (by first | exact ⟨fun h9 => absurd h9 (by decide), fun h9 => absurd h9 (by decide)⟩ | (constructor <;> (intro h9; omega))) | refine q_Gr.tr ?_ (by assumption) (by intro k9 j9 hk9; omega)))⟩
                      · intro b353
                        exact absurd b353.1 (by decide)
                    · intro b352
                      refine r_if_le c340_219 rfl (show q_w32 (0) = 0 from rfl) ?_ ?_
                      · intro b354
                        refine r_iconst c340_232 rfl ?_
                        exact r_zret c340_233 ⟨rfl, rfl, rfl⟩ (by decide) ⟨rfl, ⟨_, rfl, (by decide)⟩, (by repeat (first | exact q_Gr.rf | refine q_Gr.ud ?_ (by omega) (by first | assumption | rfl) rfl (by first | exact ⟨fun h9 => absurd h9 (by decide), fun h9 => absurd h9 (by decide)⟩ | (constructor <;> (intro h9; omega))) | refine q_Gr.udz ?_ (by omega) (by first | assumption | decide | omega) (by first | exact ⟨fun h9 => absurd h9 (by decide), fun h9 => absurd h9 (by decide)⟩ | (constructor <;> (intro h9; omega))) | refine q_Gr.tr ?_ (by assumption) (by intro k9 j9 hk9; omega)))⟩
                      · intro b354
                        exact absurd b354.1 (by decide)
                    · intro b352
                      refine r_if_le c340_219 rfl (show q_w32 (1) = 1 from rfl) ?_ ?_
                      · intro b355
                        exact absurd b355.1 (by decide)
                      · intro b355
                        refine r_aload_n c340_222 rfl rfl ?_
                        refine r_getr c340_223 (by first | assumption | omega) (by decide) (by first | assumption | rfl) rfl rfl ?_
                        refine r_bipush c340_226 rfl ?_
                        refine r_iload_n c340_228 rfl rfl ?_
                        refine r_iadd c340_229 (by first | exact q_w32_id (by omega) (by omega) | exact q_w32w _ | exact rfl) rfl ?_
                        refine r_lconst c340_230 rfl ?_
                        refine r_last c340_231 (by first | assumption | omega) (by decide) (by first | assumption | rfl) (by first | assumption | decide) (by first | exact q_w32_id (by omega) (by omega) | exact q_w32w _ | exact rfl) (by first | assumption | omega) (by first | assumption | omega) rfl ?_
                        refine r_iconst c340_232 rfl ?_
                        exact r_zret c340_233 ⟨rfl, rfl, rfl⟩ (by decide) ⟨rfl, ⟨_, rfl, (by decide)⟩, (by repeat (first | exact q_Gr.rf | refine q_Gr.ud ?_ (by omega) (by first | assumption | rfl) rfl (by first | exact ⟨fun h9 => absurd h9 (by decide), fun h9 => absurd h9 (by decide)⟩ | (constructor <;> (intro h9; omega))) | refine q_Gr.udz ?_ (by omega) (by first | assumption | decide | omega) (by first | exact ⟨fun h9 => absurd h9 (by decide), fun h9 => absurd h9 (by decide)⟩ | (constructor <;> (intro h9; omega))) | refine q_Gr.tr ?_ (by assumption) (by intro k9 j9 hk9; omega)))⟩
                  · intro b348
                    exact absurd b348.1 (by decide)
              · intro b327
                exact absurd b327.1 (by decide)
          · intro b293
            exact absurd b293.1 (by decide)
        · intro b290
          refine r_if_eq c340_95 rfl (show q_w32 (1) = 1 from rfl) ?_ ?_
          · intro b356
            exact absurd b356.1 (by decide)
          · intro b356
            refine r_aload_n c340_98 rfl rfl ?_
            refine r_getr c340_99 (by first | assumption | omega) (by decide) (by first | assumption | rfl) rfl rfl ?_
            refine r_bipush c340_102 rfl ?_
            refine r_iload_n c340_104 rfl rfl ?_
            refine r_iadd c340_105 (by first | exact q_w32_id (by omega) (by omega) | exact q_w32w _ | exact rfl) rfl ?_
            refine r_dup2 c340_106 rfl rfl rfl ?_
            refine r_laldw (q_Gr.rb (S := fun k j => k = 140 ∧ (26 ≤ j ∧ j ≤ 61 ∧ ¬(47 ≤ j ∧ j ≤ 49))) hR (by repeat (first | exact q_Gr.rf | refine q_Gr.ud ?_ (by omega) (by first | assumption | rfl) rfl (by first | exact ⟨fun h9 => absurd h9 (by decide), fun h9 => absurd h9 (by decide)⟩ | (constructor <;> (intro h9; omega))) | refine q_Gr.udz ?_ (by omega) (by first | assumption | decide | omega) (by first | exact ⟨fun h9 => absurd h9 (by decide), fun h9 => absurd h9 (by decide)⟩ | (constructor <;> (intro h9; omega))) | refine q_Gr.tr ?_ (by assumption) (by intro k9 j9 hk9; omega)))) c340_107 (by first | exact q_w32_id (by omega) (by omega) | exact q_w32w _ | exact rfl) (by first | assumption | omega) (by first | assumption | omega) rfl ?_
            intro y357
            refine r_iload_n c340_108 rfl rfl ?_
            refine r_i2l c340_109 (by first | exact q_w32_id (by omega) (by omega) | exact q_w32w _ | exact rfl) rfl ?_
            refine r_ladd c340_110 rfl rfl ?_
            refine r_last c340_111 (by first | assumption | omega) (by decide) (by first | assumption | rfl) (by first | assumption | decide) (by first | exact q_w32_id (by omega) (by omega) | exact q_w32w _ | exact rfl) (by first | assumption | omega) (by first | assumption | omega) rfl ?_
            refine r_iconst c340_112 rfl ?_
            exact r_zret c340_113 ⟨rfl, rfl, rfl⟩ (by decide) ⟨rfl, ⟨_, rfl, (by decide)⟩, (by repeat (first | exact q_Gr.rf | refine q_Gr.ud ?_ (by omega) (by first | assumption | rfl) rfl (by first | exact ⟨fun h9 => absurd h9 (by decide), fun h9 => absurd h9 (by decide)⟩ | (constructor <;> (intro h9; omega))) | refine q_Gr.udz ?_ (by omega) (by first | assumption | decide | omega) (by first | exact ⟨fun h9 => absurd h9 (by decide), fun h9 => absurd h9 (by decide)⟩ | (constructor <;> (intro h9; omega))) | refine q_Gr.tr ?_ (by assumption) (by intro k9 j9 hk9; omega)))⟩
      · intro b288
        refine r_aload_n c340_69 rfl rfl ?_
        refine r_getr c340_70 (by first | assumption | omega) (by decide) (by first | assumption | rfl) rfl rfl ?_
        refine r_bipush c340_73 rfl ?_
        refine r_iload_n c340_75 rfl rfl ?_
        refine r_iadd c340_76 (by first | exact q_w32_id (by omega) (by omega) | exact q_w32w _ | exact rfl) rfl ?_
        refine r_laldw (q_Gr.rb (S := fun k j => k = 140 ∧ (26 ≤ j ∧ j ≤ 61 ∧ ¬(47 ≤ j ∧ j ≤ 49))) hR (by repeat (first | exact q_Gr.rf | refine q_Gr.ud ?_ (by omega) (by first | assumption | rfl) rfl (by first | exact ⟨fun h9 => absurd h9 (by decide), fun h9 => absurd h9 (by decide)⟩ | (constructor <;> (intro h9; omega))) | refine q_Gr.udz ?_ (by omega) (by first | assumption | decide | omega) (by first | exact ⟨fun h9 => absurd h9 (by decide), fun h9 => absurd h9 (by decide)⟩ | (constructor <;> (intro h9; omega))) | refine q_Gr.tr ?_ (by assumption) (by intro k9 j9 hk9; omega)))) c340_77 (by first | exact q_w32_id (by omega) (by omega) | exact q_w32w _ | exact rfl) (by first | assumption | omega) (by first | assumption | omega) rfl ?_
        intro y358
        refine r_goto c340_78 ?_
        refine r_lstore c340_82 (lo' := [(5, _), (3, _), (0, _), (1, _), (2, _)]) rfl rfl rfl ?_
        refine r_aload_n c340_84 rfl rfl ?_
        refine r_getr c340_85 (by first | assumption | omega) (by decide) (by first | assumption | rfl) rfl rfl ?_
        refine r_bipush c340_88 rfl ?_
        refine r_iload_n c340_90 rfl rfl ?_
        refine r_iadd c340_91 (by first | exact q_w32_id (by omega) (by omega) | exact q_w32w _ | exact rfl) rfl ?_
        refine r_laldw (q_Gr.rb (S := fun k j => k = 140 ∧ (26 ≤ j ∧ j ≤ 61 ∧ ¬(47 ≤ j ∧ j ≤ 49))) hR (by repeat (first | exact q_Gr.rf | refine q_Gr.ud ?_ (by omega) (by first | assumption | rfl) rfl (by first | exact ⟨fun h9 => absurd h9 (by decide), fun h9 => absurd h9 (by decide)⟩ | (constructor <;> (intro h9; omega))) | refine q_Gr.udz ?_ (by omega) (by first | assumption | decide | omega) (by first | exact ⟨fun h9 => absurd h9 (by decide), fun h9 => absurd h9 (by decide)⟩ | (constructor <;> (intro h9; omega))) | refine q_Gr.tr ?_ (by assumption) (by intro k9 j9 hk9; omega)))) c340_92 (by first | exact q_w32_id (by omega) (by omega) | exact q_w32w _ | exact rfl) (by first | assumption | omega) (by first | assumption | omega) rfl ?_
        intro y359
        refine r_lload_n c340_93 rfl rfl ?_
        refine r_lcmpn c340_94 rfl (by first | exact q_w64_id (by omega) (by omega) | exact rfl) (show q_w64 (0) = 0 from rfl) ?_ ?_ ?_
        · intro b360
          refine r_if_eq c340_95 rfl (show q_w32 (-1) = -1 from rfl) ?_ ?_
          · intro b361
            exact absurd b361.1 (by decide)
          · intro b361
            refine r_aload_n c340_98 rfl rfl ?_
            refine r_getr c340_99 (by first | assumption | omega) (by decide) (by first | assumption | rfl) rfl rfl ?_
            refine r_bipush c340_102 rfl ?_
            refine r_iload_n c340_104 rfl rfl ?_
            refine r_iadd c340_105 (by first | exact q_w32_id (by omega) (by omega) | exact q_w32w _ | exact rfl) rfl ?_
            refine r_dup2 c340_106 rfl rfl rfl ?_
            refine r_laldw (q_Gr.rb (S := fun k j => k = 140 ∧ (26 ≤ j ∧ j ≤ 61 ∧ ¬(47 ≤ j ∧ j ≤ 49))) hR (by repeat (first | exact q_Gr.rf | refine q_Gr.ud ?_ (by omega) (by first | assumption | rfl) rfl (by first | exact ⟨fun h9 => absurd h9 (by decide), fun h9 => absurd h9 (by decide)⟩ | (constructor <;> (intro h9; omega))) | refine q_Gr.udz ?_ (by omega) (by first | assumption | decide | omega) (by first | exact ⟨fun h9 => absurd h9 (by decide), fun h9 => absurd h9 (by decide)⟩ | (constructor <;> (intro h9; omega))) | refine q_Gr.tr ?_ (by assumption) (by intro k9 j9 hk9; omega)))) c340_107 (by first | exact q_w32_id (by omega) (by omega) | exact q_w32w _ | exact rfl) (by first | assumption | omega) (by first | assumption | omega) rfl ?_
            intro y362
            refine r_iload_n c340_108 rfl rfl ?_
            refine r_i2l c340_109 (by first | exact q_w32_id (by omega) (by omega) | exact q_w32w _ | exact rfl) rfl ?_
            refine r_ladd c340_110 rfl rfl ?_
            refine r_last c340_111 (by first | assumption | omega) (by decide) (by first | assumption | rfl) (by first | assumption | decide) (by first | exact q_w32_id (by omega) (by omega) | exact q_w32w _ | exact rfl) (by first | assumption | omega) (by first | assumption | omega) rfl ?_
            refine r_iconst c340_112 rfl ?_
            exact r_zret c340_113 ⟨rfl, rfl, rfl⟩ (by decide) ⟨rfl, ⟨_, rfl, (by decide)⟩, (by repeat (first | exact q_Gr.rf | refine q_Gr.ud ?_ (by omega) (by first | assumption | rfl) rfl (by first | exact ⟨fun h9 => absurd h9 (by decide), fun h9 => absurd h9 (by decide)⟩ | (constructor <;> (intro h9; omega))) | refine q_Gr.udz ?_ (by omega) (by first | assumption | decide | omega) (by first | exact ⟨fun h9 => absurd h9 (by decide), fun h9 => absurd h9 (by decide)⟩ | (constructor <;> (intro h9; omega))) | refine q_Gr.tr ?_ (by assumption) (by intro k9 j9 hk9; omega)))⟩
        · intro b360
          refine r_if_eq c340_95 rfl (show q_w32 (0) = 0 from rfl) ?_ ?_
          · intro b363
            refine r_aload_n c340_114 rfl rfl ?_
            refine r_getr c340_115 (by first | assumption | omega) (by decide) (by first | assumption | rfl) rfl rfl ?_
            refine r_bipush c340_118 rfl ?_
            refine r_iload_n c340_120 rfl rfl ?_
            refine r_iadd c340_121 (by first | exact q_w32_id (by omega) (by omega) | exact q_w32w _ | exact rfl) rfl ?_
            refine r_laldw (q_Gr.rb (S := fun k j => k = 140 ∧ (26 ≤ j ∧ j ≤ 61 ∧ ¬(47 ≤ j ∧ j ≤ 49))) hR (by repeat (first | exact q_Gr.rf | refine q_Gr.ud ?_ (by omega) (by first | assumption | rfl) rfl (by first | exact ⟨fun h9 => absurd h9 (by decide), fun h9 => absurd h9 (by decide)⟩ | (constructor <;> (intro h9; omega))) | refine q_Gr.udz ?_ (by omega) (by first | assumption | decide | omega) (by first | exact ⟨fun h9 => absurd h9 (by decide), fun h9 => absurd h9 (by decide)⟩ | (constructor <;> (intro h9; omega))) | refine q_Gr.tr ?_ (by assumption) (by intro k9 j9 hk9; omega)))) c340_122 (by first | exact q_w32_id (by omega) (by omega) | exact q_w32w _ | exact rfl) (by first | assumption | omega) (by first | assumption | omega) rfl ?_
            intro y364
            refine r_lload c340_123 rfl rfl ?_
            refine r_lcmpn c340_125 rfl (by first | exact q_w64_id (by omega) (by omega) | exact rfl) (by first | exact q_w64_id (by omega) (by omega) | exact rfl) ?_ ?_ ?_
            · intro b365
              refine r_if_ne c340_126 rfl (show q_w32 (-1) = -1 from rfl) ?_ ?_
              · intro b366
                refine r_aload_n c340_144 rfl rfl ?_
                refine r_getr c340_145 (by first | assumption | omega) (by decide) (by first | assumption | rfl) rfl rfl ?_
                refine r_bipush c340_148 rfl ?_
                refine r_iload_n c340_150 rfl rfl ?_
                refine r_iadd c340_151 (by first | exact q_w32_id (by omega) (by omega) | exact q_w32w _ | exact rfl) rfl ?_
                refine r_dup2 c340_152 rfl rfl rfl ?_
                refine r_laldw (q_Gr.rb (S := fun k j => k = 140 ∧ (26 ≤ j ∧ j ≤ 61 ∧ ¬(47 ≤ j ∧ j ≤ 49))) hR (by repeat (first | exact q_Gr.rf | refine q_Gr.ud ?_ (by omega) (by first | assumption | rfl) rfl (by first | exact ⟨fun h9 => absurd h9 (by decide), fun h9 => absurd h9 (by decide)⟩ | (constructor <;> (intro h9; omega))) | refine q_Gr.udz ?_ (by omega) (by first | assumption | decide | omega) (by first | exact ⟨fun h9 => absurd h9 (by decide), fun h9 => absurd h9 (by decide)⟩ | (constructor <;> (intro h9; omega))) | refine q_Gr.tr ?_ (by assumption) (by intro k9 j9 hk9; omega)))) c340_153 (by first | exact q_w32_id (by omega) (by omega) | exact q_w32w _ | exact rfl) (by first | assumption | omega) (by first | assumption | omega) rfl ?_
                intro y367
                refine r_iload_n c340_154 rfl rfl ?_
                refine r_i2l c340_155 (by first | exact q_w32_id (by omega) (by omega) | exact q_w32w _ | exact rfl) rfl ?_
                refine r_ladd c340_156 rfl rfl ?_
                refine r_last c340_157 (by first | assumption | omega) (by decide) (by first | assumption | rfl) (by first | assumption | decide) (by first | exact q_w32_id (by omega) (by omega) | exact q_w32w _ | exact rfl) (by first | assumption | omega) (by first | assumption | omega) rfl ?_
                refine r_aload_n c340_158 rfl rfl ?_
                refine r_getr c340_159 (by first | assumption | omega) (by decide) (by first | assumption | rfl) rfl rfl ?_
                refine r_bipush c340_162 rfl ?_
                refine r_iload_n c340_164 rfl rfl ?_
                refine r_iadd c340_165 (by first | exact q_w32_id (by omega) (by omega) | exact q_w32w _ | exact rfl) rfl ?_
                refine r_laldw (q_Gr.rb (S := fun k j => k = 140 ∧ (26 ≤ j ∧ j ≤ 61 ∧ ¬(47 ≤ j ∧ j ≤ 49))) hR (by repeat (first | exact q_Gr.rf | refine q_Gr.ud ?_ (by omega) (by first | assumption | rfl) rfl (by first | exact ⟨fun h9 => absurd h9 (by decide), fun h9 => absurd h9 (by decide)⟩ | (constructor <;> (intro h9; omega))) | refine q_Gr.udz ?_ (by omega) (by first | assumption | decide | omega) (by first | exact ⟨fun h9 => absurd h9 (by decide), fun h9 => absurd h9 (by decide)⟩ | (constructor <;> (intro h9; omega))) | refine q_Gr.tr ?_ (by assumption) (by intro k9 j9 hk9; omega)))) c340_166 (by first | exact q_w32_id (by omega) (by omega) | exact q_w32w _ | exact rfl) (by first | assumption | omega) (by first | assumption | omega) rfl ?_
                intro y368
                refine r_aload_n c340_167 rfl rfl ?_
                refine r_getr c340_168 (by first | assumption | omega) (by decide) (by first | assumption | rfl) rfl rfl ?_
                refine r_bipush c340_171 rfl ?_
                refine r_iload_n c340_173 rfl rfl ?_
                refine r_iadd c340_174 (by first | exact q_w32_id (by omega) (by omega) | exact q_w32w _ | exact rfl) rfl ?_
                refine r_laldw (q_Gr.rb (S := fun k j => k = 140 ∧ (26 ≤ j ∧ j ≤ 61 ∧ ¬(47 ≤ j ∧ j ≤ 49))) hR (by repeat (first | exact q_Gr.rf | refine q_Gr.ud ?_ (by omega) (by first | assumption | rfl) rfl (by first | exact ⟨fun h9 => absurd h9 (by decide), fun h9 => absurd h9 (by decide)⟩ | (constructor <;> (intro h9; omega))) | refine q_Gr.udz ?_ (by omega) (by first | assumption | decide | omega) (by first | exact ⟨fun h9 => absurd h9 (by decide), fun h9 => absurd h9 (by decide)⟩ | (constructor <;> (intro h9; omega))) | refine q_Gr.tr ?_ (by assumption) (by intro k9 j9 hk9; omega)))) c340_175 (by first | exact q_w32_id (by omega) (by omega) | exact q_w32w _ | exact rfl) (by first | assumption | omega) (by first | assumption | omega) rfl ?_
                intro y369
                refine r_lcmpn c340_176 rfl (by first | exact q_w64_id (by omega) (by omega) | exact rfl) (by first | exact q_w64_id (by omega) (by omega) | exact rfl) ?_ ?_ ?_
                · intro b370
                  refine r_if_gt c340_177 rfl (show q_w32 (-1) = -1 from rfl) ?_ ?_
                  · intro b371
                    exact absurd b371.1 (by decide)
                  · intro b371
                    refine r_aload_n c340_180 rfl rfl ?_
                    refine r_getr c340_181 (by first | assumption | omega) (by decide) (by first | assumption | rfl) rfl rfl ?_
                    refine r_bipush c340_184 rfl ?_
                    refine r_iload_n c340_186 rfl rfl ?_
                    refine r_iadd c340_187 (by first | exact q_w32_id (by omega) (by omega) | exact q_w32w _ | exact rfl) rfl ?_
                    refine r_lconst c340_188 rfl ?_
                    refine r_last c340_189 (by first | assumption | omega) (by decide) (by first | assumption | rfl) (by first | assumption | decide) (by first | exact q_w32_id (by omega) (by omega) | exact q_w32w _ | exact rfl) (by first | assumption | omega) (by first | assumption | omega) rfl ?_
                    refine r_aload_n c340_190 rfl rfl ?_
                    refine r_getr c340_191 (by first | assumption | omega) (by decide) (by first | assumption | rfl) rfl rfl ?_
                    refine r_bipush c340_194 rfl ?_
                    refine r_iload_n c340_196 rfl rfl ?_
                    refine r_iadd c340_197 (by first | exact q_w32_id (by omega) (by omega) | exact q_w32w _ | exact rfl) rfl ?_
                    refine r_laldw (q_Gr.rb (S := fun k j => k = 140 ∧ (26 ≤ j ∧ j ≤ 61 ∧ ¬(47 ≤ j ∧ j ≤ 49))) hR (by repeat (first | exact q_Gr.rf | refine q_Gr.ud ?_ (by omega) (by first | assumption | rfl) rfl (by first | exact ⟨fun h9 => absurd h9 (by decide), fun h9 => absurd h9 (by decide)⟩ | (constructor <;> (intro h9; omega))) | refine q_Gr.udz ?_ (by omega) (by first | assumption | decide | omega) (by first | exact ⟨fun h9 => absurd h9 (by decide), fun h9 => absurd h9 (by decide)⟩ | (constructor <;> (intro h9; omega))) | refine q_Gr.tr ?_ (by assumption) (by intro k9 j9 hk9; omega)))) c340_198 (by first | exact q_w32_id (by omega) (by omega) | exact q_w32w _ | exact rfl) (by first | assumption | omega) (by first | assumption | omega) rfl ?_
                    intro y372
                    refine r_aload_n c340_199 rfl rfl ?_
                    refine r_getr c340_200 (by first | assumption | omega) (by decide) (by first | assumption | rfl) rfl rfl ?_
                    refine r_bipush c340_203 rfl ?_
                    refine r_iload_n c340_205 rfl rfl ?_
                    refine r_iadd c340_206 (by first | exact q_w32_id (by omega) (by omega) | exact q_w32w _ | exact rfl) rfl ?_
                    refine r_laldw (q_Gr.rb (S := fun k j => k = 140 ∧ (26 ≤ j ∧ j ≤ 61 ∧ ¬(47 ≤ j ∧ j ≤ 49))) hR (by repeat (first | exact q_Gr.rf | refine q_Gr.ud ?_ (by omega) (by first | assumption | rfl) rfl (by first | exact ⟨fun h9 => absurd h9 (by decide), fun h9 => absurd h9 (by decide)⟩ | (constructor <;> (intro h9; omega))) | refine q_Gr.udz ?_ (by omega) (by first | assumption | decide | omega) (by first | exact ⟨fun h9 => absurd h9 (by decide), fun h9 => absurd h9 (by decide)⟩ | (constructor <;> (intro h9; omega))) | refine q_Gr.tr ?_ (by assumption) (by intro k9 j9 hk9; omega)))) c340_207 (by first | exact q_w32_id (by omega) (by omega) | exact q_w32w _ | exact rfl) (by first | assumption | omega) (by first | assumption | omega) rfl ?_
                    intro y373
                    refine r_aload_n c340_208 rfl rfl ?_
                    refine r_getr c340_209 (by first | assumption | omega) (by decide) (by first | assumption | rfl) rfl rfl ?_
                    refine r_bipush c340_212 rfl ?_
                    refine r_iload_n c340_214 rfl rfl ?_
                    refine r_iadd c340_215 (by first | exact q_w32_id (by omega) (by omega) | exact q_w32w _ | exact rfl) rfl ?_
                    refine r_laldw (q_Gr.rb (S := fun k j => k = 140 ∧ (26 ≤ j ∧ j ≤ 61 ∧ ¬(47 ≤ j ∧ j ≤ 49))) hR (by repeat (first | exact q_Gr.rf | refine q_Gr.ud ?_ (by omega) (by first | assumption | rfl) rfl (by first | exact ⟨fun h9 => absurd h9 (by decide), fun h9 => absurd h9 (by decide)⟩ | (constructor <;> (intro h9; omega))) | refine q_Gr.udz ?_ (by omega) (by first | assumption | decide | omega) (by first | exact ⟨fun h9 => absurd h9 (by decide), fun h9 => absurd h9 (by decide)⟩ | (constructor <;> (intro h9; omega))) | refine q_Gr.tr ?_ (by assumption) (by intro k9 j9 hk9; omega)))) c340_216 (by first | exact q_w32_id (by omega) (by omega) | exact q_w32w _ | exact rfl) (by first | assumption | omega) (by first | assumption | omega) rfl ?_
                    intro y374
                    refine r_ladd c340_217 rfl rfl ?_
                    refine r_lcmpn c340_218 rfl (by first | exact q_w64_id (by omega) (by omega) | exact rfl) (by first | exact q_w64_id (by omega) (by omega) | exact rfl) ?_ ?_ ?_
                    · intro b375
                      refine r_if_le c340_219 rfl (show q_w32 (-1) = -1 from rfl) ?_ ?_
                      · intro b376
                        refine r_iconst c340_232 rfl ?_
                        exact r_zret c340_233 ⟨rfl, rfl, rfl⟩ (by decide) ⟨rfl, ⟨_, rfl, (by decide)⟩, (by repeat (first | exact q_Gr.rf | refine q_Gr.ud ?_ (by omega) (by first | assumption | rfl) rfl (by first | exact ⟨fun h9 => absurd h9 (by decide), fun h9 => absurd h9 (by decide)⟩ | (constructor <;> (intro h9; omega))) | refine q_Gr.udz ?_ (by omega) (by first | assumption | decide | omega) (by first | exact ⟨fun h9 => absurd h9 (by decide), fun h9 => absurd h9 (by decide)⟩ | (constructor <;> (intro h9; omega))) | refine q_Gr.tr ?_ (by assumption) (by intro k9 j9 hk9; omega)))⟩
                      · intro b376
                        exact absurd b376.1 (by decide)
                    · intro b375
                      refine r_if_le c340_219 rfl (show q_w32 (0) = 0 from rfl) ?_ ?_
                      · intro b377
                        refine r_iconst c340_232 rfl ?_
                        exact r_zret c340_233 ⟨rfl, rfl, rfl⟩ (by decide) ⟨rfl, ⟨_, rfl, (by decide)⟩, (by repeat (first | exact q_Gr.rf | refine q_Gr.ud ?_ (by omega) (by first | assumption | rfl) rfl (by first | exact ⟨fun h9 => absurd h9 (by decide), fun h9 => absurd h9 (by decide)⟩ | (constructor <;> (intro h9; omega))) | refine q_Gr.udz ?_ (by omega) (by first | assumption | decide | omega) (by first | exact ⟨fun h9 => absurd h9 (by decide), fun h9 => absurd h9 (by decide)⟩ | (constructor <;> (intro h9; omega))) | refine q_Gr.tr ?_ (by assumption) (by intro k9 j9 hk9; omega)))⟩
                      · intro b377
                        exact absurd b377.1 (by decide)
                    · intro b375
                      refine r_if_le c340_219 rfl (show q_w32 (1) = 1 from rfl) ?_ ?_
                      · intro b378
                        exact absurd b378.1 (by decide)
                      · intro b378
                        refine r_aload_n c340_222 rfl rfl ?_
                        refine r_getr c340_223 (by first | assumption | omega) (by decide) (by first | assumption | rfl) rfl rfl ?_
                        refine r_bipush c340_226 rfl ?_
                        refine r_iload_n c340_228 rfl rfl ?_
                        refine r_iadd c340_229 (by first | exact q_w32_id (by omega) (by omega) | exact q_w32w _ | exact rfl) rfl ?_
                        refine r_lconst c340_230 rfl ?_
                        refine r_last c340_231 (by first | assumption | omega) (by decide) (by first | assumption | rfl) (by first | assumption | decide) (by first | exact q_w32_id (by omega) (by omega) | exact q_w32w _ | exact rfl) (by first | assumption | omega) (by first | assumption | omega) rfl ?_
                        refine r_iconst c340_232 rfl ?_
                        exact r_zret c340_233 ⟨rfl, rfl, rfl⟩ (by decide) ⟨rfl, ⟨_, rfl, (by decide)⟩, (by repeat (first | exact q_Gr.rf | refine q_Gr.ud ?_ (by omega) (by first | assumption | rfl) rfl (by first | exact ⟨fun h9 => absurd h9 (by decide), fun h9 => absurd h9 (by decide)⟩ | (constructor <;> (intro h9; omega))) | refine q_Gr.udz ?_ (by omega) (by first | assumption | decide | omega) (by first | exact ⟨fun h9 => absurd h9 (by decide), fun h9 => absurd h9 (by decide)⟩ | (constructor <;> (intro h9; omega))) | refine q_Gr.tr ?_ (by assumption) (by intro k9 j9 hk9; omega)))⟩
                · intro b370
                  refine r_if_gt c340_177 rfl (show q_w32 (0) = 0 from rfl) ?_ ?_
                  · intro b379
                    exact absurd b379.1 (by decide)
                  · intro b379
                    refine r_aload_n c340_180 rfl rfl ?_
                    refine r_getr c340_181 (by first | assumption | omega) (by decide) (by first | assumption | rfl) rfl rfl ?_
                    refine r_bipush c340_184 rfl ?_
                    refine r_iload_n c340_186 rfl rfl ?_
                    refine r_iadd c340_187 (by first | exact q_w32_id (by omega) (by omega) | exact q_w32w _ | exact rfl) rfl ?_
                    refine r_lconst c340_188 rfl ?_
                    refine r_last c340_189 (by first | assumption | omega) (by decide) (by first | assumption | rfl) (by first | assumption | decide) (by first | exact q_w32_id (by omega) (by omega) | exact q_w32w _ | exact rfl) (by first | assumption | omega) (by first | assumption | omega) rfl ?_
                    refine r_aload_n c340_190 rfl rfl ?_
                    refine r_getr c340_191 (by first | assumption | omega) (by decide) (by first | assumption | rfl) rfl rfl ?_
                    refine r_bipush c340_194 rfl ?_
                    refine r_iload_n c340_196 rfl rfl ?_
                    refine r_iadd c340_197 (by first | exact q_w32_id (by omega) (by omega) | exact q_w32w _ | exact rfl) rfl ?_
                    refine r_laldw (q_Gr.rb (S := fun k j => k = 140 ∧ (26 ≤ j ∧ j ≤ 61 ∧ ¬(47 ≤ j ∧ j ≤ 49))) hR (by repeat (first | exact q_Gr.rf | refine q_Gr.ud ?_ (by omega) (by first | assumption | rfl) rfl (by first | exact ⟨fun h9 => absurd h9 (by decide), fun h9 => absurd h9 (by decide)⟩ | (constructor <;> (intro h9; omega))) | refine q_Gr.udz ?_ (by omega) (by first | assumption | decide | omega) (by first | exact ⟨fun h9 => absurd h9 (by decide), fun h9 => absurd h9 (by decide)⟩ | (constructor <;> (intro h9; omega))) | refine q_Gr.tr ?_ (by assumption) (by intro k9 j9 hk9; omega)))) c340_198 (by first | exact q_w32_id (by omega) (by omega) | exact q_w32w _ | exact rfl) (by first | assumption | omega) (by first | assumption | omega) rfl ?_
                    intro y380
                    refine r_aload_n c340_199 rfl rfl ?_
                    refine r_getr c340_200 (by first | assumption | omega) (by decide) (by first | assumption | rfl) rfl rfl ?_
                    refine r_bipush c340_203 rfl ?_
                    refine r_iload_n c340_205 rfl rfl ?_
                    refine r_iadd c340_206 (by first | exact q_w32_id (by omega) (by omega) | exact q_w32w _ | exact rfl) rfl ?_
                    refine r_laldw (q_Gr.rb (S := fun k j => k = 140 ∧ (26 ≤ j ∧ j ≤ 61 ∧ ¬(47 ≤ j ∧ j ≤ 49))) hR (by repeat (first | exact q_Gr.rf | refine q_Gr.ud ?_ (by omega) (by first | assumption | rfl) rfl (by first | exact ⟨fun h9 => absurd h9 (by decide), fun h9 => absurd h9 (by decide)⟩ | (constructor <;> (intro h9; omega))) | refine q_Gr.udz ?_ (by omega) (by first | assumption | decide | omega) (by first | exact ⟨fun h9 => absurd h9 (by decide), fun h9 => absurd h9 (by decide)⟩ | (constructor <;> (intro h9; omega))) | refine q_Gr.tr ?_ (by assumption) (by intro k9 j9 hk9; omega)))) c340_207 (by first | exact q_w32_id (by omega) (by omega) | exact q_w32w _ | exact rfl) (by first | assumption | omega) (by first | assumption | omega) rfl ?_
                    intro y381
                    refine r_aload_n c340_208 rfl rfl ?_
                    refine r_getr c340_209 (by first | assumption | omega) (by decide) (by first | assumption | rfl) rfl rfl ?_
                    refine r_bipush c340_212 rfl ?_
                    refine r_iload_n c340_214 rfl rfl ?_
                    refine r_iadd c340_215 (by first | exact q_w32_id (by omega) (by omega) | exact q_w32w _ | exact rfl) rfl ?_
                    refine r_laldw (q_Gr.rb (S := fun k j => k = 140 ∧ (26 ≤ j ∧ j ≤ 61 ∧ ¬(47 ≤ j ∧ j ≤ 49))) hR (by repeat (first | exact q_Gr.rf | refine q_Gr.ud ?_ (by omega) (by first | assumption | rfl) rfl (by first | exact ⟨fun h9 => absurd h9 (by decide), fun h9 => absurd h9 (by decide)⟩ | (constructor <;> (intro h9; omega))) | refine q_Gr.udz ?_ (by omega) (by first | assumption | decide | omega) (by first | exact ⟨fun h9 => absurd h9 (by decide), fun h9 => absurd h9 (by decide)⟩ | (constructor <;> (intro h9; omega))) | refine q_Gr.tr ?_ (by assumption) (by intro k9 j9 hk9; omega)))) c340_216 (by first | exact q_w32_id (by omega) (by omega) | exact q_w32w _ | exact rfl) (by first | assumption | omega) (by first | assumption | omega) rfl ?_
                    intro y382
                    refine r_ladd c340_217 rfl rfl ?_
                    refine r_lcmpn c340_218 rfl (by first | exact q_w64_id (by omega) (by omega) | exact rfl) (by first | exact q_w64_id (by omega) (by omega) | exact rfl) ?_ ?_ ?_
                    · intro b383
                      refine r_if_le c340_219 rfl (show q_w32 (-1) = -1 from rfl) ?_ ?_
                      · intro b384
                        refine r_iconst c340_232 rfl ?_
                        exact r_zret c340_233 ⟨rfl, rfl, rfl⟩ (by decide) ⟨rfl, ⟨_, rfl, (by decide)⟩, (by repeat (first | exact q_Gr.rf | refine q_Gr.ud ?_ (by omega) (by first | assumption | rfl) rfl (by first | exact ⟨fun h9 => absurd h9 (by decide), fun h9 => absurd h9 (by decide)⟩ | (constructor <;> (intro h9; omega))) | refine q_Gr.udz ?_ (by omega) (by first | assumption | decide | omega) (by first | exact ⟨fun h9 => absurd h9 (by decide), fun h9 => absurd h9 (by decide)⟩ | (constructor <;> (intro h9; omega))) | refine q_Gr.tr ?_ (by assumption) (by intro k9 j9 hk9; omega)))⟩
                      · intro b384
                        exact absurd b384.1 (by decide)
                    · intro b383
                      refine r_if_le c340_219 rfl (show q_w32 (0) = 0 from rfl) ?_ ?_
                      · intro b385
                        refine r_iconst c340_232 rfl ?_
                        exact r_zret c340_233 ⟨rfl, rfl, rfl⟩ (by decide) ⟨rfl, ⟨_, rfl, (by decide)⟩, (by repeat (first | exact q_Gr.rf | refine q_Gr.ud ?_ (by omega) (by first | assumption | rfl) rfl (by first | exact ⟨fun h9 => absurd h9 (by decide), fun h9 => absurd h9 (by decide)⟩ | (constructor <;> (intro h9; omega))) | refine q_Gr.udz ?_ (by omega) (by first | assumption | decide | omega) (by first | exact ⟨fun h9 => absurd h9 (by decide), fun h9 => absurd h9 (by decide)⟩ | (constructor <;> (intro h9; omega))) | refine q_Gr.tr ?_ (by assumption) (by intro k9 j9 hk9; omega)))⟩
                      · intro b385
                        exact absurd b385.1 (by decide)
                    · intro b383
                      refine r_if_le c340_219 rfl (show q_w32 (1) = 1 from rfl) ?_ ?_
                      · intro b386
                        exact absurd b386.1 (by decide)
                      · intro b386
                        refine r_aload_n c340_222 rfl rfl ?_
                        refine r_getr c340_223 (by first | assumption | omega) (by decide) (by first | assumption | rfl) rfl rfl ?_
                        refine r_bipush c340_226 rfl ?_
                        refine r_iload_n c340_228 rfl rfl ?_
                        refine r_iadd c340_229 (by first | exact q_w32_id (by omega) (by omega) | exact q_w32w _ | exact rfl) rfl ?_
                        refine r_lconst c340_230 rfl ?_
                        refine r_last c340_231 (by first | assumption | omega) (by decide) (by first | assumption | rfl) (by first | assumption | decide) (by first | exact q_w32_id (by omega) (by omega) | exact q_w32w _ | exact rfl) (by first | assumption | omega) (by first | assumption | omega) rfl ?_
                        refine r_iconst c340_232 rfl ?_
                        exact r_zret c340_233 ⟨rfl, rfl, rfl⟩ (by decide) ⟨rfl, ⟨_, rfl, (by decide)⟩, (by repeat (first | exact q_Gr.rf | refine q_Gr.ud ?_ (by omega) (by first | assumption | rfl) rfl (by first | exact ⟨fun h9 => absurd h9 (by decide), fun h9 => absurd h9 (by decide)⟩ | (constructor <;> (intro h9; omega))) | refine q_Gr.udz ?_ (by omega) (by first | assumption | decide | omega) (by first | exact ⟨fun h9 => absurd h9 (by decide), fun h9 => absurd h9 (by decide)⟩ | (constructor <;> (intro h9; omega))) | refine q_Gr.tr ?_ (by assumption) (by intro k9 j9 hk9; omega)))⟩
                · intro b370
                  refine r_if_gt c340_177 rfl (show q_w32 (1) = 1 from rfl) ?_ ?_
                  · intro b387
                    refine r_aload_n c340_190 rfl rfl ?_
                    refine r_getr c340_191 (by first | assumption | omega) (by decide) (by first | assumption | rfl) rfl rfl ?_
                    refine r_bipush c340_194 rfl ?_
                    refine r_iload_n c340_196 rfl rfl ?_
                    refine r_iadd c340_197 (by first | exact q_w32_id (by omega) (by omega) | exact q_w32w _ | exact rfl) rfl ?_
                    refine r_laldw (q_Gr.rb (S := fun k j => k = 140 ∧ (26 ≤ j ∧ j ≤ 61 ∧ ¬(47 ≤ j ∧ j ≤ 49))) hR (by repeat (first | exact q_Gr.rf | refine q_Gr.ud ?_ (by omega) (by first | assumption | rfl) rfl (by first | exact ⟨fun h9 => absurd h9 (by decide), fun h9 => absurd h9 (by decide)⟩ | (constructor <;> (intro h9; omega))) | refine q_Gr.udz ?_ (by omega) (by first | assumption | decide | omega) (by first | exact ⟨fun h9 => absurd h9 (by decide), fun h9 => absurd h9 (by decide)⟩ | (constructor <;> (intro h9; omega))) | refine q_Gr.tr ?_ (by assumption) (by intro k9 j9 hk9; omega)))) c340_198 (by first | exact q_w32_id (by omega) (by omega) | exact q_w32w _ | exact rfl) (by first | assumption | omega) (by first | assumption | omega) rfl ?_
                    intro y388
                    refine r_aload_n c340_199 rfl rfl ?_
                    refine r_getr c340_200 (by first | assumption | omega) (by decide) (by first | assumption | rfl) rfl rfl ?_
                    refine r_bipush c340_203 rfl ?_
                    refine r_iload_n c340_205 rfl rfl ?_
                    refine r_iadd c340_206 (by first | exact q_w32_id (by omega) (by omega) | exact q_w32w _ | exact rfl) rfl ?_
                    refine r_laldw (q_Gr.rb (S := fun k j => k = 140 ∧ (26 ≤ j ∧ j ≤ 61 ∧ ¬(47 ≤ j ∧ j ≤ 49))) hR (by repeat (first | exact q_Gr.rf | refine q_Gr.ud ?_ (by omega) (by first | assumption | rfl) rfl (by first | exact ⟨fun h9 => absurd h9 (by decide), fun h9 => absurd h9 (by decide)⟩ | (constructor <;> (intro h9; omega))) | refine q_Gr.udz ?_ (by omega) (by first | assumption | decide | omega) (by first | exact ⟨fun h9 => absurd h9 (by decide), fun h9 => absurd h9 (by decide)⟩ | (constructor <;> (intro h9; omega))) | refine q_Gr.tr ?_ (by assumption) (by intro k9 j9 hk9; omega)))) c340_207 (by first | exact q_w32_id (by omega) (by omega) | exact q_w32w _ | exact rfl) (by first | assumption | omega) (by first | assumption | omega) rfl ?_
                    intro y389
                    refine r_aload_n c340_208 rfl rfl ?_
                    refine r_getr c340_209 (by first | assumption | omega) (by decide) (by first | assumption | rfl) rfl rfl ?_
                    refine r_bipush c340_212 rfl ?_
                    refine r_iload_n c340_214 rfl rfl ?_
                    refine r_iadd c340_215 (by first | exact q_w32_id (by omega) (by omega) | exact q_w32w _ | exact rfl) rfl ?_
                    refine r_laldw (q_Gr.rb (S := fun k j => k = 140 ∧ (26 ≤ j ∧ j ≤ 61 ∧ ¬(47 ≤ j ∧ j ≤ 49))) hR (by repeat (first | exact q_Gr.rf | refine q_Gr.ud ?_ (by omega) (by first | assumption | rfl) rfl (by first | exact ⟨fun h9 => absurd h9 (by decide), fun h9 => absurd h9 (by decide)⟩ | (constructor <;> (intro h9; omega))) | refine q_Gr.udz ?_ (by omega) (by first | assumption | decide | omega) (by first | exact ⟨fun h9 => absurd h9 (by decide), fun h9 => absurd h9 (by decide)⟩ | (constructor <;> (intro h9; omega))) | refine q_Gr.tr ?_ (by assumption) (by intro k9 j9 hk9; omega)))) c340_216 (by first | exact q_w32_id (by omega) (by omega) | exact q_w32w _ | exact rfl) (by first | assumption | omega) (by first | assumption | omega) rfl ?_
                    intro y390
                    refine r_ladd c340_217 rfl rfl ?_
                    refine r_lcmpn c340_218 rfl (by first | exact q_w64_id (by omega) (by omega) | exact rfl) (by first | exact q_w64_id (by omega) (by omega) | exact rfl) ?_ ?_ ?_
                    · intro b391
                      refine r_if_le c340_219 rfl (show q_w32 (-1) = -1 from rfl) ?_ ?_
                      · intro b392
                        refine r_iconst c340_232 rfl ?_
                        exact r_zret c340_233 ⟨rfl, rfl, rfl⟩ (by decide) ⟨rfl, ⟨_, rfl, (by decide)⟩, (by repeat (first | exact q_Gr.rf | refine q_Gr.ud ?_ (by omega) (by first | assumption | rfl) rfl (by first | exact ⟨fun h9 => absurd h9 (by decide), fun h9 => absurd h9 (by decide)⟩ | (constructor <;> (intro h9; omega))) | refine q_Gr.udz ?_ (by omega) (by first | assumption | decide | omega) (by first | exact ⟨fun h9 => absurd h9 (by decide), fun h9 => absurd h9 (by decide)⟩ | (constructor <;> (intro h9; omega))) | refine q_Gr.tr ?_ (by assumption) (by intro k9 j9 hk9; omega)))⟩
                      · intro b392
                        exact absurd b392.1 (by decide)
                    · intro b391
                      refine r_if_le c340_219 rfl (show q_w32 (0) = 0 from rfl) ?_ ?_
                      · intro b393
                        refine r_iconst c340_232 rfl ?_
                        exact r_zret c340_233 ⟨rfl, rfl, rfl⟩ (by decide) ⟨rfl, ⟨_, rfl, (by decide)⟩, (by repeat (first | exact q_Gr.rf | refine q_Gr.ud ?_ (by omega) (by first | assumption | rfl) rfl (by first | exact ⟨fun h9 => absurd h9 (by decide), fun h9 => absurd h9 (by decide)⟩ | (constructor <;> (intro h9; omega))) | refine q_Gr.udz ?_ (by omega) (by first | assumption | decide | omega) (by first | exact ⟨fun h9 => absurd h9 (by decide), fun h9 => absurd h9 (by decide)⟩ | (constructor <;> (intro h9; omega))) | refine q_Gr.tr ?_ (by assumption) (by intro k9 j9 hk9; omega)))⟩
                      · intro b393
                        exact absurd b393.1 (by decide)
                    · intro b391
                      refine r_if_le c340_219 rfl (show q_w32 (1) = 1 from rfl) ?_ ?_
                      · intro b394
                        exact absurd b394.1 (by decide)
                      · intro b394
                        refine r_aload_n c340_222 rfl rfl ?_
                        refine r_getr c340_223 (by first | assumption | omega) (by decide) (by first | assumption | rfl) rfl rfl ?_
                        refine r_bipush c340_226 rfl ?_
                        refine r_iload_n c340_228 rfl rfl ?_
                        refine r_iadd c340_229 (by first | exact q_w32_id (by omega) (by omega) | exact q_w32w _ | exact rfl) rfl ?_
                        refine r_lconst c340_230 rfl ?_
                        refine r_last c340_231 (by first | assumption | omega) (by decide) (by first | assumption | rfl) (by first | assumption | decide) (by first | exact q_w32_id (by omega) (by omega) | exact q_w32w _ | exact rfl) (by first | assumption | omega) (by first | assumption | omega) rfl ?_
                        refine r_iconst c340_232 rfl ?_
                        exact r_zret c340_233 ⟨rfl, rfl, rfl⟩ (by decide) ⟨rfl, ⟨_, rfl, (by decide)⟩, (by repeat (first | exact q_Gr.rf | refine q_Gr.ud ?_ (by omega) (by first | assumption | rfl) rfl (by first | exact ⟨fun h9 => absurd h9 (by decide), fun h9 => absurd h9 (by decide)⟩ | (constructor <;> (intro h9; omega))) | refine q_Gr.udz ?_ (by omega) (by first | assumption | decide | omega) (by first | exact ⟨fun h9 => absurd h9 (by decide), fun h9 => absurd h9 (by decide)⟩ | (constructor <;> (intro h9; omega))) | refine q_Gr.tr ?_ (by assumption) (by intro k9 j9 hk9; omega)))⟩
                  · intro b387
                    exact absurd b387.1 (by decide)
              · intro b366
                exact absurd b366.1 (by decide)
            · intro b365
              refine r_if_ne c340_126 rfl (show q_w32 (0) = 0 from rfl) ?_ ?_
              · intro b395
                exact absurd b395.1 (by decide)
              · intro b395
                refine r_aload_n c340_129 rfl rfl ?_
                refine r_getr c340_130 (by first | assumption | omega) (by decide) (by first | assumption | rfl) rfl rfl ?_
                refine r_bipush c340_133 rfl ?_
                refine r_iload_n c340_135 rfl rfl ?_
                refine r_iadd c340_136 (by first | exact q_w32_id (by omega) (by omega) | exact q_w32w _ | exact rfl) rfl ?_
                refine r_dup2 c340_137 rfl rfl rfl ?_
                refine r_laldw (q_Gr.rb (S := fun k j => k = 140 ∧ (26 ≤ j ∧ j ≤ 61 ∧ ¬(47 ≤ j ∧ j ≤ 49))) hR (by repeat (first | exact q_Gr.rf | refine q_Gr.ud ?_ (by omega) (by first | assumption | rfl) rfl (by first | exact ⟨fun h9 => absurd h9 (by decide), fun h9 => absurd h9 (by decide)⟩ | (constructor <;> (intro h9; omega))) | refine q_Gr.udz ?_ (by omega) (by first | assumption | decide | omega) (by first | exact ⟨fun h9 => absurd h9 (by decide), fun h9 => absurd h9 (by decide)⟩ | (constructor <;> (intro h9; omega))) | refine q_Gr.tr ?_ (by assumption) (by intro k9 j9 hk9; omega)))) c340_138 (by first | exact q_w32_id (by omega) (by omega) | exact q_w32w _ | exact rfl) (by first | assumption | omega) (by first | assumption | omega) rfl ?_
                intro y396
                refine r_lconst c340_139 rfl ?_
                refine r_ladd c340_140 rfl rfl ?_
                refine r_last c340_141 (by first | assumption | omega) (by decide) (by first | assumption | rfl) (by first | assumption | decide) (by first | exact q_w32_id (by omega) (by omega) | exact q_w32w _ | exact rfl) (by first | assumption | omega) (by first | assumption | omega) rfl ?_
                refine r_iconst c340_142 rfl ?_
                exact r_zret c340_143 ⟨rfl, rfl, rfl⟩ (by decide) ⟨rfl, ⟨_, rfl, (by decide)⟩, (by repeat (first | exact q_Gr.rf | refine q_Gr.ud ?_ (by omega) (by first | assumption | rfl) rfl (by first | exact ⟨fun h9 => absurd h9 (by decide), fun h9 => absurd h9 (by decide)⟩ | (constructor <;> (intro h9; omega))) | refine q_Gr.udz ?_ (by omega) (by first | assumption | decide | omega) (by first | exact ⟨fun h9 => absurd h9 (by decide), fun h9 => absurd h9 (by decide)⟩ | (constructor <;> (intro h9; omega))) | refine q_Gr.tr ?_ (by assumption) (by intro k9 j9 hk9; omega)))⟩
            · intro b365
              refine r_if_ne c340_126 rfl (show q_w32 (1) = 1 from rfl) ?_ ?_
              · intro b397
                refine r_aload_n c340_144 rfl rfl ?_
                refine r_getr c340_145 (by first | assumption | omega) (by decide) (by first | assumption | rfl) rfl rfl ?_
                refine r_bipush c340_148 rfl ?_
                refine r_iload_n c340_150 rfl rfl ?_
                refine r_iadd c340_151 (by first | exact q_w32_id (by omega) (by omega) | exact q_w32w _ | exact rfl) rfl ?_
                refine r_dup2 c340_152 rfl rfl rfl ?_
                refine r_laldw (q_Gr.rb (S := fun k j => k = 140 ∧ (26 ≤ j ∧ j ≤ 61 ∧ ¬(47 ≤ j ∧ j ≤ 49))) hR (by repeat (first | exact q_Gr.rf | refine q_Gr.ud ?_ (by omega) (by first | assumption | rfl) rfl (by first | exact ⟨fun h9 => absurd h9 (by decide), fun h9 => absurd h9 (by decide)⟩ | (constructor <;> (intro h9; omega))) | refine q_Gr.udz ?_ (by omega) (by first | assumption | decide | omega) (by first | exact ⟨fun h9 => absurd h9 (by decide), fun h9 => absurd h9 (by decide)⟩ | (constructor <;> (intro h9; omega))) | refine q_Gr.tr ?_ (by assumption) (by intro k9 j9 hk9; omega)))) c340_153 (by first | exact q_w32_id (by omega) (by omega) | exact q_w32w _ | exact rfl) (by first | assumption | omega) (by first | assumption | omega) rfl ?_
                intro y398
                refine r_iload_n c340_154 rfl rfl ?_
                refine r_i2l c340_155 (by first | exact q_w32_id (by omega) (by omega) | exact q_w32w _ | exact rfl) rfl ?_
                refine r_ladd c340_156 rfl rfl ?_
                refine r_last c340_157 (by first | assumption | omega) (by decide) (by first | assumption | rfl) (by first | assumption | decide) (by first | exact q_w32_id (by omega) (by omega) | exact q_w32w _ | exact rfl) (by first | assumption | omega) (by first | assumption | omega) rfl ?_
                refine r_aload_n c340_158 rfl rfl ?_
                refine r_getr c340_159 (by first | assumption | omega) (by decide) (by first | assumption | rfl) rfl rfl ?_
                refine r_bipush c340_162 rfl ?_
                refine r_iload_n c340_164 rfl rfl ?_
                refine r_iadd c340_165 (by first | exact q_w32_id (by omega) (by omega) | exact q_w32w _ | exact rfl) rfl ?_
                refine r_laldw (q_Gr.rb (S := fun k j => k = 140 ∧ (26 ≤ j ∧ j ≤ 61 ∧ ¬(47 ≤ j ∧ j ≤ 49))) hR (by repeat (first | exact q_Gr.rf | refine q_Gr.ud ?_ (by omega) (by first | assumption | rfl) rfl (by first | exact ⟨fun h9 => absurd h9 (by decide), fun h9 => absurd h9 (by decide)⟩ | (constructor <;> (intro h9; omega))) | refine q_Gr.udz ?_ (by omega) (by first | assumption | decide | omega) (by first | exact ⟨fun h9 => absurd h9 (by decide), fun h9 => absurd h9 (by decide)⟩ | (constructor <;> (intro h9; omega))) | refine q_Gr.tr ?_ (by assumption) (by intro k9 j9 hk9; omega)))) c340_166 (by first | exact q_w32_id (by omega) (by omega) | exact q_w32w _ | exact rfl) (by first | assumption | omega) (by first | assumption | omega) rfl ?_
                intro y399
                refine r_aload_n c340_167 rfl rfl ?_
                refine r_getr c340_168 (by first | assumption | omega) (by decide) (by first | assumption | rfl) rfl rfl ?_
                refine r_bipush c340_171 rfl ?_
                refine r_iload_n c340_173 rfl rfl ?_
                refine r_iadd c340_174 (by first | exact q_w32_id (by omega) (by omega) | exact q_w32w _ | exact rfl) rfl ?_
                refine r_laldw (q_Gr.rb (S := fun k j => k = 140 ∧ (26 ≤ j ∧ j ≤ 61 ∧ ¬(47 ≤ j ∧ j ≤ 49))) hR (by repeat (first | exact q_Gr.rf | refine q_Gr.ud ?_ (by omega) (by first | assumption | rfl) rfl (by first | exact ⟨fun h9 => absurd h9 (by decide), fun h9 => absurd h9 (by decide)⟩ | (constructor <;> (intro h9; omega))) | refine q_Gr.udz ?_ (by omega) (by first | assumption | decide | omega) (by first | exact ⟨fun h9 => absurd h9 (by decide), fun h9 => absurd h9 (by decide)⟩ | (constructor <;> (intro h9; omega))) | refine q_Gr.tr ?_ (by assumption) (by intro k9 j9 hk9; omega)))) c340_175 (by first | exact q_w32_id (by omega) (by omega) | exact q_w32w _ | exact rfl) (by first | assumption | omega) (by first | assumption | omega) rfl ?_
                intro y400
                refine r_lcmpn c340_176 rfl (by first | exact q_w64_id (by omega) (by omega) | exact rfl) (by first | exact q_w64_id (by omega) (by omega) | exact rfl) ?_ ?_ ?_
                · intro b401
                  refine r_if_gt c340_177 rfl (show q_w32 (-1) = -1 from rfl) ?_ ?_
                  · intro b402
                    exact absurd b402.1 (by decide)
                  · intro b402
                    refine r_aload_n c340_180 rfl rfl ?_
                    refine r_getr c340_181 (by first | assumption | omega) (by decide) (by first | assumption | rfl) rfl rfl ?_
                    refine r_bipush c340_184 rfl ?_
                    refine r_iload_n c340_186 rfl rfl ?_
                    refine r_iadd c340_187 (by first | exact q_w32_id (by omega) (by omega) | exact q_w32w _ | exact rfl) rfl ?_
                    refine r_lconst c340_188 rfl ?_
                    refine r_last c340_189 (by first | assumption | omega) (by decide) (by first | assumption | rfl) (by first | assumption | decide) (by first | exact q_w32_id (by omega) (by omega) | exact q_w32w _ | exact rfl) (by first | assumption | omega) (by first | assumption | omega) rfl ?_
                    refine r_aload_n c340_190 rfl rfl ?_
                    refine r_getr c340_191 (by first | assumption | omega) (by decide) (by first | assumption | rfl) rfl rfl ?_
                    refine r_bipush c340_194 rfl ?_
                    refine r_iload_n c340_196 rfl rfl ?_
                    refine r_iadd c340_197 (by first | exact q_w32_id (by omega) (by omega) | exact q_w32w _ | exact rfl) rfl ?_
                    refine r_laldw (q_Gr.rb (S := fun k j => k = 140 ∧ (26 ≤ j ∧ j ≤ 61 ∧ ¬(47 ≤ j ∧ j ≤ 49))) hR (by repeat (first | exact q_Gr.rf | refine q_Gr.ud ?_ (by omega) (by first | assumption | rfl) rfl (by first | exact ⟨fun h9 => absurd h9 (by decide), fun h9 => absurd h9 (by decide)⟩ | (constructor <;> (intro h9; omega))) | refine q_Gr.udz ?_ (by omega) (by first | assumption | decide | omega) (by first | exact ⟨fun h9 => absurd h9 (by decide), fun h9 => absurd h9 (by decide)⟩ | (constructor <;> (intro h9; omega))) | refine q_Gr.tr ?_ (by assumption) (by intro k9 j9 hk9; omega)))) c340_198 (by first | exact q_w32_id (by omega) (by omega) | exact q_w32w _ | exact rfl) (by first | assumption | omega) (by first | assumption | omega) rfl ?_
                    intro y403
                    refine r_aload_n c340_199 rfl rfl ?_
                    refine r_getr c340_200 (by first | assumption | omega) (by decide) (by first | assumption | rfl) rfl rfl ?_
                    refine r_bipush c340_203 rfl ?_
                    refine r_iload_n c340_205 rfl rfl ?_
                    refine r_iadd c340_206 (by first | exact q_w32_id (by omega) (by omega) | exact q_w32w _ | exact rfl) rfl ?_
                    refine r_laldw (q_Gr.rb (S := fun k j => k = 140 ∧ (26 ≤ j ∧ j ≤ 61 ∧ ¬(47 ≤ j ∧ j ≤ 49))) hR (by repeat (first | exact q_Gr.rf | refine q_Gr.ud ?_ (by omega) (by first | assumption | rfl) rfl (by first | exact ⟨fun h9 => absurd h9 (by decide), fun h9 => absurd h9 (by decide)⟩ | (constructor <;> (intro h9; omega))) | refine q_Gr.udz ?_ (by omega) (by first | assumption | decide | omega) (by first | exact ⟨fun h9 => absurd h9 (by decide), fun h9 => absurd h9 (by decide)⟩ | (constructor <;> (intro h9; omega))) | refine q_Gr.tr ?_ (by assumption) (by intro k9 j9 hk9; omega)))) c340_207 (by first | exact q_w32_id (by omega) (by omega) | exact q_w32w _ | exact rfl) (by first | assumption | omega) (by first | assumption | omega) rfl ?_
                    intro y404
                    refine r_aload_n c340_208 rfl rfl ?_
                    refine r_getr c340_209 (by first | assumption | omega) (by decide) (by first | assumption | rfl) rfl rfl ?_
                    refine r_bipush c340_212 rfl ?_
                    refine r_iload_n c340_214 rfl rfl ?_
                    refine r_iadd c340_215 (by first | exact q_w32_id (by omega) (by omega) | exact q_w32w _ | exact rfl) rfl ?_
                    refine r_laldw (q_Gr.rb (S := fun k j => k = 140 ∧ (26 ≤ j ∧ j ≤ 61 ∧ ¬(47 ≤ j ∧ j ≤ 49))) hR (by repeat (first | exact q_Gr.rf | refine q_Gr.ud ?_ (by omega) (by first | assumption | rfl) rfl (by first | exact ⟨fun h9 => absurd h9 (by decide), fun h9 => absurd h9 (by decide)⟩ | (constructor <;> (intro h9; omega))) | refine q_Gr.udz ?_ (by omega) (by first | assumption | decide | omega) (by first | exact ⟨fun h9 => absurd h9 (by decide), fun h9 => absurd h9 (by decide)⟩ | (constructor <;> (intro h9; omega))) | refine q_Gr.tr ?_ (by assumption) (by intro k9 j9 hk9; omega)))) c340_216 (by first | exact q_w32_id (by omega) (by omega) | exact q_w32w _ | exact rfl) (by first | assumption | omega) (by first | assumption | omega) rfl ?_
                    intro y405
                    refine r_ladd c340_217 rfl rfl ?_
                    refine r_lcmpn c340_218 rfl (by first | exact q_w64_id (by omega) (by omega) | exact rfl) (by first | exact q_w64_id (by omega) (by omega) | exact rfl) ?_ ?_ ?_
                    · intro b406
                      refine r_if_le c340_219 rfl (show q_w32 (-1) = -1 from rfl) ?_ ?_
                      · intro b407
                        refine r_iconst c340_232 rfl ?_
                        exact r_zret c340_233 ⟨rfl, rfl, rfl⟩ (by decide) ⟨rfl, ⟨_, rfl, (by decide)⟩, (by repeat (first | exact q_Gr.rf | refine q_Gr.ud ?_ (by omega) (by first | assumption | rfl) rfl (by first | exact ⟨fun h9 => absurd h9 (by decide), fun h9 => absurd h9 (by decide)⟩ | (constructor <;> (intro h9; omega))) | refine q_Gr.udz ?_ (by omega) (by first | assumption | decide | omega) (by first | exact ⟨fun h9 => absurd h9 (by decide), fun h9 => absurd h9 (by decide)⟩ | (constructor <;> (intro h9; omega))) | refine q_Gr.tr ?_ (by assumption) (by intro k9 j9 hk9; omega)))⟩
                      · intro b407
                        exact absurd b407.1 (by decide)
                    · intro b406
                      refine r_if_le c340_219 rfl (show q_w32 (0) = 0 from rfl) ?_ ?_
                      · intro b408
                        refine r_iconst c340_232 rfl ?_
                        exact r_zret c340_233 ⟨rfl, rfl, rfl⟩ (by decide) ⟨rfl, ⟨_, rfl, (by decide)⟩, (by repeat (first | exact q_Gr.rf | refine q_Gr.ud ?_ (by omega) (by first | assumption | rfl) rfl (by first | exact ⟨fun h9 => absurd h9 (by decide), fun h9 => absurd h9 (by decide)⟩ | (constructor <;> (intro h9; omega))) | refine q_Gr.udz ?_ (by omega) (by first | assumption | decide | omega) (by first | exact ⟨fun h9 => absurd h9 (by decide), fun h9 => absurd h9 (by decide)⟩ | (constructor <;> (intro h9; omega))) | refine q_Gr.tr ?_ (by assumption) (by intro k9 j9 hk9; omega)))⟩
                      · intro b408
                        exact absurd b408.1 (by decide)
                    · intro b406
                      refine r_if_le c340_219 rfl (show q_w32 (1) = 1 from rfl) ?_ ?_
                      · intro b409
                        exact absurd b409.1 (by decide)
                      · intro b409
                        refine r_aload_n c340_222 rfl rfl ?_
                        refine r_getr c340_223 (by first | assumption | omega) (by decide) (by first | assumption | rfl) rfl rfl ?_
                        refine r_bipush c340_226 rfl ?_
                        refine r_iload_n c340_228 rfl rfl ?_
                        refine r_iadd c340_229 (by first | exact q_w32_id (by omega) (by omega) | exact q_w32w _ | exact rfl) rfl ?_
                        refine r_lconst c340_230 rfl ?_
                        refine r_last c340_231 (by first | assumption | omega) (by decide) (by first | assumption | rfl) (by first | assumption | decide) (by first | exact q_w32_id (by omega) (by omega) | exact q_w32w _ | exact rfl) (by first | assumption | omega) (by first | assumption | omega) rfl ?_
                        refine r_iconst c340_232 rfl ?_
                        exact r_zret c340_233 ⟨rfl, rfl, rfl⟩ (by decide) ⟨rfl, ⟨_, rfl, (by decide)⟩, (by repeat (first | exact q_Gr.rf | refine q_Gr.ud ?_ (by omega) (by first | assumption | rfl) rfl (by first | exact ⟨fun h9 => absurd h9 (by decide), fun h9 => absurd h9 (by decide)⟩ | (constructor <;> (intro h9; omega))) | refine q_Gr.udz ?_ (by omega) (by first | assumption | decide | omega) (by first | exact ⟨fun h9 => absurd h9 (by decide), fun h9 => absurd h9 (by decide)⟩ | (constructor <;> (intro h9; omega))) | refine q_Gr.tr ?_ (by assumption) (by intro k9 j9 hk9; omega)))⟩
                · intro b401
                  refine r_if_gt c340_177 rfl (show q_w32 (0) = 0 from rfl) ?_ ?_
                  · intro b410
                    exact absurd b410.1 (by decide)
                  · intro b410
                    refine r_aload_n c340_180 rfl rfl ?_
                    refine r_getr c340_181 (by first | assumption | omega) (by decide) (by first | assumption | rfl) rfl rfl ?_
                    refine r_bipush c340_184 rfl ?_
                    refine r_iload_n c340_186 rfl rfl ?_
                    refine r_iadd c340_187 (by first | exact q_w32_id (by omega) (by omega) | exact q_w32w _ | exact rfl) rfl ?_
                    refine r_lconst c340_188 rfl ?_
                    refine r_last c340_189 (by first | assumption | omega) (by decide) (by first | assumption | rfl) (by first | assumption | decide) (by first | exact q_w32_id (by omega) (by omega) | exact q_w32w _ | exact rfl) (by first | assumption | omega) (by first | assumption | omega) rfl ?_
                    refine r_aload_n c340_190 rfl rfl ?_
                    refine r_getr c340_191 (by first | assumption | omega) (by decide) (by first | assumption | rfl) rfl rfl ?_
                    refine r_bipush c340_194 rfl ?_
                    refine r_iload_n c340_196 rfl rfl ?_
                    refine r_iadd c340_197 (by first | exact q_w32_id (by omega) (by omega) | exact q_w32w _ | exact rfl) rfl ?_
                    refine r_laldw (q_Gr.rb (S := fun k j => k = 140 ∧ (26 ≤ j ∧ j ≤ 61 ∧ ¬(47 ≤ j ∧ j ≤ 49))) hR (by repeat (first | exact q_Gr.rf | refine q_Gr.ud ?_ (by omega) (by first | assumption | rfl) rfl (by first | exact ⟨fun h9 => absurd h9 (by decide), fun h9 => absurd h9 (by decide)⟩ | (constructor <;> (intro h9; omega))) | refine q_Gr.udz ?_ (by omega) (by first | assumption | decide | omega) (by first | exact ⟨fun h9 => absurd h9 (by decide), fun h9 => absurd h9 (by decide)⟩ | (constructor <;> (intro h9; omega))) | refine q_Gr.tr ?_ (by assumption) (by intro k9 j9 hk9; omega)))) c340_198 (by first | exact q_w32_id (by omega) (by omega) | exact q_w32w _ | exact rfl) (by first | assumption | omega) (by first | assumption | omega) rfl ?_
                    intro y411
                    refine r_aload_n c340_199 rfl rfl ?_
                    refine r_getr c340_200 (by first | assumption | omega) (by decide) (by first | assumption | rfl) rfl rfl ?_
                    refine r_bipush c340_203 rfl ?_
                    refine r_iload_n c340_205 rfl rfl ?_
                    refine r_iadd c340_206 (by first | exact q_w32_id (by omega) (by omega) | exact q_w32w _ | exact rfl) rfl ?_
                    refine r_laldw (q_Gr.rb (S := fun k j => k = 140 ∧ (26 ≤ j ∧ j ≤ 61 ∧ ¬(47 ≤ j ∧ j ≤ 49))) hR (by repeat (first | exact q_Gr.rf | refine q_Gr.ud ?_ (by omega) (by first | assumption | rfl) rfl (by first | exact ⟨fun h9 => absurd h9 (by decide), fun h9 => absurd h9 (by decide)⟩ | (constructor <;> (intro h9; omega))) | refine q_Gr.udz ?_ (by omega) (by first | assumption | decide | omega) (by first | exact ⟨fun h9 => absurd h9 (by decide), fun h9 => absurd h9 (by decide)⟩ | (constructor <;> (intro h9; omega))) | refine q_Gr.tr ?_ (by assumption) (by intro k9 j9 hk9; omega)))) c340_207 (by first | exact q_w32_id (by omega) (by omega) | exact q_w32w _ | exact rfl) (by first | assumption | omega) (by first | assumption | omega) rfl ?_
                    intro y412
                    refine r_aload_n c340_208 rfl rfl ?_
                    refine r_getr c340_209 (by first | assumption | omega) (by decide) (by first | assumption | rfl) rfl rfl ?_
                    refine r_bipush c340_212 rfl ?_
                    refine r_iload_n c340_214 rfl rfl ?_
                    refine r_iadd c340_215 (by first | exact q_w32_id (by omega) (by omega) | exact q_w32w _ | exact rfl) rfl ?_
                    refine r_laldw (q_Gr.rb (S := fun k j => k = 140 ∧ (26 ≤ j ∧ j ≤ 61 ∧ ¬(47 ≤ j ∧ j ≤ 49))) hR (by repeat (first | exact q_Gr.rf | refine q_Gr.ud ?_ (by omega) (by first | assumption | rfl) rfl (by first | exact ⟨fun h9 => absurd h9 (by decide), fun h9 => absurd h9 (by decide)⟩ | (constructor <;> (intro h9; omega))) | refine q_Gr.udz ?_ (by omega) (by first | assumption | decide | omega) (by first | exact ⟨fun h9 => absurd h9 (by decide), fun h9 => absurd h9 (by decide)⟩ | (constructor <;> (intro h9; omega))) | refine q_Gr.tr ?_ (by assumption) (by intro k9 j9 hk9; omega)))) c340_216 (by first | exact q_w32_id (by omega) (by omega) | exact q_w32w _ | exact rfl) (by first | assumption | omega) (by first | assumption | omega) rfl ?_
                    intro y413
                    refine r_ladd c340_217 rfl rfl ?_
                    refine r_lcmpn c340_218 rfl (by first | exact q_w64_id (by omega) (by omega) | exact rfl) (by first | exact q_w64_id (by omega) (by omega) | exact rfl) ?_ ?_ ?_
                    · intro b414
                      refine r_if_le c340_219 rfl (show q_w32 (-1) = -1 from rfl) ?_ ?_
                      · intro b415
                        refine r_iconst c340_232 rfl ?_
                        exact r_zret c340_233 ⟨rfl, rfl, rfl⟩ (by decide) ⟨rfl, ⟨_, rfl, (by decide)⟩, (by repeat (first | exact q_Gr.rf | refine q_Gr.ud ?_ (by omega) (by first | assumption | rfl) rfl (by first | exact ⟨fun h9 => absurd h9 (by decide), fun h9 => absurd h9 (by decide)⟩ | (constructor <;> (intro h9; omega))) | refine q_Gr.udz ?_ (by omega) (by first | assumption | decide | omega) (by first | exact ⟨fun h9 => absurd h9 (by decide), fun h9 => absurd h9 (by decide)⟩ | (constructor <;> (intro h9; omega))) | refine q_Gr.tr ?_ (by assumption) (by intro k9 j9 hk9; omega)))⟩
                      · intro b415
                        exact absurd b415.1 (by decide)
                    · intro b414
                      refine r_if_le c340_219 rfl (show q_w32 (0) = 0 from rfl) ?_ ?_
                      · intro b416
                        refine r_iconst c340_232 rfl ?_
                        exact r_zret c340_233 ⟨rfl, rfl, rfl⟩ (by decide) ⟨rfl, ⟨_, rfl, (by decide)⟩, (by repeat (first | exact q_Gr.rf | refine q_Gr.ud ?_ (by omega) (by first | assumption | rfl) rfl (by first | exact ⟨fun h9 => absurd h9 (by decide), fun h9 => absurd h9 (by decide)⟩ | (constructor <;> (intro h9; omega))) | refine q_Gr.udz ?_ (by omega) (by first | assumption | decide | omega) (by first | exact ⟨fun h9 => absurd h9 (by decide), fun h9 => absurd h9 (by decide)⟩ | (constructor <;> (intro h9; omega))) | refine q_Gr.tr ?_ (by assumption) (by intro k9 j9 hk9; omega)))⟩
                      · intro b416
                        exact absurd b416.1 (by decide)
                    · intro b414
                      refine r_if_le c340_219 rfl (show q_w32 (1) = 1 from rfl) ?_ ?_
                      · intro b417
                        exact absurd b417.1 (by decide)
                      · intro b417
                        refine r_aload_n c340_222 rfl rfl ?_
                        refine r_getr c340_223 (by first | assumption | omega) (by decide) (by first | assumption | rfl) rfl rfl ?_
                        refine r_bipush c340_226 rfl ?_
                        refine r_iload_n c340_228 rfl rfl ?_
                        refine r_iadd c340_229 (by first | exact q_w32_id (by omega) (by omega) | exact q_w32w _ | exact rfl) rfl ?_
                        refine r_lconst c340_230 rfl ?_
                        refine r_last c340_231 (by first | assumption | omega) (by decide) (by first | assumption | rfl) (by first | assumption | decide) (by first | exact q_w32_id (by omega) (by omega) | exact q_w32w _ | exact rfl) (by first | assumption | omega) (by first | assumption | omega) rfl ?_
                        refine r_iconst c340_232 rfl ?_
                        exact r_zret c340_233 ⟨rfl, rfl, rfl⟩ (by decide) ⟨rfl, ⟨_, rfl, (by decide)⟩, (by repeat (first | exact q_Gr.rf | refine q_Gr.ud ?_ (by omega) (by first | assumption | rfl) rfl (by first | exact ⟨fun h9 => absurd h9 (by decide), fun h9 => absurd h9 (by decide)⟩ | (constructor <;> (intro h9; omega))) | refine q_Gr.udz ?_ (by omega) (by first | assumption | decide | omega) (by first | exact ⟨fun h9 => absurd h9 (by decide), fun h9 => absurd h9 (by decide)⟩ | (constructor <;> (intro h9; omega))) | refine q_Gr.tr ?_ (by assumption) (by intro k9 j9 hk9; omega)))⟩
                · intro b401
                  refine r_if_gt c340_177 rfl (show q_w32 (1) = 1 from rfl) ?_ ?_
                  · intro b418
                    refine r_aload_n c340_190 rfl rfl ?_
                    refine r_getr c340_191 (by first | assumption | omega) (by decide) (by first | assumption | rfl) rfl rfl ?_
                    refine r_bipush c340_194 rfl ?_
                    refine r_iload_n c340_196 rfl rfl ?_
                    refine r_iadd c340_197 (by first | exact q_w32_id (by omega) (by omega) | exact q_w32w _ | exact rfl) rfl ?_
                    refine r_laldw (q_Gr.rb (S := fun k j => k = 140 ∧ (26 ≤ j ∧ j ≤ 61 ∧ ¬(47 ≤ j ∧ j ≤ 49))) hR (by repeat (first | exact q_Gr.rf | refine q_Gr.ud ?_ (by omega) (by first | assumption | rfl) rfl (by first | exact ⟨fun h9 => absurd h9 (by decide), fun h9 => absurd h9 (by decide)⟩ | (constructor <;> (intro h9; omega))) | refine q_Gr.udz ?_ (by omega) (by first | assumption | decide | omega) (by first | exact ⟨fun h9 => absurd h9 (by decide), fun h9 => absurd h9 (by decide)⟩ | (constructor <;> (intro h9; omega))) | refine q_Gr.tr ?_ (by assumption) (by intro k9 j9 hk9; omega)))) c340_198 (by first | exact q_w32_id (by omega) (by omega) | exact q_w32w _ | exact rfl) (by first | assumption | omega) (by first | assumption | omega) rfl ?_
                    intro y419
                    refine r_aload_n c340_199 rfl rfl ?_
                    refine r_getr c340_200 (by first | assumption | omega) (by decide) (by first | assumption | rfl) rfl rfl ?_
                    refine r_bipush c340_203 rfl ?_
                    refine r_iload_n c340_205 rfl rfl ?_
                    refine r_iadd c340_206 (by first | exact q_w32_id (by omega) (by omega) | exact q_w32w _ | exact rfl) rfl ?_
                    refine r_laldw (q_Gr.rb (S := fun k j => k = 140 ∧ (26 ≤ j ∧ j ≤ 61 ∧ ¬(47 ≤ j ∧ j ≤ 49))) hR (by repeat (first | exact q_Gr.rf | refine q_Gr.ud ?_ (by omega) (by first | assumption | rfl) rfl (by first | exact ⟨fun h9 => absurd h9 (by decide), fun h9 => absurd h9 (by decide)⟩ | (constructor <;> (intro h9; omega))) | refine q_Gr.udz ?_ (by omega) (by first | assumption | decide | omega) (by first | exact ⟨fun h9 => absurd h9 (by decide), fun h9 => absurd h9 (by decide)⟩ | (constructor <;> (intro h9; omega))) | refine q_Gr.tr ?_ (by assumption) (by intro k9 j9 hk9; omega)))) c340_207 (by first | exact q_w32_id (by omega) (by omega) | exact q_w32w _ | exact rfl) (by first | assumption | omega) (by first | assumption | omega) rfl ?_
                    intro y420
                    refine r_aload_n c340_208 rfl rfl ?_
                    refine r_getr c340_209 (by first | assumption | omega) (by decide) (by first | assumption | rfl) rfl rfl ?_
                    refine r_bipush c340_212 rfl ?_
                    refine r_iload_n c340_214 rfl rfl ?_
                    refine r_iadd c340_215 (by first | exact q_w32_id (by omega) (by omega) | exact q_w32w _ | exact rfl) rfl ?_
                    refine r_laldw (q_Gr.rb (S := fun k j => k = 140 ∧ (26 ≤ j ∧ j ≤ 61 ∧ ¬(47 ≤ j ∧ j ≤ 49))) hR (by repeat (first | exact q_Gr.rf | refine q_Gr.ud ?_ (by omega) (by first | assumption | rfl) rfl (by first | exact ⟨fun h9 => absurd h9 (by decide), fun h9 => absurd h9 (by decide)⟩ | (constructor <;> (intro h9; omega))) | refine q_Gr.udz ?_ (by omega) (by first | assumption | decide | omega) (by first | exact ⟨fun h9 => absurd h9 (by decide), fun h9 => absurd h9 (by decide)⟩ | (constructor <;> (intro h9; omega))) | refine q_Gr.tr ?_ (by assumption) (by intro k9 j9 hk9; omega)))) c340_216 (by first | exact q_w32_id (by omega) (by omega) | exact q_w32w _ | exact rfl) (by first | assumption | omega) (by first | assumption | omega) rfl ?_
                    intro y421
                    refine r_ladd c340_217 rfl rfl ?_
                    refine r_lcmpn c340_218 rfl (by first | exact q_w64_id (by omega) (by omega) | exact rfl) (by first | exact q_w64_id (by omega) (by omega) | exact rfl) ?_ ?_ ?_
                    · intro b422
                      refine r_if_le c340_219 rfl (show q_w32 (-1) = -1 from rfl) ?_ ?_
                      · intro b423
                        refine r_iconst c340_232 rfl ?_
                        exact r_zret c340_233 ⟨rfl, rfl, rfl⟩ (by decide) ⟨rfl, ⟨_, rfl, (by decide)⟩, (by repeat (first | exact q_Gr.rf | refine q_Gr.ud ?_ (by omega) (by first | assumption | rfl) rfl (by first | exact ⟨fun h9 => absurd h9 (by decide), fun h9 => absurd h9 (by decide)⟩ | (constructor <;> (intro h9; omega))) | refine q_Gr.udz ?_ (by omega) (by first | assumption | decide | omega) (by first | exact ⟨fun h9 => absurd h9 (by decide), fun h9 => absurd h9 (by decide)⟩ | (constructor <;> (intro h9; omega))) | refine q_Gr.tr ?_ (by assumption) (by intro k9 j9 hk9; omega)))⟩
                      · intro b423
                        exact absurd b423.1 (by decide)
                    · intro b422
                      refine r_if_le c340_219 rfl (show q_w32 (0) = 0 from rfl) ?_ ?_
                      · intro b424
                        refine r_iconst c340_232 rfl ?_
                        exact r_zret c340_233 ⟨rfl, rfl, rfl⟩ (by decide) ⟨rfl, ⟨_, rfl, (by decide)⟩, (by repeat (first | exact q_Gr.rf | refine q_Gr.ud ?_ (by omega) (by first | assumption | rfl) rfl (by first | exact ⟨fun h9 => absurd h9 (by decide), fun h9 => absurd h9 (by decide)⟩ | (constructor <;> (intro h9; omega))) | refine q_Gr.udz ?_ (by omega) (by first | assumption | decide | omega) (by first | exact ⟨fun h9 => absurd h9 (by decide), fun h9 => absurd h9 (by decide)⟩ | (constructor <;> (intro h9; omega))) | refine q_Gr.tr ?_ (by assumption) (by intro k9 j9 hk9; omega)))⟩
                      · intro b424
                        exact absurd b424.1 (by decide)
                    · intro b422
                      refine r_if_le c340_219 rfl (show q_w32 (1) = 1 from rfl) ?_ ?_
                      · intro b425
                        exact absurd b425.1 (by decide)
                      · intro b425
                        refine r_aload_n c340_222 rfl rfl ?_
                        refine r_getr c340_223 (by first | assumption | omega) (by decide) (by first | assumption | rfl) rfl rfl ?_
                        refine r_bipush c340_226 rfl ?_
                        refine r_iload_n c340_228 rfl rfl ?_
                        refine r_iadd c340_229 (by first | exact q_w32_id (by omega) (by omega) | exact q_w32w _ | exact rfl) rfl ?_
                        refine r_lconst c340_230 rfl ?_
                        refine r_last c340_231 (by first | assumption | omega) (by decide) (by first | assumption | rfl) (by first | assumption | decide) (by first | exact q_w32_id (by omega) (by omega) | exact q_w32w _ | exact rfl) (by first | assumption | omega) (by first | assumption | omega) rfl ?_
                        refine r_iconst c340_232 rfl ?_
                        exact r_zret c340_233 ⟨rfl, rfl, rfl⟩ (by decide) ⟨rfl, ⟨_, rfl, (by decide)⟩, (by repeat (first | exact q_Gr.rf | refine q_Gr.ud ?_ (by omega) (by first | assumption | rfl) rfl (by first | exact ⟨fun h9 => absurd h9 (by decide), fun h9 => absurd h9 (by decide)⟩ | (constructor <;> (intro h9; omega))) | refine q_Gr.udz ?_ (by omega) (by first | assumption | decide | omega) (by first | exact ⟨fun h9 => absurd h9 (by decide), fun h9 => absurd h9 (by decide)⟩ | (constructor <;> (intro h9; omega))) | refine q_Gr.tr ?_ (by assumption) (by intro k9 j9 hk9; omega)))⟩
                  · intro b418
                    exact absurd b418.1 (by decide)
              · intro b397
                exact absurd b397.1 (by decide)
          · intro b363
            exact absurd b363.1 (by decide)
        · intro b360
          refine r_if_eq c340_95 rfl (show q_w32 (1) = 1 from rfl) ?_ ?_
          · intro b426
            exact absurd b426.1 (by decide)
          · intro b426
            refine r_aload_n c340_98 rfl rfl ?_
            refine r_getr c340_99 (by first | assumption | omega) (by decide) (by first | assumption | rfl) rfl rfl ?_
            refine r_bipush c340_102 rfl ?_
            refine r_iload_n c340_104 rfl rfl ?_
            refine r_iadd c340_105 (by first | exact q_w32_id (by omega) (by omega) | exact q_w32w _ | exact rfl) rfl ?_
            refine r_dup2 c340_106 rfl rfl rfl ?_
            refine r_laldw (q_Gr.rb (S := fun k j => k = 140 ∧ (26 ≤ j ∧ j ≤ 61 ∧ ¬(47 ≤ j ∧ j ≤ 49))) hR (by repeat (first | exact q_Gr.rf | refine q_Gr.ud ?_ (by omega) (by first | assumption | rfl) rfl (by first | exact ⟨fun h9 => absurd h9 (by decide), fun h9 => absurd h9 (by decide)⟩ | (constructor <;> (intro h9; omega))) | refine q_Gr.udz ?_ (by omega) (by first | assumption | decide | omega) (by first | exact ⟨fun h9 => absurd h9 (by decide), fun h9 => absurd h9 (by decide)⟩ | (constructor <;> (intro h9; omega))) | refine q_Gr.tr ?_ (by assumption) (by intro k9 j9 hk9; omega)))) c340_107 (by first | exact q_w32_id (by omega) (by omega) | exact q_w32w _ | exact rfl) (by first | assumption | omega) (by first | assumption | omega) rfl ?_
            intro y427
            refine r_iload_n c340_108 rfl rfl ?_
            refine r_i2l c340_109 (by first | exact q_w32_id (by omega) (by omega) | exact q_w32w _ | exact rfl) rfl ?_
            refine r_ladd c340_110 rfl rfl ?_
            refine r_last c340_111 (by first | assumption | omega) (by decide) (by first | assumption | rfl) (by first | assumption | decide) (by first | exact q_w32_id (by omega) (by omega) | exact q_w32w _ | exact rfl) (by first | assumption | omega) (by first | assumption | omega) rfl ?_
            refine r_iconst c340_112 rfl ?_
            exact r_zret c340_113 ⟨rfl, rfl, rfl⟩ (by decide) ⟨rfl, ⟨_, rfl, (by decide)⟩, (by repeat (first | exact q_Gr.rf | refine q_Gr.ud ?_ (by omega) (by first | assumption | rfl) rfl (by first | exact ⟨fun h9 => absurd h9 (by decide), fun h9 => absurd h9 (by decide)⟩ | (constructor <;> (intro h9; omega))) | refine q_Gr.udz ?_ (by omega) (by first | assumption | decide | omega) (by first | exact ⟨fun h9 => absurd h9 (by decide), fun h9 => absurd h9 (by decide)⟩ | (constructor <;> (intro h9; omega))) | refine q_Gr.tr ?_ (by assumption) (by intro k9 j9 hk9; omega)))⟩
    · intro b287
      refine r_aload_n c340_51 rfl rfl ?_
      refine r_getr c340_52 (by first | assumption | omega) (by decide) (by first | assumption | rfl) rfl rfl ?_
      refine r_bipush c340_55 rfl ?_
      refine r_iload_n c340_57 rfl rfl ?_
      refine r_iadd c340_58 (by first | exact q_w32_id (by omega) (by omega) | exact q_w32w _ | exact rfl) rfl ?_
      refine r_laldw (q_Gr.rb (S := fun k j => k = 140 ∧ (26 ≤ j ∧ j ≤ 61 ∧ ¬(47 ≤ j ∧ j ≤ 49))) hR (by repeat (first | exact q_Gr.rf | refine q_Gr.ud ?_ (by omega) (by first | assumption | rfl) rfl (by first | exact ⟨fun h9 => absurd h9 (by decide), fun h9 => absurd h9 (by decide)⟩ | (constructor <;> (intro h9; omega))) | refine q_Gr.udz ?_ (by omega) (by first | assumption | decide | omega) (by first | exact ⟨fun h9 => absurd h9 (by decide), fun h9 => absurd h9 (by decide)⟩ | (constructor <;> (intro h9; omega))) | refine q_Gr.tr ?_ (by assumption) (by intro k9 j9 hk9; omega)))) c340_59 (by first | exact q_w32_id (by omega) (by omega) | exact q_w32w _ | exact rfl) (by first | assumption | omega) (by first | assumption | omega) rfl ?_
      intro y428
      refine r_goto c340_60 ?_
      refine r_lstore_n c340_64 (lo' := [(3, _), (0, _), (1, _), (2, _)]) rfl rfl rfl ?_
      refine r_iload_n c340_65 rfl rfl ?_
      refine r_if_le c340_66 rfl (by first | exact q_w32_id (by omega) (by omega) | exact q_w32w _ | exact rfl) ?_ ?_
      · intro b429
        refine r_lconst c340_81 rfl ?_
        refine r_lstore c340_82 (lo' := [(5, _), (3, _), (0, _), (1, _), (2, _)]) rfl rfl rfl ?_
        refine r_aload_n c340_84 rfl rfl ?_
        refine r_getr c340_85 (by first | assumption | omega) (by decide) (by first | assumption | rfl) rfl rfl ?_
        refine r_bipush c340_88 rfl ?_
        refine r_iload_n c340_90 rfl rfl ?_
        refine r_iadd c340_91 (by first | exact q_w32_id (by omega) (by omega) | exact q_w32w _ | exact rfl) rfl ?_
        refine r_laldw (q_Gr.rb (S := fun k j => k = 140 ∧ (26 ≤ j ∧ j ≤ 61 ∧ ¬(47 ≤ j ∧ j ≤ 49))) hR (by repeat (first | exact q_Gr.rf | refine q_Gr.ud ?_ (by omega) (by first | assumption | rfl) rfl (by first | exact ⟨fun h9 => absurd h9 (by decide), fun h9 => absurd h9 (by decide)⟩ | (constructor <;> (intro h9; omega))) | refine q_Gr.udz ?_ (by omega) (by first | assumption | decide | omega) (by first | exact ⟨fun h9 => absurd h9 (by decide), fun h9 => absurd h9 (by decide)⟩ | (constructor <;> (intro h9; omega))) | refine q_Gr.tr ?_ (by assumption) (by intro k9 j9 hk9; omega)))) c340_92 (by first | exact q_w32_id (by omega) (by omega) | exact q_w32w _ | exact rfl) (by first | assumption | omega) (by first | assumption | omega) rfl ?_
        intro y430
        refine r_lload_n c340_93 rfl rfl ?_
        refine r_lcmpn c340_94 rfl (by first | exact q_w64_id (by omega) (by omega) | exact rfl) (by first | exact q_w64_id (by omega) (by omega) | exact rfl) ?_ ?_ ?_
        · intro b431
          refine r_if_eq c340_95 rfl (show q_w32 (-1) = -1 from rfl) ?_ ?_
          · intro b432
            exact absurd b432.1 (by decide)
          · intro b432
            refine r_aload_n c340_98 rfl rfl ?_
            refine r_getr c340_99 (by first | assumption | omega) (by decide) (by first | assumption | rfl) rfl rfl ?_
            refine r_bipush c340_102 rfl ?_
            refine r_iload_n c340_104 rfl rfl ?_
            refine r_iadd c340_105 (by first | exact q_w32_id (by omega) (by omega) | exact q_w32w _ | exact rfl) rfl ?_
            refine r_dup2 c340_106 rfl rfl rfl ?_
            refine r_laldw (q_Gr.rb (S := fun k j => k = 140 ∧ (26 ≤ j ∧ j ≤ 61 ∧ ¬(47 ≤ j ∧ j ≤ 49))) hR (by repeat (first | exact q_Gr.rf | refine q_Gr.ud ?_ (by omega) (by first | assumption | rfl) rfl (by first | exact ⟨fun h9 => absurd h9 (by decide), fun h9 => absurd h9 (by decide)⟩ | (constructor <;> (intro h9; omega))) | refine q_Gr.udz ?_ (by omega) (by first | assumption | decide | omega) (by first | exact ⟨fun h9 => absurd h9 (by decide), fun h9 => absurd h9 (by decide)⟩ | (constructor <;> (intro h9; omega))) | refine q_Gr.tr ?_ (by assumption) (by intro k9 j9 hk9; omega)))) c340_107 (by first | exact q_w32_id (by omega) (by omega) | exact q_w32w _ | exact rfl) (by first | assumption | omega) (by first | assumption | omega) rfl ?_
            intro y433
            refine r_iload_n c340_108 rfl rfl ?_
            refine r_i2l c340_109 (by first | exact q_w32_id (by omega) (by omega) | exact q_w32w _ | exact rfl) rfl ?_
            refine r_ladd c340_110 rfl rfl ?_
            refine r_last c340_111 (by first | assumption | omega) (by decide) (by first | assumption | rfl) (by first | assumption | decide) (by first | exact q_w32_id (by omega) (by omega) | exact q_w32w _ | exact rfl) (by first | assumption | omega) (by first | assumption | omega) rfl ?_
            refine r_iconst c340_112 rfl ?_
            exact r_zret c340_113 ⟨rfl, rfl, rfl⟩ (by decide) ⟨rfl, ⟨_, rfl, (by decide)⟩, (by repeat (first | exact q_Gr.rf | refine q_Gr.ud ?_ (by omega) (by first | assumption | rfl) rfl (by first | exact ⟨fun h9 => absurd h9 (by decide), fun h9 => absurd h9 (by decide)⟩ | (constructor <;> (intro h9; omega))) | refine q_Gr.udz ?_ (by omega) (by first | assumption | decide | omega) (by first | exact ⟨fun h9 => absurd h9 (by decide), fun h9 => absurd h9 (by decide)⟩ | (constructor <;> (intro h9; omega))) | refine q_Gr.tr ?_ (by assumption) (by intro k9 j9 hk9; omega)))⟩
        · intro b431
          refine r_if_eq c340_95 rfl (show q_w32 (0) = 0 from rfl) ?_ ?_
          · intro b434
            refine r_aload_n c340_114 rfl rfl ?_
            refine r_getr c340_115 (by first | assumption | omega) (by decide) (by first | assumption | rfl) rfl rfl ?_
            refine r_bipush c340_118 rfl ?_
            refine r_iload_n c340_120 rfl rfl ?_
            refine r_iadd c340_121 (by first | exact q_w32_id (by omega) (by omega) | exact q_w32w _ | exact rfl) rfl ?_
            refine r_laldw (q_Gr.rb (S := fun k j => k = 140 ∧ (26 ≤ j ∧ j ≤ 61 ∧ ¬(47 ≤ j ∧ j ≤ 49))) hR (by repeat (first | exact q_Gr.rf | refine q_Gr.ud ?_ (by omega) (by first | assumption | rfl) rfl (by first | exact ⟨fun h9 => absurd h9 (by decide), fun h9 => absurd h9 (by decide)⟩ | (constructor <;> (intro h9; omega))) | refine q_Gr.udz ?_ (by omega) (by first | assumption | decide | omega) (by first | exact ⟨fun h9 => absurd h9 (by decide), fun h9 => absurd h9 (by decide)⟩ | (constructor <;> (intro h9; omega))) | refine q_Gr.tr ?_ (by assumption) (by intro k9 j9 hk9; omega)))) c340_122 (by first | exact q_w32_id (by omega) (by omega) | exact q_w32w _ | exact rfl) (by first | assumption | omega) (by first | assumption | omega) rfl ?_
            intro y435
            refine r_lload c340_123 rfl rfl ?_
            refine r_lcmpn c340_125 rfl (by first | exact q_w64_id (by omega) (by omega) | exact rfl) (show q_w64 (0) = 0 from rfl) ?_ ?_ ?_
            · intro b436
              refine r_if_ne c340_126 rfl (show q_w32 (-1) = -1 from rfl) ?_ ?_
              · intro b437
                refine r_aload_n c340_144 rfl rfl ?_
                refine r_getr c340_145 (by first | assumption | omega) (by decide) (by first | assumption | rfl) rfl rfl ?_
                refine r_bipush c340_148 rfl ?_
                refine r_iload_n c340_150 rfl rfl ?_
                refine r_iadd c340_151 (by first | exact q_w32_id (by omega) (by omega) | exact q_w32w _ | exact rfl) rfl ?_
                refine r_dup2 c340_152 rfl rfl rfl ?_
                refine r_laldw (q_Gr.rb (S := fun k j => k = 140 ∧ (26 ≤ j ∧ j ≤ 61 ∧ ¬(47 ≤ j ∧ j ≤ 49))) hR (by repeat (first | exact q_Gr.rf | refine q_Gr.ud ?_ (by omega) (by first | assumption | rfl) rfl (by first | exact ⟨fun h9 => absurd h9 (by decide), fun h9 => absurd h9 (by decide)⟩ | (constructor <;> (intro h9; omega))) | refine q_Gr.udz ?_ (by omega) (by first | assumption | decide | omega) (by first | exact ⟨fun h9 => absurd h9 (by decide), fun h9 => absurd h9 (by decide)⟩ | (constructor <;> (intro h9; omega))) | refine q_Gr.tr ?_ (by assumption) (by intro k9 j9 hk9; omega)))) c340_153 (by first | exact q_w32_id (by omega) (by omega) | exact q_w32w _ | exact rfl) (by first | assumption | omega) (by first | assumption | omega) rfl ?_
                intro y438
                refine r_iload_n c340_154 rfl rfl ?_
                refine r_i2l c340_155 (by first | exact q_w32_id (by omega) (by omega) | exact q_w32w _ | exact rfl) rfl ?_
                refine r_ladd c340_156 rfl rfl ?_
                refine r_last c340_157 (by first | assumption | omega) (by decide) (by first | assumption | rfl) (by first | assumption | decide) (by first | exact q_w32_id (by omega) (by omega) | exact q_w32w _ | exact rfl) (by first | assumption | omega) (by first | assumption | omega) rfl ?_
                refine r_aload_n c340_158 rfl rfl ?_
                refine r_getr c340_159 (by first | assumption | omega) (by decide) (by first | assumption | rfl) rfl rfl ?_
                refine r_bipush c340_162 rfl ?_
                refine r_iload_n c340_164 rfl rfl ?_
                refine r_iadd c340_165 (by first | exact q_w32_id (by omega) (by omega) | exact q_w32w _ | exact rfl) rfl ?_
                refine r_laldw (q_Gr.rb (S := fun k j => k = 140 ∧ (26 ≤ j ∧ j ≤ 61 ∧ ¬(47 ≤ j ∧ j ≤ 49))) hR (by repeat (first | exact q_Gr.rf | refine q_Gr.ud ?_ (by omega) (by first | assumption | rfl) rfl (by first | exact ⟨fun h9 => absurd h9 (by decide), fun h9 => absurd h9 (by decide)⟩ | (constructor <;> (intro h9; omega))) | refine q_Gr.udz ?_ (by omega) (by first | assumption | decide | omega) (by first | exact ⟨fun h9 => absurd h9 (by decide), fun h9 => absurd h9 (by decide)⟩ | (constructor <;> (intro h9; omega))) | refine q_Gr.tr ?_ (by assumption) (by intro k9 j9 hk9; omega)))) c340_166 (by first | exact q_w32_id (by omega) (by omega) | exact q_w32w _ | exact rfl) (by first | assumption | omega) (by first | assumption | omega) rfl ?_
                intro y439
                refine r_aload_n c340_167 rfl rfl ?_
                refine r_getr c340_168 (by first | assumption | omega) (by decide) (by first | assumption | rfl) rfl rfl ?_
                refine r_bipush c340_171 rfl ?_
                refine r_iload_n c340_173 rfl rfl ?_
                refine r_iadd c340_174 (by first | exact q_w32_id (by omega) (by omega) | exact q_w32w _ | exact rfl) rfl ?_
                refine r_laldw (q_Gr.rb (S := fun k j => k = 140 ∧ (26 ≤ j ∧ j ≤ 61 ∧ ¬(47 ≤ j ∧ j ≤ 49))) hR (by repeat (first | exact q_Gr.rf | refine q_Gr.ud ?_ (by omega) (by first | assumption | rfl) rfl (by first | exact ⟨fun h9 => absurd h9 (by decide), fun h9 => absurd h9 (by decide)⟩ | (constructor <;> (intro h9; omega))) | refine q_Gr.udz ?_ (by omega) (by first | assumption | decide | omega) (by first | exact ⟨fun h9 => absurd h9 (by decide), fun h9 => absurd h9 (by decide)⟩ | (constructor <;> (intro h9; omega))) | refine q_Gr.tr ?_ (by assumption) (by intro k9 j9 hk9; omega)))) c340_175 (by first | exact q_w32_id (by omega) (by omega) | exact q_w32w _ | exact rfl) (by first | assumption | omega) (by first | assumption | omega) rfl ?_
                intro y440
                refine r_lcmpn c340_176 rfl (by first | exact q_w64_id (by omega) (by omega) | exact rfl) (by first | exact q_w64_id (by omega) (by omega) | exact rfl) ?_ ?_ ?_
                · intro b441
                  refine r_if_gt c340_177 rfl (show q_w32 (-1) = -1 from rfl) ?_ ?_
                  · intro b442
                    exact absurd b442.1 (by decide)
                  · intro b442
                    refine r_aload_n c340_180 rfl rfl ?_
                    refine r_getr c340_181 (by first | assumption | omega) (by decide) (by first | assumption | rfl) rfl rfl ?_
                    refine r_bipush c340_184 rfl ?_
                    refine r_iload_n c340_186 rfl rfl ?_
                    refine r_iadd c340_187 (by first | exact q_w32_id (by omega) (by omega) | exact q_w32w _ | exact rfl) rfl ?_
                    refine r_lconst c340_188 rfl ?_
                    refine r_last c340_189 (by first | assumption | omega) (by decide) (by first | assumption | rfl) (by first | assumption | decide) (by first | exact q_w32_id (by omega) (by omega) | exact q_w32w _ | exact rfl) (by first | assumption | omega) (by first | assumption | omega) rfl ?_
                    refine r_aload_n c340_190 rfl rfl ?_
                    refine r_getr c340_191 (by first | assumption | omega) (by decide) (by first | assumption | rfl) rfl rfl ?_
                    refine r_bipush c340_194 rfl ?_
                    refine r_iload_n c340_196 rfl rfl ?_
                    refine r_iadd c340_197 (by first | exact q_w32_id (by omega) (by omega) | exact q_w32w _ | exact rfl) rfl ?_
                    refine r_laldw (q_Gr.rb (S := fun k j => k = 140 ∧ (26 ≤ j ∧ j ≤ 61 ∧ ¬(47 ≤ j ∧ j ≤ 49))) hR (by repeat (first | exact q_Gr.rf | refine q_Gr.ud ?_ (by omega) (by first | assumption | rfl) rfl (by first | exact ⟨fun h9 => absurd h9 (by decide), fun h9 => absurd h9 (by decide)⟩ | (constructor <;> (intro h9; omega))) | refine q_Gr.udz ?_ (by omega) (by first | assumption | decide | omega) (by first | exact ⟨fun h9 => absurd h9 (by decide), fun h9 => absurd h9 (by decide)⟩ | (constructor <;> (intro h9; omega))) | refine q_Gr.tr ?_ (by assumption) (by intro k9 j9 hk9; omega)))) c340_198 (by first | exact q_w32_id (by omega) (by omega) | exact q_w32w _ | exact rfl) (by first | assumption | omega) (by first | assumption | omega) rfl ?_
                    intro y443
                    refine r_aload_n c340_199 rfl rfl ?_
                    refine r_getr c340_200 (by first | assumption | omega) (by decide) (by first | assumption | rfl) rfl rfl ?_
                    refine r_bipush c340_203 rfl ?_
                    refine r_iload_n c340_205 rfl rfl ?_
                    refine r_iadd c340_206 (by first | exact q_w32_id (by omega) (by omega) | exact q_w32w _ | exact rfl) rfl ?_
                    refine r_laldw (q_Gr.rb (S := fun k j => k = 140 ∧ (26 ≤ j ∧ j ≤ 61 ∧ ¬(47 ≤ j ∧ j ≤ 49))) hR (by repeat (first | exact q_Gr.rf | refine q_Gr.ud ?_ (by omega) (by first | assumption | rfl) rfl (by first | exact ⟨fun h9 => absurd h9 (by decide), fun h9 => absurd h9 (by decide)⟩ | (constructor <;> (intro h9; omega))) | refine q_Gr.udz ?_ (by omega) (by first | assumption | decide | omega) (by first | exact ⟨fun h9 => absurd h9 (by decide), fun h9 => absurd h9 (by decide)⟩ | (constructor <;> (intro h9; omega))) | refine q_Gr.tr ?_ (by assumption) (by intro k9 j9 hk9; omega)))) c340_207 (by first | exact q_w32_id (by omega) (by omega) | exact q_w32w _ | exact rfl) (by first | assumption | omega) (by first | assumption | omega) rfl ?_
                    intro y444
                    refine r_aload_n c340_208 rfl rfl ?_
                    refine r_getr c340_209 (by first | assumption | omega) (by decide) (by first | assumption | rfl) rfl rfl ?_
                    refine r_bipush c340_212 rfl ?_
                    refine r_iload_n c340_214 rfl rfl ?_
                    refine r_iadd c340_215 (by first | exact q_w32_id (by omega) (by omega) | exact q_w32w _ | exact rfl) rfl ?_
                    refine r_laldw (q_Gr.rb (S := fun k j => k = 140 ∧ (26 ≤ j ∧ j ≤ 61 ∧ ¬(47 ≤ j ∧ j ≤ 49))) hR (by repeat (first | exact q_Gr.rf | refine q_Gr.ud ?_ (by omega) (by first | assumption | rfl) rfl (by first | exact ⟨fun h9 => absurd h9 (by decide), fun h9 => absurd h9 (by decide)⟩ | (constructor <;> (intro h9; omega))) | refine q_Gr.udz ?_ (by omega) (by first | assumption | decide | omega) (by first | exact ⟨fun h9 => absurd h9 (by decide), fun h9 => absurd h9 (by decide)⟩ | (constructor <;> (intro h9; omega))) | refine q_Gr.tr ?_ (by assumption) (by intro k9 j9 hk9; omega)))) c340_216 (by first | exact q_w32_id (by omega) (by omega) | exact q_w32w _ | exact rfl) (by first | assumption | omega) (by first | assumption | omega) rfl ?_
                    intro y445
                    refine r_ladd c340_217 rfl rfl ?_
                    refine r_lcmpn c340_218 rfl (by first | exact q_w64_id (by omega) (by omega) | exact rfl) (by first | exact q_w64_id (by omega) (by omega) | exact rfl) ?_ ?_ ?_
                    · intro b446
                      refine r_if_le c340_219 rfl (show q_w32 (-1) = -1 from rfl) ?_ ?_
                      · intro b447
                        refine r_iconst c340_232 rfl ?_
                        exact r_zret c340_233 ⟨rfl, rfl, rfl⟩ (by decide) ⟨rfl, ⟨_, rfl, (by decide)⟩, (by repeat (first | exact q_Gr.rf | refine q_Gr.ud ?_ (by omega) (by first | assumption | rfl) rfl (by first | exact ⟨fun h9 => absurd h9 (by decide), fun h9 => absurd h9 (by decide)⟩ | (constructor <;> (intro h9; omega))) | refine q_Gr.udz ?_ (by omega) (by first | assumption | decide | omega) (by first | exact ⟨fun h9 => absurd h9 (by decide), fun h9 => absurd h9 (by decide)⟩ | (constructor <;> (intro h9; omega))) | refine q_Gr.tr ?_ (by assumption) (by intro k9 j9 hk9; omega)))⟩
                      · intro b447
                        exact absurd b447.1 (by decide)
                    · intro b446
                      refine r_if_le c340_219 rfl (show q_w32 (0) = 0 from rfl) ?_ ?_
                      · intro b448
                        refine r_iconst c340_232 rfl ?_
                        exact r_zret c340_233 ⟨rfl, rfl, rfl⟩ (by decide) ⟨rfl, ⟨_, rfl, (by decide)⟩, (by repeat (first | exact q_Gr.rf | refine q_Gr.ud ?_ (by omega) (by first | assumption | rfl) rfl (by first | exact ⟨fun h9 => absurd h9 (by decide), fun h9 => absurd h9 (by decide)⟩ | (constructor <;> (intro h9; omega))) | refine q_Gr.udz ?_ (by omega) (by first | assumption | decide | omega) (by first | exact ⟨fun h9 => absurd h9 (by decide), fun h9 => absurd h9 (by decide)⟩ | (constructor <;> (intro h9; omega))) | refine q_Gr.tr ?_ (by assumption) (by intro k9 j9 hk9; omega)))⟩
                      · intro b448
                        exact absurd b448.1 (by decide)
                    · intro b446
                      refine r_if_le c340_219 rfl (show q_w32 (1) = 1 from rfl) ?_ ?_
                      · intro b449
                        exact absurd b449.1 (by decide)
                      · intro b449
                        refine r_aload_n c340_222 rfl rfl ?_
                        refine r_getr c340_223 (by first | assumption | omega) (by decide) (by first | assumption | rfl) rfl rfl ?_
                        refine r_bipush c340_226 rfl ?_
                        refine r_iload_n c340_228 rfl rfl ?_
                        refine r_iadd c340_229 (by first | exact q_w32_id (by omega) (by omega) | exact q_w32w _ | exact rfl) rfl ?_
                        refine r_lconst c340_230 rfl ?_
                        refine r_last c340_231 (by first | assumption | omega) (by decide) (by first | assumption | rfl) (by first | assumption | decide) (by first | exact q_w32_id (by omega) (by omega) | exact q_w32w _ | exact rfl) (by first | assumption | omega) (by first | assumption | omega) rfl ?_
                        refine r_iconst c340_232 rfl ?_
                        exact r_zret c340_233 ⟨rfl, rfl, rfl⟩ (by decide) ⟨rfl, ⟨_, rfl, (by decide)⟩, (by repeat (first | exact q_Gr.rf | refine q_Gr.ud ?_ (by omega) (by first | assumption | rfl) rfl (by first | exact ⟨fun h9 => absurd h9 (by decide), fun h9 => absurd h9 (by decide)⟩ | (constructor <;> (intro h9; omega))) | refine q_Gr.udz ?_ (by omega) (by first | assumption | decide | omega) (by first | exact ⟨fun h9 => absurd h9 (by decide), fun h9 => absurd h9 (by decide)⟩ | (constructor <;> (intro h9; omega))) | refine q_Gr.tr ?_ (by assumption) (by intro k9 j9 hk9; omega)))⟩
                · intro b441
                  refine r_if_gt c340_177 rfl (show q_w32 (0) = 0 from rfl) ?_ ?_
                  · intro b450
                    exact absurd b450.1 (by decide)
                  · intro b450
                    refine r_aload_n c340_180 rfl rfl ?_
                    refine r_getr c340_181 (by first | assumption | omega) (by decide) (by first | assumption | rfl) rfl rfl ?_
                    refine r_bipush c340_184 rfl ?_
                    refine r_iload_n c340_186 rfl rfl ?_
                    refine r_iadd c340_187 (by first | exact q_w32_id (by omega) (by omega) | exact q_w32w _ | exact rfl) rfl ?_
                    refine r_lconst c340_188 rfl ?_
                    refine r_last c340_189 (by first | assumption | omega) (by decide) (by first | assumption | rfl) (by first | assumption | decide) (by first | exact q_w32_id (by omega) (by omega) | exact q_w32w _ | exact rfl) (by first | assumption | omega) (by first | assumption | omega) rfl ?_
                    refine r_aload_n c340_190 rfl rfl ?_
                    refine r_getr c340_191 (by first | assumption | omega) (by decide) (by first | assumption | rfl) rfl rfl ?_
                    refine r_bipush c340_194 rfl ?_
                    refine r_iload_n c340_196 rfl rfl ?_
                    refine r_iadd c340_197 (by first | exact q_w32_id (by omega) (by omega) | exact q_w32w _ | exact rfl) rfl ?_
                    refine r_laldw (q_Gr.rb (S := fun k j => k = 140 ∧ (26 ≤ j ∧ j ≤ 61 ∧ ¬(47 ≤ j ∧ j ≤ 49))) hR (by repeat (first | exact q_Gr.rf | refine q_Gr.ud ?_ (by omega) (by first | assumption | rfl) rfl (by first | exact ⟨fun h9 => absurd h9 (by decide), fun h9 => absurd h9 (by decide)⟩ | (constructor <;> (intro h9; omega))) | refine q_Gr.udz ?_ (by omega) (by first | assumption | decide | omega) (by first | exact ⟨fun h9 => absurd h9 (by decide), fun h9 => absurd h9 (by decide)⟩ | (constructor <;> (intro h9; omega))) | refine q_Gr.tr ?_ (by assumption) (by intro k9 j9 hk9; omega)))) c340_198 (by first | exact q_w32_id (by omega) (by omega) | exact q_w32w _ | exact rfl) (by first | assumption | omega) (by first | assumption | omega) rfl ?_
                    intro y451
                    refine r_aload_n c340_199 rfl rfl ?_
                    refine r_getr c340_200 (by first | assumption | omega) (by decide) (by first | assumption | rfl) rfl rfl ?_
                    refine r_bipush c340_203 rfl ?_
                    refine r_iload_n c340_205 rfl rfl ?_
                    refine r_iadd c340_206 (by first | exact q_w32_id (by omega) (by omega) | exact q_w32w _ | exact rfl) rfl ?_
                    refine r_laldw (q_Gr.rb (S := fun k j => k = 140 ∧ (26 ≤ j ∧ j ≤ 61 ∧ ¬(47 ≤ j ∧ j ≤ 49))) hR (by repeat (first | exact q_Gr.rf | refine q_Gr.ud ?_ (by omega) (by first | assumption | rfl) rfl (by first | exact ⟨fun h9 => absurd h9 (by decide), fun h9 => absurd h9 (by decide)⟩ | (constructor <;> (intro h9; omega))) | refine q_Gr.udz ?_ (by omega) (by first | assumption | decide | omega) (by first | exact ⟨fun h9 => absurd h9 (by decide), fun h9 => absurd h9 (by decide)⟩ | (constructor <;> (intro h9; omega))) | refine q_Gr.tr ?_ (by assumption) (by intro k9 j9 hk9; omega)))) c340_207 (by first | exact q_w32_id (by omega) (by omega) | exact q_w32w _ | exact rfl) (by first | assumption | omega) (by first | assumption | omega) rfl ?_
                    intro y452
                    refine r_aload_n c340_208 rfl rfl ?_
                    refine r_getr c340_209 (by first | assumption | omega) (by decide) (by first | assumption | rfl) rfl rfl ?_
                    refine r_bipush c340_212 rfl ?_
                    refine r_iload_n c340_214 rfl rfl ?_
                    refine r_iadd c340_215 (by first | exact q_w32_id (by omega) (by omega) | exact q_w32w _ | exact rfl) rfl ?_
                    refine r_laldw (q_Gr.rb (S := fun k j => k = 140 ∧ (26 ≤ j ∧ j ≤ 61 ∧ ¬(47 ≤ j ∧ j ≤ 49))) hR (by repeat (first | exact q_Gr.rf | refine q_Gr.ud ?_ (by omega) (by first | assumption | rfl) rfl (by first | exact ⟨fun h9 => absurd h9 (by decide), fun h9 => absurd h9 (by decide)⟩ | (constructor <;> (intro h9; omega))) | refine q_Gr.udz ?_ (by omega) (by first | assumption | decide | omega) (by first | exact ⟨fun h9 => absurd h9 (by decide), fun h9 => absurd h9 (by decide)⟩ | (constructor <;> (intro h9; omega))) | refine q_Gr.tr ?_ (by assumption) (by intro k9 j9 hk9; omega)))) c340_216 (by first | exact q_w32_id (by omega) (by omega) | exact q_w32w _ | exact rfl) (by first | assumption | omega) (by first | assumption | omega) rfl ?_
                    intro y453
                    refine r_ladd c340_217 rfl rfl ?_
                    refine r_lcmpn c340_218 rfl (by first | exact q_w64_id (by omega) (by omega) | exact rfl) (by first | exact q_w64_id (by omega) (by omega) | exact rfl) ?_ ?_ ?_
                    · intro b454
                      refine r_if_le c340_219 rfl (show q_w32 (-1) = -1 from rfl) ?_ ?_
                      · intro b455
                        refine r_iconst c340_232 rfl ?_
                        exact r_zret c340_233 ⟨rfl, rfl, rfl⟩ (by decide) ⟨rfl, ⟨_, rfl, (by decide)⟩, (by repeat (first | exact q_Gr.rf | refine q_Gr.ud ?_ (by omega) (by first | assumption | rfl) rfl (by first | exact ⟨fun h9 => absurd h9 (by decide), fun h9 => absurd h9 (by decide)⟩ | (constructor <;> (intro h9; omega))) | refine q_Gr.udz ?_ (by omega) (by first | assumption | decide | omega) (by first | exact ⟨fun h9 => absurd h9 (by decide), fun h9 => absurd h9 (by decide)⟩ | (constructor <;> (intro h9; omega))) | refine q_Gr.tr ?_ (by assumption) (by intro k9 j9 hk9; omega)))⟩
                      · intro b455
                        exact absurd b455.1 (by decide)
                    · intro b454
                      refine r_if_le c340_219 rfl (show q_w32 (0) = 0 from rfl) ?_ ?_
                      · intro b456
                        refine r_iconst c340_232 rfl ?_
                        exact r_zret c340_233 ⟨rfl, rfl, rfl⟩ (by decide) ⟨rfl, ⟨_, rfl, (by decide)⟩, (by repeat (first | exact q_Gr.rf | refine q_Gr.ud ?_ (by omega) (by first | assumption | rfl) rfl (by first | exact ⟨fun h9 => absurd h9 (by decide), fun h9 => absurd h9 (by decide)⟩ | (constructor <;> (intro h9; omega))) | refine q_Gr.udz ?_ (by omega) (by first | assumption | decide | omega) (by first | exact ⟨fun h9 => absurd h9 (by decide), fun h9 => absurd h9 (by decide)⟩ | (constructor <;> (intro h9; omega))) | refine q_Gr.tr ?_ (by assumption) (by intro k9 j9 hk9; omega)))⟩
                      · intro b456
                        exact absurd b456.1 (by decide)
                    · intro b454
                      refine r_if_le c340_219 rfl (show q_w32 (1) = 1 from rfl) ?_ ?_
                      · intro b457
                        exact absurd b457.1 (by decide)
                      · intro b457
                        refine r_aload_n c340_222 rfl rfl ?_
                        refine r_getr c340_223 (by first | assumption | omega) (by decide) (by first | assumption | rfl) rfl rfl ?_
                        refine r_bipush c340_226 rfl ?_
                        refine r_iload_n c340_228 rfl rfl ?_
                        refine r_iadd c340_229 (by first | exact q_w32_id (by omega) (by omega) | exact q_w32w _ | exact rfl) rfl ?_
                        refine r_lconst c340_230 rfl ?_
                        refine r_last c340_231 (by first | assumption | omega) (by decide) (by first | assumption | rfl) (by first | assumption | decide) (by first | exact q_w32_id (by omega) (by omega) | exact q_w32w _ | exact rfl) (by first | assumption | omega) (by first | assumption | omega) rfl ?_
                        refine r_iconst c340_232 rfl ?_
                        exact r_zret c340_233 ⟨rfl, rfl, rfl⟩ (by decide) ⟨rfl, ⟨_, rfl, (by decide)⟩, (by repeat (first | exact q_Gr.rf | refine q_Gr.ud ?_ (by omega) (by first | assumption | rfl) rfl (by first | exact ⟨fun h9 => absurd h9 (by decide), fun h9 => absurd h9 (by decide)⟩ | (constructor <;> (intro h9; omega))) | refine q_Gr.udz ?_ (by omega) (by first | assumption | decide | omega) (by first | exact ⟨fun h9 => absurd h9 (by decide), fun h9 => absurd h9 (by decide)⟩ | (constructor <;> (intro h9; omega))) | refine q_Gr.tr ?_ (by assumption) (by intro k9 j9 hk9; omega)))⟩
                · intro b441
                  refine r_if_gt c340_177 rfl (show q_w32 (1) = 1 from rfl) ?_ ?_
                  · intro b458
                    refine r_aload_n c340_190 rfl rfl ?_
                    refine r_getr c340_191 (by first | assumption | omega) (by decide) (by first | assumption | rfl) rfl rfl ?_
                    refine r_bipush c340_194 rfl ?_
                    refine r_iload_n c340_196 rfl rfl ?_
                    refine r_iadd c340_197 (by first | exact q_w32_id (by omega) (by omega) | exact q_w32w _ | exact rfl) rfl ?_
                    refine r_laldw (q_Gr.rb (S := fun k j => k = 140 ∧ (26 ≤ j ∧ j ≤ 61 ∧ ¬(47 ≤ j ∧ j ≤ 49))) hR (by repeat (first | exact q_Gr.rf | refine q_Gr.ud ?_ (by omega) (by first | assumption | rfl) rfl (by first | exact ⟨fun h9 => absurd h9 (by decide), fun h9 => absurd h9 (by decide)⟩ | (constructor <;> (intro h9; omega))) | refine q_Gr.udz ?_ (by omega) (by first | assumption | decide | omega) (by first | exact ⟨fun h9 => absurd h9 (by decide), fun h9 => absurd h9 (by decide)⟩ | (constructor <;> (intro h9; omega))) | refine q_Gr.tr ?_ (by assumption) (by intro k9 j9 hk9; omega)))) c340_198 (by first | exact q_w32_id (by omega) (by omega) | exact q_w32w _ | exact rfl) (by first | assumption | omega) (by first | assumption | omega) rfl ?_
                    intro y459
                    refine r_aload_n c340_199 rfl rfl ?_
                    refine r_getr c340_200 (by first | assumption | omega) (by decide) (by first | assumption | rfl) rfl rfl ?_
                    refine r_bipush c340_203 rfl ?_
                    refine r_iload_n c340_205 rfl rfl ?_
                    refine r_iadd c340_206 (by first | exact q_w32_id (by omega) (by omega) | exact q_w32w _ | exact rfl) rfl ?_
                    refine r_laldw (q_Gr.rb (S := fun k j => k = 140 ∧ (26 ≤ j ∧ j ≤ 61 ∧ ¬(47 ≤ j ∧ j ≤ 49))) hR (by repeat (first | exact q_Gr.rf | refine q_Gr.ud ?_ (by omega) (by first | assumption | rfl) rfl (by first | exact ⟨fun h9 => absurd h9 (by decide), fun h9 => absurd h9 (by decide)⟩ | (constructor <;> (intro h9; omega))) | refine q_Gr.udz ?_ (by omega) (by first | assumption | decide | omega) (by first | exact ⟨fun h9 => absurd h9 (by decide), fun h9 => absurd h9 (by decide)⟩ | (constructor <;> (intro h9; omega))) | refine q_Gr.tr ?_ (by assumption) (by intro k9 j9 hk9; omega)))) c340_207 (by first | exact q_w32_id (by omega) (by omega) | exact q_w32w _ | exact rfl) (by first | assumption | omega) (by first | assumption | omega) rfl ?_
                    intro y460
                    refine r_aload_n c340_208 rfl rfl ?_
                    refine r_getr c340_209 (by first | assumption | omega) (by decide) (by first | assumption | rfl) rfl rfl ?_
                    refine r_bipush c340_212 rfl ?_
                    refine r_iload_n c340_214 rfl rfl ?_
                    refine r_iadd c340_215 (by first | exact q_w32_id (by omega) (by omega) | exact q_w32w _ | exact rfl) rfl ?_
                    refine r_laldw (q_Gr.rb (S := fun k j => k = 140 ∧ (26 ≤ j ∧ j ≤ 61 ∧ ¬(47 ≤ j ∧ j ≤ 49))) hR (by repeat (first | exact q_Gr.rf | refine q_Gr.ud ?_ (by omega) (by first | assumption | rfl) rfl (by first | exact ⟨fun h9 => absurd h9 (by decide), fun h9 => absurd h9 (by decide)⟩ | (constructor <;> (intro h9; omega))) | refine q_Gr.udz ?_ (by omega) (by first | assumption | decide | omega) (by first | exact ⟨fun h9 => absurd h9 (by decide), fun h9 => absurd h9 (by decide)⟩ | (constructor <;> (intro h9; omega))) | refine q_Gr.tr ?_ (by assumption) (by intro k9 j9 hk9; omega)))) c340_216 (by first | exact q_w32_id (by omega) (by omega) | exact q_w32w _ | exact rfl) (by first | assumption | omega) (by first | assumption | omega) rfl ?_
                    intro y461
                    refine r_ladd c340_217 rfl rfl ?_
                    refine r_lcmpn c340_218 rfl (by first | exact q_w64_id (by omega) (by omega) | exact rfl) (by first | exact q_w64_id (by omega) (by omega) | exact rfl) ?_ ?_ ?_
                    · intro b462
                      refine r_if_le c340_219 rfl (show q_w32 (-1) = -1 from rfl) ?_ ?_
                      · intro b463
                        refine r_iconst c340_232 rfl ?_
                        exact r_zret c340_233 ⟨rfl, rfl, rfl⟩ (by decide) ⟨rfl, ⟨_, rfl, (by decide)⟩, (by repeat (first | exact q_Gr.rf | refine q_Gr.ud ?_ (by omega) (by first | assumption | rfl) rfl (by first | exact ⟨fun h9 => absurd h9 (by decide), fun h9 => absurd h9 (by decide)⟩ | (constructor <;> (intro h9; omega))) | refine q_Gr.udz ?_ (by omega) (by first | assumption | decide | omega) (by first | exact ⟨fun h9 => absurd h9 (by decide), fun h9 => absurd h9 (by decide)⟩ | (constructor <;> (intro h9; omega))) | refine q_Gr.tr ?_ (by assumption) (by intro k9 j9 hk9; omega)))⟩
                      · intro b463
                        exact absurd b463.1 (by decide)
                    · intro b462
                      refine r_if_le c340_219 rfl (show q_w32 (0) = 0 from rfl) ?_ ?_
                      · intro b464
                        refine r_iconst c340_232 rfl ?_
                        exact r_zret c340_233 ⟨rfl, rfl, rfl⟩ (by decide) ⟨rfl, ⟨_, rfl, (by decide)⟩, (by repeat (first | exact q_Gr.rf | refine q_Gr.ud ?_ (by omega) (by first | assumption | rfl) rfl (by first | exact ⟨fun h9 => absurd h9 (by decide), fun h9 => absurd h9 (by decide)⟩ | (constructor <;> (intro h9; omega))) | refine q_Gr.udz ?_ (by omega) (by first | assumption | decide | omega) (by first | exact ⟨fun h9 => absurd h9 (by decide), fun h9 => absurd h9 (by decide)⟩ | (constructor <;> (intro h9; omega))) | refine q_Gr.tr ?_ (by assumption) (by intro k9 j9 hk9; omega)))⟩
                      · intro b464
                        exact absurd b464.1 (by decide)
                    · intro b462
                      refine r_if_le c340_219 rfl (show q_w32 (1) = 1 from rfl) ?_ ?_
                      · intro b465
                        exact absurd b465.1 (by decide)
                      · intro b465
                        refine r_aload_n c340_222 rfl rfl ?_
                        refine r_getr c340_223 (by first | assumption | omega) (by decide) (by first | assumption | rfl) rfl rfl ?_
                        refine r_bipush c340_226 rfl ?_
                        refine r_iload_n c340_228 rfl rfl ?_
                        refine r_iadd c340_229 (by first | exact q_w32_id (by omega) (by omega) | exact q_w32w _ | exact rfl) rfl ?_
                        refine r_lconst c340_230 rfl ?_
                        refine r_last c340_231 (by first | assumption | omega) (by decide) (by first | assumption | rfl) (by first | assumption | decide) (by first | exact q_w32_id (by omega) (by omega) | exact q_w32w _ | exact rfl) (by first | assumption | omega) (by first | assumption | omega) rfl ?_
                        refine r_iconst c340_232 rfl ?_
                        exact r_zret c340_233 ⟨rfl, rfl, rfl⟩ (by decide) ⟨rfl, ⟨_, rfl, (by decide)⟩, (by repeat (first | exact q_Gr.rf | refine q_Gr.ud ?_ (by omega) (by first | assumption | rfl) rfl (by first | exact ⟨fun h9 => absurd h9 (by decide), fun h9 => absurd h9 (by decide)⟩ | (constructor <;> (intro h9; omega))) | refine q_Gr.udz ?_ (by omega) (by first | assumption | decide | omega) (by first | exact ⟨fun h9 => absurd h9 (by decide), fun h9 => absurd h9 (by decide)⟩ | (constructor <;> (intro h9; omega))) | refine q_Gr.tr ?_ (by assumption) (by intro k9 j9 hk9; omega)))⟩
                  · intro b458
                    exact absurd b458.1 (by decide)
              · intro b437
                exact absurd b437.1 (by decide)
            · intro b436
              refine r_if_ne c340_126 rfl (show q_w32 (0) = 0 from rfl) ?_ ?_
              · intro b466
                exact absurd b466.1 (by decide)
              · intro b466
                refine r_aload_n c340_129 rfl rfl ?_
                refine r_getr c340_130 (by first | assumption | omega) (by decide) (by first | assumption | rfl) rfl rfl ?_
                refine r_bipush c340_133 rfl ?_
                refine r_iload_n c340_135 rfl rfl ?_
                refine r_iadd c340_136 (by first | exact q_w32_id (by omega) (by omega) | exact q_w32w _ | exact rfl) rfl ?_
                refine r_dup2 c340_137 rfl rfl rfl ?_
                refine r_laldw (q_Gr.rb (S := fun k j => k = 140 ∧ (26 ≤ j ∧ j ≤ 61 ∧ ¬(47 ≤ j ∧ j ≤ 49))) hR (by repeat (first | exact q_Gr.rf | refine q_Gr.ud ?_ (by omega) (by first | assumption | rfl) rfl (by first | exact ⟨fun h9 => absurd h9 (by decide), fun h9 => absurd h9 (by decide)⟩ | (constructor <;> (intro h9; omega))) | refine q_Gr.udz ?_ (by omega) (by first | assumption | decide | omega) (by first | exact ⟨fun h9 => absurd h9 (by decide), fun h9 => absurd h9 (by decide)⟩ | (constructor <;> (intro h9; omega))) | refine q_Gr.tr ?_ (by assumption) (by intro k9 j9 hk9; omega)))) c340_138 (by first | exact q_w32_id (by omega) (by omega) | exact q_w32w _ | exact rfl) (by first | assumption | omega) (by first | assumption | omega) rfl ?_
                intro y467
                refine r_lconst c340_139 rfl ?_
                refine r_ladd c340_140 rfl rfl ?_
                refine r_last c340_141 (by first | assumption | omega) (by decide) (by first | assumption | rfl) (by first | assumption | decide) (by first | exact q_w32_id (by omega) (by omega) | exact q_w32w _ | exact rfl) (by first | assumption | omega) (by first | assumption | omega) rfl ?_
                refine r_iconst c340_142 rfl ?_
                exact r_zret c340_143 ⟨rfl, rfl, rfl⟩ (by decide) ⟨rfl, ⟨_, rfl, (by decide)⟩, (by repeat (first | exact q_Gr.rf | refine q_Gr.ud ?_ (by omega) (by first | assumption | rfl) rfl (by first | exact ⟨fun h9 => absurd h9 (by decide), fun h9 => absurd h9 (by decide)⟩ | (constructor <;> (intro h9; omega))) | refine q_Gr.udz ?_ (by omega) (by first | assumption | decide | omega) (by first | exact ⟨fun h9 => absurd h9 (by decide), fun h9 => absurd h9 (by decide)⟩ | (constructor <;> (intro h9; omega))) | refine q_Gr.tr ?_ (by assumption) (by intro k9 j9 hk9; omega)))⟩
            · intro b436
              refine r_if_ne c340_126 rfl (show q_w32 (1) = 1 from rfl) ?_ ?_
              · intro b468
                refine r_aload_n c340_144 rfl rfl ?_
                refine r_getr c340_145 (by first | assumption | omega) (by decide) (by first | assumption | rfl) rfl rfl ?_
                refine r_bipush c340_148 rfl ?_
                refine r_iload_n c340_150 rfl rfl ?_
                refine r_iadd c340_151 (by first | exact q_w32_id (by omega) (by omega) | exact q_w32w _ | exact rfl) rfl ?_
                refine r_dup2 c340_152 rfl rfl rfl ?_
                refine r_laldw (q_Gr.rb (S := fun k j => k = 140 ∧ (26 ≤ j ∧ j ≤ 61 ∧ ¬(47 ≤ j ∧ j ≤ 49))) hR (by repeat (first | exact q_Gr.rf | refine q_Gr.ud ?_ (by omega) (by first | assumption | rfl) rfl (by first | exact ⟨fun h9 => absurd h9 (by decide), fun h9 => absurd h9 (by decide)⟩ | (constructor <;> (intro h9; omega))) | refine q_Gr.udz ?_ (by omega) (by first | assumption | decide | omega) (by first | exact ⟨fun h9 => absurd h9 (by decide), fun h9 => absurd h9 (by decide)⟩ | (constructor <;> (intro h9; omega))) | refine q_Gr.tr ?_ (by assumption) (by intro k9 j9 hk9; omega)))) c340_153 (by first | exact q_w32_id (by omega) (by omega) | exact q_w32w _ | exact rfl) (by first | assumption | omega) (by first | assumption | omega) rfl ?_
                intro y469
                refine r_iload_n c340_154 rfl rfl ?_
                refine r_i2l c340_155 (by first | exact q_w32_id (by omega) (by omega) | exact q_w32w _ | exact rfl) rfl ?_
                refine r_ladd c340_156 rfl rfl ?_
                refine r_last c340_157 (by first | assumption | omega) (by decide) (by first | assumption | rfl) (by first | assumption | decide) (by first | exact q_w32_id (by omega) (by omega) | exact q_w32w _ | exact rfl) (by first | assumption | omega) (by first | assumption | omega) rfl ?_
                refine r_aload_n c340_158 rfl rfl ?_
                refine r_getr c340_159 (by first | assumption | omega) (by decide) (by first | assumption | rfl) rfl rfl ?_
                refine r_bipush c340_162 rfl ?_
                refine r_iload_n c340_164 rfl rfl ?_
                refine r_iadd c340_165 (by first | exact q_w32_id (by omega) (by omega) | exact q_w32w _ | exact rfl) rfl ?_
                refine r_laldw (q_Gr.rb (S := fun k j => k = 140 ∧ (26 ≤ j ∧ j ≤ 61 ∧ ¬(47 ≤ j ∧ j ≤ 49))) hR (by repeat (first | exact q_Gr.rf | refine q_Gr.ud ?_ (by omega) (by first | assumption | rfl) rfl (by first | exact ⟨fun h9 => absurd h9 (by decide), fun h9 => absurd h9 (by decide)⟩ | (constructor <;> (intro h9; omega))) | refine q_Gr.udz ?_ (by omega) (by first | assumption | decide | omega) (by first | exact ⟨fun h9 => absurd h9 (by decide), fun h9 => absurd h9 (by decide)⟩ | (constructor <;> (intro h9; omega))) | refine q_Gr.tr ?_ (by assumption) (by intro k9 j9 hk9; omega)))) c340_166 (by first | exact q_w32_id (by omega) (by omega) | exact q_w32w _ | exact rfl) (by first | assumption | omega) (by first | assumption | omega) rfl ?_
                intro y470
                refine r_aload_n c340_167 rfl rfl ?_
                refine r_getr c340_168 (by first | assumption | omega) (by decide) (by first | assumption | rfl) rfl rfl ?_
                refine r_bipush c340_171 rfl ?_
                refine r_iload_n c340_173 rfl rfl ?_
                refine r_iadd c340_174 (by first | exact q_w32_id (by omega) (by omega) | exact q_w32w _ | exact rfl) rfl ?_
                refine r_laldw (q_Gr.rb (S := fun k j => k = 140 ∧ (26 ≤ j ∧ j ≤ 61 ∧ ¬(47 ≤ j ∧ j ≤ 49))) hR (by repeat (first | exact q_Gr.rf | refine q_Gr.ud ?_ (by omega) (by first | assumption | rfl) rfl (by first | exact ⟨fun h9 => absurd h9 (by decide), fun h9 => absurd h9 (by decide)⟩ | (constructor <;> (intro h9; omega))) | refine q_Gr.udz ?_ (by omega) (by first | assumption | decide | omega) (by first | exact ⟨fun h9 => absurd h9 (by decide), fun h9 => absurd h9 (by decide)⟩ | (constructor <;> (intro h9; omega))) | refine q_Gr.tr ?_ (by assumption) (by intro k9 j9 hk9; omega)))) c340_175 (by first | exact q_w32_id (by omega) (by omega) | exact q_w32w _ | exact rfl) (by first | assumption | omega) (by first | assumption | omega) rfl ?_
                intro y471
                refine r_lcmpn c340_176 rfl (by first | exact q_w64_id (by omega) (by omega) | exact rfl) (by first | exact q_w64_id (by omega) (by omega) | exact rfl) ?_ ?_ ?_
                · intro b472
                  refine r_if_gt c340_177 rfl (show q_w32 (-1) = -1 from rfl) ?_ ?_
                  · intro b473
                    exact absurd b473.1 (by decide)
                  · intro b473
                    refine r_aload_n c340_180 rfl rfl ?_
                    refine r_getr c340_181 (by first | assumption | omega) (by decide) (by first | assumption | rfl) rfl rfl ?_
                    refine r_bipush c340_184 rfl ?_
                    refine r_iload_n c340_186 rfl rfl ?_
                    refine r_iadd c340_187 (by first | exact q_w32_id (by omega) (by omega) | exact q_w32w _ | exact rfl) rfl ?_
                    refine r_lconst c340_188 rfl ?_
                    refine r_last c340_189 (by first | assumption | omega) (by decide) (by first | assumption | rfl) (by first | assumption | decide) (by first | exact q_w32_id (by omega) (by omega) | exact q_w32w _ | exact rfl) (by first | assumption | omega) (by first | assumption | omega) rfl ?_
                    refine r_aload_n c340_190 rfl rfl ?_
                    refine r_getr c340_191 (by first | assumption | omega) (by decide) (by first | assumption | rfl) rfl rfl ?_
                    refine r_bipush c340_194 rfl ?_
                    refine r_iload_n c340_196 rfl rfl ?_
                    refine r_iadd c340_197 (by first | exact q_w32_id (by omega) (by omega) | exact q_w32w _ | exact rfl) rfl ?_
                    refine r_laldw (q_Gr.rb (S := fun k j => k = 140 ∧ (26 ≤ j ∧ j ≤ 61 ∧ ¬(47 ≤ j ∧ j ≤ 49))) hR (by repeat (first | exact q_Gr.rf | refine q_Gr.ud ?_ (by omega) (by first | assumption | rfl) rfl (by first | exact ⟨fun h9 => absurd h9 (by decide), fun h9 => absurd h9 (by decide)⟩ | (constructor <;> (intro h9; omega))) | refine q_Gr.udz ?_ (by omega) (by first | assumption | decide | omega) (by first | exact ⟨fun h9 => absurd h9 (by decide), fun h9 => absurd h9 (by decide)⟩ | (constructor <;> (intro h9; omega))) | refine q_Gr.tr ?_ (by assumption) (by intro k9 j9 hk9; omega)))) c340_198 (by first | exact q_w32_id (by omega) (by omega) | exact q_w32w _ | exact rfl) (by first | assumption | omega) (by first | assumption | omega) rfl ?_
                    intro y474
                    refine r_aload_n c340_199 rfl rfl ?_
                    refine r_getr c340_200 (by first | assumption | omega) (by decide) (by first | assumption | rfl) rfl rfl ?_
                    refine r_bipush c340_203 rfl ?_
                    refine r_iload_n c340_205 rfl rfl ?_
                    refine r_iadd c340_206 (by first | exact q_w32_id (by omega) (by omega) | exact q_w32w _ | exact rfl) rfl ?_
                    refine r_laldw (q_Gr.rb (S := fun k j => k = 140 ∧ (26 ≤ j ∧ j ≤ 61 ∧ ¬(47 ≤ j ∧ j ≤ 49))) hR (by repeat (first | exact q_Gr.rf | refine q_Gr.ud ?_ (by omega) (by first | assumption | rfl) rfl (by first | exact ⟨fun h9 => absurd h9 (by decide), fun h9 => absurd h9 (by decide)⟩ | (constructor <;> (intro h9; omega))) | refine q_Gr.udz ?_ (by omega) (by first | assumption | decide | omega) (by first | exact ⟨fun h9 => absurd h9 (by decide), fun h9 => absurd h9 (by decide)⟩ | (constructor <;> (intro h9; omega))) | refine q_Gr.tr ?_ (by assumption) (by intro k9 j9 hk9; omega)))) c340_207 (by first | exact q_w32_id (by omega) (by omega) | exact q_w32w _ | exact rfl) (by first | assumption | omega) (by first | assumption | omega) rfl ?_
                    intro y475
                    refine r_aload_n c340_208 rfl rfl ?_
                    refine r_getr c340_209 (by first | assumption | omega) (by decide) (by first | assumption | rfl) rfl rfl ?_
                    refine r_bipush c340_212 rfl ?_
                    refine r_iload_n c340_214 rfl rfl ?_
                    refine r_iadd c340_215 (by first | exact q_w32_id (by omega) (by omega) | exact q_w32w _ | exact rfl) rfl ?_
                    refine r_laldw (q_Gr.rb (S := fun k j => k = 140 ∧ (26 ≤ j ∧ j ≤ 61 ∧ ¬(47 ≤ j ∧ j ≤ 49))) hR (by repeat (first | exact q_Gr.rf | refine q_Gr.ud ?_ (by omega) (by first | assumption | rfl) rfl (by first | exact ⟨fun h9 => absurd h9 (by decide), fun h9 => absurd h9 (by decide)⟩ | (constructor <;> (intro h9; omega))) | refine q_Gr.udz ?_ (by omega) (by first | assumption | decide | omega) (by first | exact ⟨fun h9 => absurd h9 (by decide), fun h9 => absurd h9 (by decide)⟩ | (constructor <;> (intro h9; omega))) | refine q_Gr.tr ?_ (by assumption) (by intro k9 j9 hk9; omega)))) c340_216 (by first | exact q_w32_id (by omega) (by omega) | exact q_w32w _ | exact rfl) (by first | assumption | omega) (by first | assumption | omega) rfl ?_
                    intro y476
                    refine r_ladd c340_217 rfl rfl ?_
                    refine r_lcmpn c340_218 rfl (by first | exact q_w64_id (by omega) (by omega) | exact rfl) (by first | exact q_w64_id (by omega) (by omega) | exact rfl) ?_ ?_ ?_
                    · intro b477
                      refine r_if_le c340_219 rfl (show q_w32 (-1) = -1 from rfl) ?_ ?_
                      · intro b478
                        refine r_iconst c340_232 rfl ?_
                        exact r_zret c340_233 ⟨rfl, rfl, rfl⟩ (by decide) ⟨rfl, ⟨_, rfl, (by decide)⟩, (by repeat (first | exact q_Gr.rf | refine q_Gr.ud ?_ (by omega) (by first | assumption | rfl) rfl (by first | exact ⟨fun h9 => absurd h9 (by decide), fun h9 => absurd h9 (by decide)⟩ | (constructor <;> (intro h9; omega))) | refine q_Gr.udz ?_ (by omega) (by first | assumption | decide | omega) (by first | exact ⟨fun h9 => absurd h9 (by decide), fun h9 => absurd h9 (by decide)⟩ | (constructor <;> (intro h9; omega))) | refine q_Gr.tr ?_ (by assumption) (by intro k9 j9 hk9; omega)))⟩
                      · intro b478
                        exact absurd b478.1 (by decide)
                    · intro b477
                      refine r_if_le c340_219 rfl (show q_w32 (0) = 0 from rfl) ?_ ?_
                      · intro b479
                        refine r_iconst c340_232 rfl ?_
                        exact r_zret c340_233 ⟨rfl, rfl, rfl⟩ (by decide) ⟨rfl, ⟨_, rfl, (by decide)⟩, (by repeat (first | exact q_Gr.rf | refine q_Gr.ud ?_ (by omega) (by first | assumption | rfl) rfl (by first | exact ⟨fun h9 => absurd h9 (by decide), fun h9 => absurd h9 (by decide)⟩ | (constructor <;> (intro h9; omega))) | refine q_Gr.udz ?_ (by omega) (by first | assumption | decide | omega) (by first | exact ⟨fun h9 => absurd h9 (by decide), fun h9 => absurd h9 (by decide)⟩ | (constructor <;> (intro h9; omega))) | refine q_Gr.tr ?_ (by assumption) (by intro k9 j9 hk9; omega)))⟩
                      · intro b479
                        exact absurd b479.1 (by decide)
                    · intro b477
                      refine r_if_le c340_219 rfl (show q_w32 (1) = 1 from rfl) ?_ ?_
                      · intro b480
                        exact absurd b480.1 (by decide)
                      · intro b480
                        refine r_aload_n c340_222 rfl rfl ?_
                        refine r_getr c340_223 (by first | assumption | omega) (by decide) (by first | assumption | rfl) rfl rfl ?_
                        refine r_bipush c340_226 rfl ?_
                        refine r_iload_n c340_228 rfl rfl ?_
                        refine r_iadd c340_229 (by first | exact q_w32_id (by omega) (by omega) | exact q_w32w _ | exact rfl) rfl ?_
                        refine r_lconst c340_230 rfl ?_
                        refine r_last c340_231 (by first | assumption | omega) (by decide) (by first | assumption | rfl) (by first | assumption | decide) (by first | exact q_w32_id (by omega) (by omega) | exact q_w32w _ | exact rfl) (by first | assumption | omega) (by first | assumption | omega) rfl ?_
                        refine r_iconst c340_232 rfl ?_
                        exact r_zret c340_233 ⟨rfl, rfl, rfl⟩ (by decide) ⟨rfl, ⟨_, rfl, (by decide)⟩, (by repeat (first | exact q_Gr.rf | refine q_Gr.ud ?_ (by omega) (by first | assumption | rfl) rfl (by first | exact ⟨fun h9 => absurd h9 (by decide), fun h9 => absurd h9 (by decide)⟩ | (constructor <;> (intro h9; omega))) | refine q_Gr.udz ?_ (by omega) (by first | assumption | decide | omega) (by first | exact ⟨fun h9 => absurd h9 (by decide), fun h9 => absurd h9 (by decide)⟩ | (constructor <;> (intro h9; omega))) | refine q_Gr.tr ?_ (by assumption) (by intro k9 j9 hk9; omega)))⟩
                · intro b472
                  refine r_if_gt c340_177 rfl (show q_w32 (0) = 0 from rfl) ?_ ?_
                  · intro b481
                    exact absurd b481.1 (by decide)
                  · intro b481
                    refine r_aload_n c340_180 rfl rfl ?_
                    refine r_getr c340_181 (by first | assumption | omega) (by decide) (by first | assumption | rfl) rfl rfl ?_
                    refine r_bipush c340_184 rfl ?_
                    refine r_iload_n c340_186 rfl rfl ?_
                    refine r_iadd c340_187 (by first | exact q_w32_id (by omega) (by omega) | exact q_w32w _ | exact rfl) rfl ?_
                    refine r_lconst c340_188 rfl ?_
                    refine r_last c340_189 (by first | assumption | omega) (by decide) (by first | assumption | rfl) (by first | assumption | decide) (by first | exact q_w32_id (by omega) (by omega) | exact q_w32w _ | exact rfl) (by first | assumption | omega) (by first | assumption | omega) rfl ?_
                    refine r_aload_n c340_190 rfl rfl ?_
                    refine r_getr c340_191 (by first | assumption | omega) (by decide) (by first | assumption | rfl) rfl rfl ?_
                    refine r_bipush c340_194 rfl ?_
                    refine r_iload_n c340_196 rfl rfl ?_
                    refine r_iadd c340_197 (by first | exact q_w32_id (by omega) (by omega) | exact q_w32w _ | exact rfl) rfl ?_
                    refine r_laldw (q_Gr.rb (S := fun k j => k = 140 ∧ (26 ≤ j ∧ j ≤ 61 ∧ ¬(47 ≤ j ∧ j ≤ 49))) hR (by repeat (first | exact q_Gr.rf | refine q_Gr.ud ?_ (by omega) (by first | assumption | rfl) rfl (by first | exact ⟨fun h9 => absurd h9 (by decide), fun h9 => absurd h9 (by decide)⟩ | (constructor <;> (intro h9; omega))) | refine q_Gr.udz ?_ (by omega) (by first | assumption | decide | omega) (by first | exact ⟨fun h9 => absurd h9 (by decide), fun h9 => absurd h9 (by decide)⟩ | (constructor <;> (intro h9; omega))) | refine q_Gr.tr ?_ (by assumption) (by intro k9 j9 hk9; omega)))) c340_198 (by first | exact q_w32_id (by omega) (by omega) | exact q_w32w _ | exact rfl) (by first | assumption | omega) (by first | assumption | omega) rfl ?_
                    intro y482
                    refine r_aload_n c340_199 rfl rfl ?_
                    refine r_getr c340_200 (by first | assumption | omega) (by decide) (by first | assumption | rfl) rfl rfl ?_
                    refine r_bipush c340_203 rfl ?_
                    refine r_iload_n c340_205 rfl rfl ?_
                    refine r_iadd c340_206 (by first | exact q_w32_id (by omega) (by omega) | exact q_w32w _ | exact rfl) rfl ?_
                    refine r_laldw (q_Gr.rb (S := fun k j => k = 140 ∧ (26 ≤ j ∧ j ≤ 61 ∧ ¬(47 ≤ j ∧ j ≤ 49))) hR (by repeat (first | exact q_Gr.rf | refine q_Gr.ud ?_ (by omega) (by first | assumption | rfl) rfl (by first | exact ⟨fun h9 => absurd h9 (by decide), fun h9 => absurd h9 (by decide)⟩ | (constructor <;> (intro h9; omega))) | refine q_Gr.udz ?_ (by omega) (by first | assumption | decide | omega) (by first | exact ⟨fun h9 => absurd h9 (by decide), fun h9 => absurd h9 (by decide)⟩ | (constructor <;> (intro h9; omega))) | refine q_Gr.tr ?_ (by assumption) (by intro k9 j9 hk9; omega)))) c340_207 (by first | exact q_w32_id (by omega) (by omega) | exact q_w32w _ | exact rfl) (by first | assumption | omega) (by first | assumption | omega) rfl ?_
                    intro y483
                    refine r_aload_n c340_208 rfl rfl ?_
                    refine r_getr c340_209 (by first | assumption | omega) (by decide) (by first | assumption | rfl) rfl rfl ?_
                    refine r_bipush c340_212 rfl ?_
                    refine r_iload_n c340_214 rfl rfl ?_
                    refine r_iadd c340_215 (by first | exact q_w32_id (by omega) (by omega) | exact q_w32w _ | exact rfl) rfl ?_
                    refine r_laldw (q_Gr.rb (S := fun k j => k = 140 ∧ (26 ≤ j ∧ j ≤ 61 ∧ ¬(47 ≤ j ∧ j ≤ 49))) hR (by repeat (first | exact q_Gr.rf | refine q_Gr.ud ?_ (by omega) (by first | assumption | rfl) rfl (by first | exact ⟨fun h9 => absurd h9 (by decide), fun h9 => absurd h9 (by decide)⟩ | (constructor <;> (intro h9; omega))) | refine q_Gr.udz ?_ (by omega) (by first | assumption | decide | omega) (by first | exact ⟨fun h9 => absurd h9 (by decide), fun h9 => absurd h9 (by decide)⟩ | (constructor <;> (intro h9; omega))) | refine q_Gr.tr ?_ (by assumption) (by intro k9 j9 hk9; omega)))) c340_216 (by first | exact q_w32_id (by omega) (by omega) | exact q_w32w _ | exact rfl) (by first | assumption | omega) (by first | assumption | omega) rfl ?_
                    intro y484
                    refine r_ladd c340_217 rfl rfl ?_
                    refine r_lcmpn c340_218 rfl (by first | exact q_w64_id (by omega) (by omega) | exact rfl) (by first | exact q_w64_id (by omega) (by omega) | exact rfl) ?_ ?_ ?_
                    · intro b485
                      refine r_if_le c340_219 rfl (show q_w32 (-1) = -1 from rfl) ?_ ?_
                      · intro b486
                        refine r_iconst c340_232 rfl ?_
                        exact r_zret c340_233 ⟨rfl, rfl, rfl⟩ (by decide) ⟨rfl, ⟨_, rfl, (by decide)⟩, (by repeat (first | exact q_Gr.rf | refine q_Gr.ud ?_ (by omega) (by first | assumption | rfl) rfl (by first | exact ⟨fun h9 => absurd h9 (by decide), fun h9 => absurd h9 (by decide)⟩ | (constructor <;> (intro h9; omega))) | refine q_Gr.udz ?_ (by omega) (by first | assumption | decide | omega) (by first | exact ⟨fun h9 => absurd h9 (by decide), fun h9 => absurd h9 (by decide)⟩ | (constructor <;> (intro h9; omega))) | refine q_Gr.tr ?_ (by assumption) (by intro k9 j9 hk9; omega)))⟩
                      · intro b486
                        exact absurd b486.1 (by decide)
                    · intro b485
                      refine r_if_le c340_219 rfl (show q_w32 (0) = 0 from rfl) ?_ ?_
                      · intro b487
                        refine r_iconst c340_232 rfl ?_
                        exact r_zret c340_233 ⟨rfl, rfl, rfl⟩ (by decide) ⟨rfl, ⟨_, rfl, (by decide)⟩, (by repeat (first | exact q_Gr.rf | refine q_Gr.ud ?_ (by omega) (by first | assumption | rfl) rfl (by first | exact ⟨fun h9 => absurd h9 (by decide), fun h9 => absurd h9 (by decide)⟩ | (constructor <;> (intro h9; omega))) | refine q_Gr.udz ?_ (by omega) (by first | assumption | decide | omega) (by first | exact ⟨fun h9 => absurd h9 (by decide), fun h9 => absurd h9 (by decide)⟩ | (constructor <;> (intro h9; omega))) | refine q_Gr.tr ?_ (by assumption) (by intro k9 j9 hk9; omega)))⟩
                      · intro b487
                        exact absurd b487.1 (by decide)
                    · intro b485
                      refine r_if_le c340_219 rfl (show q_w32 (1) = 1 from rfl) ?_ ?_
                      · intro b488
                        exact absurd b488.1 (by decide)
                      · intro b488
                        refine r_aload_n c340_222 rfl rfl ?_
                        refine r_getr c340_223 (by first | assumption | omega) (by decide) (by first | assumption | rfl) rfl rfl ?_
                        refine r_bipush c340_226 rfl ?_
                        refine r_iload_n c340_228 rfl rfl ?_
                        refine r_iadd c340_229 (by first | exact q_w32_id (by omega) (by omega) | exact q_w32w _ | exact rfl) rfl ?_
                        refine r_lconst c340_230 rfl ?_
                        refine r_last c340_231 (by first | assumption | omega) (by decide) (by first | assumption | rfl) (by first | assumption | decide) (by first | exact q_w32_id (by omega) (by omega) | exact q_w32w _ | exact rfl) (by first | assumption | omega) (by first | assumption | omega) rfl ?_
                        refine r_iconst c340_232 rfl ?_
                        exact r_zret c340_233 ⟨rfl, rfl, rfl⟩ (by decide) ⟨rfl, ⟨_, rfl, (by decide)⟩, (by repeat (first | exact q_Gr.rf | refine q_Gr.ud ?_ (by omega) (by first | assumption | rfl) rfl (by first | exact ⟨fun h9 => absurd h9 (by decide), fun h9 => absurd h9 (by decide)⟩ | (constructor <;> (intro h9; omega))) | refine q_Gr.udz ?_ (by omega) (by first | assumption | decide | omega) (by first | exact ⟨fun h9 => absurd h9 (by decide), fun h9 => absurd h9 (by decide)⟩ | (constructor <;> (intro h9; omega))) | refine q_Gr.tr ?_ (by assumption) (by intro k9 j9 hk9; omega)))⟩
                · intro b472
                  refine r_if_gt c340_177 rfl (show q_w32 (1) = 1 from rfl) ?_ ?_
                  · intro b489
                    refine r_aload_n c340_190 rfl rfl ?_
                    refine r_getr c340_191 (by first | assumption | omega) (by decide) (by first | assumption | rfl) rfl rfl ?_
                    refine r_bipush c340_194 rfl ?_
                    refine r_iload_n c340_196 rfl rfl ?_
                    refine r_iadd c340_197 (by first | exact q_w32_id (by omega) (by omega) | exact q_w32w _ | exact rfl) rfl ?_
                    refine r_laldw (q_Gr.rb (S := fun k j => k = 140 ∧ (26 ≤ j ∧ j ≤ 61 ∧ ¬(47 ≤ j ∧ j ≤ 49))) hR (by repeat (first | exact q_Gr.rf | refine q_Gr.ud ?_ (by omega) (by first | assumption | rfl) rfl (by first | exact ⟨fun h9 => absurd h9 (by decide), fun h9 => absurd h9 (by decide)⟩ | (constructor <;> (intro h9; omega))) | refine q_Gr.udz ?_ (by omega) (by first | assumption | decide | omega) (by first | exact ⟨fun h9 => absurd h9 (by decide), fun h9 => absurd h9 (by decide)⟩ | (constructor <;> (intro h9; omega))) | refine q_Gr.tr ?_ (by assumption) (by intro k9 j9 hk9; omega)))) c340_198 (by first | exact q_w32_id (by omega) (by omega) | exact q_w32w _ | exact rfl) (by first | assumption | omega) (by first | assumption | omega) rfl ?_
                    intro y490
                    refine r_aload_n c340_199 rfl rfl ?_
                    refine r_getr c340_200 (by first | assumption | omega) (by decide) (by first | assumption | rfl) rfl rfl ?_
                    refine r_bipush c340_203 rfl ?_
                    refine r_iload_n c340_205 rfl rfl ?_
                    refine r_iadd c340_206 (by first | exact q_w32_id (by omega) (by omega) | exact q_w32w _ | exact rfl) rfl ?_
                    refine r_laldw (q_Gr.rb (S := fun k j => k = 140 ∧ (26 ≤ j ∧ j ≤ 61 ∧ ¬(47 ≤ j ∧ j ≤ 49))) hR (by repeat (first | exact q_Gr.rf | refine q_Gr.ud ?_ (by omega) (by first | assumption | rfl) rfl (by first | exact ⟨fun h9 => absurd h9 (by decide), fun h9 => absurd h9 (by decide)⟩ | (constructor <;> (intro h9; omega))) | refine q_Gr.udz ?_ (by omega) (by first | assumption | decide | omega) (by first | exact ⟨fun h9 => absurd h9 (by decide), fun h9 => absurd h9 (by decide)⟩ | (constructor <;> (intro h9; omega))) | refine q_Gr.tr ?_ (by assumption) (by intro k9 j9 hk9; omega)))) c340_207 (by first | exact q_w32_id (by omega) (by omega) | exact q_w32w _ | exact rfl) (by first | assumption | omega) (by first | assumption | omega) rfl ?_
                    intro y491
                    refine r_aload_n c340_208 rfl rfl ?_
                    refine r_getr c340_209 (by first | assumption | omega) (by decide) (by first | assumption | rfl) rfl rfl ?_
                    refine r_bipush c340_212 rfl ?_
                    refine r_iload_n c340_214 rfl rfl ?_
                    refine r_iadd c340_215 (by first | exact q_w32_id (by omega) (by omega) | exact q_w32w _ | exact rfl) rfl ?_
                    refine r_laldw (q_Gr.rb (S := fun k j => k = 140 ∧ (26 ≤ j ∧ j ≤ 61 ∧ ¬(47 ≤ j ∧ j ≤ 49))) hR (by repeat (first | exact q_Gr.rf | refine q_Gr.ud ?_ (by omega) (by first | assumption | rfl) rfl (by first | exact ⟨fun h9 => absurd h9 (by decide), fun h9 => absurd h9 (by decide)⟩ | (constructor <;> (intro h9; omega))) | refine q_Gr.udz ?_ (by omega) (by first | assumption | decide | omega) (by first | exact ⟨fun h9 => absurd h9 (by decide), fun h9 => absurd h9 (by decide)⟩ | (constructor <;> (intro h9; omega))) | refine q_Gr.tr ?_ (by assumption) (by intro k9 j9 hk9; omega)))) c340_216 (by first | exact q_w32_id (by omega) (by omega) | exact q_w32w _ | exact rfl) (by first | assumption | omega) (by first | assumption | omega) rfl ?_
                    intro y492
                    refine r_ladd c340_217 rfl rfl ?_
                    refine r_lcmpn c340_218 rfl (by first | exact q_w64_id (by omega) (by omega) | exact rfl) (by first | exact q_w64_id (by omega) (by omega) | exact rfl) ?_ ?_ ?_
                    · intro b493
                      refine r_if_le c340_219 rfl (show q_w32 (-1) = -1 from rfl) ?_ ?_
                      · intro b494
                        refine r_iconst c340_232 rfl ?_
                        exact r_zret c340_233 ⟨rfl, rfl, rfl⟩ (by decide) ⟨rfl, ⟨_, rfl, (by decide)⟩, (by repeat (first | exact q_Gr.rf | refine q_Gr.ud ?_ (by omega) (by first | assumption | rfl) rfl (by first | exact ⟨fun h9 => absurd h9 (by decide), fun h9 => absurd h9 (by decide)⟩ | (constructor <;> (intro h9; omega))) | refine q_Gr.udz ?_ (by omega) (by first | assumption | decide | omega) (by first | exact ⟨fun h9 => absurd h9 (by decide), fun h9 => absurd h9 (by decide)⟩ | (constructor <;> (intro h9; omega))) | refine q_Gr.tr ?_ (by assumption) (by intro k9 j9 hk9; omega)))⟩
                      · intro b494
                        exact absurd b494.1 (by decide)
                    · intro b493
                      refine r_if_le c340_219 rfl (show q_w32 (0) = 0 from rfl) ?_ ?_
                      · intro b495
                        refine r_iconst c340_232 rfl ?_
                        exact r_zret c340_233 ⟨rfl, rfl, rfl⟩ (by decide) ⟨rfl, ⟨_, rfl, (by decide)⟩, (by repeat (first | exact q_Gr.rf | refine q_Gr.ud ?_ (by omega) (by first | assumption | rfl) rfl (by first | exact ⟨fun h9 => absurd h9 (by decide), fun h9 => absurd h9 (by decide)⟩ | (constructor <;> (intro h9; omega))) | refine q_Gr.udz ?_ (by omega) (by first | assumption | decide | omega) (by first | exact ⟨fun h9 => absurd h9 (by decide), fun h9 => absurd h9 (by decide)⟩ | (constructor <;> (intro h9; omega))) | refine q_Gr.tr ?_ (by assumption) (by intro k9 j9 hk9; omega)))⟩
                      · intro b495
                        exact absurd b495.1 (by decide)
                    · intro b493
                      refine r_if_le c340_219 rfl (show q_w32 (1) = 1 from rfl) ?_ ?_
                      · intro b496
                        exact absurd b496.1 (by decide)
                      · intro b496
                        refine r_aload_n c340_222 rfl rfl ?_
                        refine r_getr c340_223 (by first | assumption | omega) (by decide) (by first | assumption | rfl) rfl rfl ?_
                        refine r_bipush c340_226 rfl ?_
                        refine r_iload_n c340_228 rfl rfl ?_
                        refine r_iadd c340_229 (by first | exact q_w32_id (by omega) (by omega) | exact q_w32w _ | exact rfl) rfl ?_
                        refine r_lconst c340_230 rfl ?_
                        refine r_last c340_231 (by first | assumption | omega) (by decide) (by first | assumption | rfl) (by first | assumption | decide) (by first | exact q_w32_id (by omega) (by omega) | exact q_w32w _ | exact rfl) (by first | assumption | omega) (by first | assumption | omega) rfl ?_
                        refine r_iconst c340_232 rfl ?_
                        exact r_zret c340_233 ⟨rfl, rfl, rfl⟩ (by decide) ⟨rfl, ⟨_, rfl, (by decide)⟩, (by repeat (first | exact q_Gr.rf | refine q_Gr.ud ?_ (by omega) (by first | assumption | rfl) rfl (by first | exact ⟨fun h9 => absurd h9 (by decide), fun h9 => absurd h9 (by decide)⟩ | (constructor <;> (intro h9; omega))) | refine q_Gr.udz ?_ (by omega) (by first | assumption | decide | omega) (by first | exact ⟨fun h9 => absurd h9 (by decide), fun h9 => absurd h9 (by decide)⟩ | (constructor <;> (intro h9; omega))) | refine q_Gr.tr ?_ (by assumption) (by intro k9 j9 hk9; omega)))⟩
                  · intro b489
                    exact absurd b489.1 (by decide)
              · intro b468
                exact absurd b468.1 (by decide)
          · intro b434
            exact absurd b434.1 (by decide)
        · intro b431
          refine r_if_eq c340_95 rfl (show q_w32 (1) = 1 from rfl) ?_ ?_
          · intro b497
            exact absurd b497.1 (by decide)
          · intro b497
            refine r_aload_n c340_98 rfl rfl ?_
            refine r_getr c340_99 (by first | assumption | omega) (by decide) (by first | assumption | rfl) rfl rfl ?_
            refine r_bipush c340_102 rfl ?_
            refine r_iload_n c340_104 rfl rfl ?_
            refine r_iadd c340_105 (by first | exact q_w32_id (by omega) (by omega) | exact q_w32w _ | exact rfl) rfl ?_
            refine r_dup2 c340_106 rfl rfl rfl ?_
            refine r_laldw (q_Gr.rb (S := fun k j => k = 140 ∧ (26 ≤ j ∧ j ≤ 61 ∧ ¬(47 ≤ j ∧ j ≤ 49))) hR (by repeat (first | exact q_Gr.rf | refine q_Gr.ud ?_ (by omega) (by first | assumption | rfl) rfl (by first | exact ⟨fun h9 => absurd h9 (by decide), fun h9 => absurd h9 (by decide)⟩ | (constructor <;> (intro h9; omega))) | refine q_Gr.udz ?_ (by omega) (by first | assumption | decide | omega) (by first | exact ⟨fun h9 => absurd h9 (by decide), fun h9 => absurd h9 (by decide)⟩ | (constructor <;> (intro h9; omega))) | refine q_Gr.tr ?_ (by assumption) (by intro k9 j9 hk9; omega)))) c340_107 (by first | exact q_w32_id (by omega) (by omega) | exact q_w32w _ | exact rfl) (by first | assumption | omega) (by first | assumption | omega) rfl ?_
            intro y498
            refine r_iload_n c340_108 rfl rfl ?_
            refine r_i2l c340_109 (by first | exact q_w32_id (by omega) (by omega) | exact q_w32w _ | exact rfl) rfl ?_
            refine r_ladd c340_110 rfl rfl ?_
            refine r_last c340_111 (by first | assumption | omega) (by decide) (by first | assumption | rfl) (by first | assumption | decide) (by first | exact q_w32_id (by omega) (by omega) | exact q_w32w _ | exact rfl) (by first | assumption | omega) (by first | assumption | omega) rfl ?_
            refine r_iconst c340_112 rfl ?_
            exact r_zret c340_113 ⟨rfl, rfl, rfl⟩ (by decide) ⟨rfl, ⟨_, rfl, (by decide)⟩, (by repeat (first | exact q_Gr.rf | refine q_Gr.ud ?_ (by omega) (by first | assumption | rfl) rfl (by first | exact ⟨fun h9 => absurd h9 (by decide), fun h9 => absurd h9 (by decide)⟩ | (constructor <;> (intro h9; omega))) | refine q_Gr.udz ?_ (by omega) (by first | assumption | decide | omega) (by first | exact ⟨fun h9 => absurd h9 (by decide), fun h9 => absurd h9 (by decide)⟩ | (constructor <;> (intro h9; omega))) | refine q_Gr.tr ?_ (by assumption) (by intro k9 j9 hk9; omega)))⟩
      · intro b429
        refine r_aload_n c340_69 rfl rfl ?_
        refine r_getr c340_70 (by first | assumption | omega) (by decide) (by first | assumption | rfl) rfl rfl ?_
        refine r_bipush c340_73 rfl ?_
        refine r_iload_n c340_75 rfl rfl ?_
        refine r_iadd c340_76 (by first | exact q_w32_id (by omega) (by omega) | exact q_w32w _ | exact rfl) rfl ?_
        refine r_laldw (q_Gr.rb (S := fun k j => k = 140 ∧ (26 ≤ j ∧ j ≤ 61 ∧ ¬(47 ≤ j ∧ j ≤ 49))) hR (by repeat (first | exact q_Gr.rf | refine q_Gr.ud ?_ (by omega) (by first | assumption | rfl) rfl (by first | exact ⟨fun h9 => absurd h9 (by decide), fun h9 => absurd h9 (by decide)⟩ | (constructor <;> (intro h9; omega))) | refine q_Gr.udz ?_ (by omega) (by first | assumption | decide | omega) (by first | exact ⟨fun h9 => absurd h9 (by decide), fun h9 => absurd h9 (by decide)⟩ | (constructor <;> (intro h9; omega))) | refine q_Gr.tr ?_ (by assumption) (by intro k9 j9 hk9; omega)))) c340_77 (by first | exact q_w32_id (by omega) (by omega) | exact q_w32w _ | exact rfl) (by first | assumption | omega) (by first | assumption | omega) rfl ?_
        intro y499
        refine r_goto c340_78 ?_
        refine r_lstore c340_82 (lo' := [(5, _), (3, _), (0, _), (1, _), (2, _)]) rfl rfl rfl ?_
        refine r_aload_n c340_84 rfl rfl ?_
        refine r_getr c340_85 (by first | assumption | omega) (by decide) (by first | assumption | rfl) rfl rfl ?_
        refine r_bipush c340_88 rfl ?_
        refine r_iload_n c340_90 rfl rfl ?_
        refine r_iadd c340_91 (by first | exact q_w32_id (by omega) (by omega) | exact q_w32w _ | exact rfl) rfl ?_
        refine r_laldw (q_Gr.rb (S := fun k j => k = 140 ∧ (26 ≤ j ∧ j ≤ 61 ∧ ¬(47 ≤ j ∧ j ≤ 49))) hR (by repeat (first | exact q_Gr.rf | refine q_Gr.ud ?_ (by omega) (by first | assumption | rfl) rfl (by first | exact ⟨fun h9 => absurd h9 (by decide), fun h9 => absurd h9 (by decide)⟩ | (constructor <;> (intro h9; omega))) | refine q_Gr.udz ?_ (by omega) (by first | assumption | decide | omega) (by first | exact ⟨fun h9 => absurd h9 (by decide), fun h9 => absurd h9 (by decide)⟩ | (constructor <;> (intro h9; omega))) | refine q_Gr.tr ?_ (by assumption) (by intro k9 j9 hk9; omega)))) c340_92 (by first | exact q_w32_id (by omega) (by omega) | exact q_w32w _ | exact rfl) (by first | assumption | omega) (by first | assumption | omega) rfl ?_
        intro y500
        refine r_lload_n c340_93 rfl rfl ?_
        refine r_lcmpn c340_94 rfl (by first | exact q_w64_id (by omega) (by omega) | exact rfl) (by first | exact q_w64_id (by omega) (by omega) | exact rfl) ?_ ?_ ?_
        · intro b501
          refine r_if_eq c340_95 rfl (show q_w32 (-1) = -1 from rfl) ?_ ?_
          · intro b502
            exact absurd b502.1 (by decide)
          · intro b502
            refine r_aload_n c340_98 rfl rfl ?_
            refine r_getr c340_99 (by first | assumption | omega) (by decide) (by first | assumption | rfl) rfl rfl ?_
            refine r_bipush c340_102 rfl ?_
            refine r_iload_n c340_104 rfl rfl ?_
            refine r_iadd c340_105 (by first | exact q_w32_id (by omega) (by omega) | exact q_w32w _ | exact rfl) rfl ?_
            refine r_dup2 c340_106 rfl rfl rfl ?_
            refine r_laldw (q_Gr.rb (S := fun k j => k = 140 ∧ (26 ≤ j ∧ j ≤ 61 ∧ ¬(47 ≤ j ∧ j ≤ 49))) hR (by repeat (first | exact q_Gr.rf | refine q_Gr.ud ?_ (by omega) (by first | assumption | rfl) rfl (by first | exact ⟨fun h9 => absurd h9 (by decide), fun h9 => absurd h9 (by decide)⟩ | (constructor <;> (intro h9; omega))) | refine q_Gr.udz ?_ (by omega) (by first | assumption | decide | omega) (by first | exact ⟨fun h9 => absurd h9 (by decide), fun h9 => absurd h9 (by decide)⟩ | (constructor <;> (intro h9; omega))) | refine q_Gr.tr ?_ (by assumption) (by intro k9 j9 hk9; omega)))) c340_107 (by first | exact q_w32_id (by omega) (by omega) | exact q_w32w _ | exact rfl) (by first | assumption | omega) (by first | assumption | omega) rfl ?_
            intro y503
            refine r_iload_n c340_108 rfl rfl ?_
            refine r_i2l c340_109 (by first | exact q_w32_id (by omega) (by omega) | exact q_w32w _ | exact rfl) rfl ?_
            refine r_ladd c340_110 rfl rfl ?_
            refine r_last c340_111 (by first | assumption | omega) (by decide) (by first | assumption | rfl) (by first | assumption | decide) (by first | exact q_w32_id (by omega) (by omega) | exact q_w32w _ | exact rfl) (by first | assumption | omega) (by first | assumption | omega) rfl ?_
            refine r_iconst c340_112 rfl ?_
            exact r_zret c340_113 ⟨rfl, rfl, rfl⟩ (by decide) ⟨rfl, ⟨_, rfl, (by decide)⟩, (by repeat (first | exact q_Gr.rf | refine q_Gr.ud ?_ (by omega) (by first | assumption | rfl) rfl (by first | exact ⟨fun h9 => absurd h9 (by decide), fun h9 => absurd h9 (by decide)⟩ | (constructor <;> (intro h9; omega))) | refine q_Gr.udz ?_ (by omega) (by first | assumption | decide | omega) (by first | exact ⟨fun h9 => absurd h9 (by decide), fun h9 => absurd h9 (by decide)⟩ | (constructor <;> (intro h9; omega))) | refine q_Gr.tr ?_ (by assumption) (by intro k9 j9 hk9; omega)))⟩
        · intro b501
          refine r_if_eq c340_95 rfl (show q_w32 (0) = 0 from rfl) ?_ ?_
          · intro b504
            refine r_aload_n c340_114 rfl rfl ?_
            refine r_getr c340_115 (by first | assumption | omega) (by decide) (by first | assumption | rfl) rfl rfl ?_
            refine r_bipush c340_118 rfl ?_
            refine r_iload_n c340_120 rfl rfl ?_
            refine r_iadd c340_121 (by first | exact q_w32_id (by omega) (by omega) | exact q_w32w _ | exact rfl) rfl ?_
            refine r_laldw (q_Gr.rb (S := fun k j => k = 140 ∧ (26 ≤ j ∧ j ≤ 61 ∧ ¬(47 ≤ j ∧ j ≤ 49))) hR (by repeat (first | exact q_Gr.rf | refine q_Gr.ud ?_ (by omega) (by first | assumption | rfl) rfl (by first | exact ⟨fun h9 => absurd h9 (by decide), fun h9 => absurd h9 (by decide)⟩ | (constructor <;> (intro h9; omega))) | refine q_Gr.udz ?_ (by omega) (by first | assumption | decide | omega) (by first | exact ⟨fun h9 => absurd h9 (by decide), fun h9 => absurd h9 (by decide)⟩ | (constructor <;> (intro h9; omega))) | refine q_Gr.tr ?_ (by assumption) (by intro k9 j9 hk9; omega)))) c340_122 (by first | exact q_w32_id (by omega) (by omega) | exact q_w32w _ | exact rfl) (by first | assumption | omega) (by first | assumption | omega) rfl ?_
            intro y505
            refine r_lload c340_123 rfl rfl ?_
            refine r_lcmpn c340_125 rfl (by first | exact q_w64_id (by omega) (by omega) | exact rfl) (by first | exact q_w64_id (by omega) (by omega) | exact rfl) ?_ ?_ ?_
            · intro b506
              refine r_if_ne c340_126 rfl (show q_w32 (-1) = -1 from rfl) ?_ ?_
              · intro b507
                refine r_aload_n c340_144 rfl rfl ?_
                refine r_getr c340_145 (by first | assumption | omega) (by decide) (by first | assumption | rfl) rfl rfl ?_
                refine r_bipush c340_148 rfl ?_
                refine r_iload_n c340_150 rfl rfl ?_
                refine r_iadd c340_151 (by first | exact q_w32_id (by omega) (by omega) | exact q_w32w _ | exact rfl) rfl ?_
                refine r_dup2 c340_152 rfl rfl rfl ?_
                refine r_laldw (q_Gr.rb (S := fun k j => k = 140 ∧ (26 ≤ j ∧ j ≤ 61 ∧ ¬(47 ≤ j ∧ j ≤ 49))) hR (by repeat (first | exact q_Gr.rf | refine q_Gr.ud ?_ (by omega) (by first | assumption | rfl) rfl (by first | exact ⟨fun h9 => absurd h9 (by decide), fun h9 => absurd h9 (by decide)⟩ | (constructor <;> (intro h9; omega))) | refine q_Gr.udz ?_ (by omega) (by first | assumption | decide | omega) (by first | exact ⟨fun h9 => absurd h9 (by decide), fun h9 => absurd h9 (by decide)⟩ | (constructor <;> (intro h9; omega))) | refine q_Gr.tr ?_ (by assumption) (by intro k9 j9 hk9; omega)))) c340_153 (by first | exact q_w32_id (by omega) (by omega) | exact q_w32w _ | exact rfl) (by first | assumption | omega) (by first | assumption | omega) rfl ?_
                intro y508
                refine r_iload_n c340_154 rfl rfl ?_
                refine r_i2l c340_155 (by first | exact q_w32_id (by omega) (by omega) | exact q_w32w _ | exact rfl) rfl ?_
                refine r_ladd c340_156 rfl rfl ?_
                refine r_last c340_157 (by first | assumption | omega) (by decide) (by first | assumption | rfl) (by first | assumption | decide) (by first | exact q_w32_id (by omega) (by omega) | exact q_w32w _ | exact rfl) (by first | assumption | omega) (by first | assumption | omega) rfl ?_
                refine r_aload_n c340_158 rfl rfl ?_
                refine r_getr c340_159 (by first | assumption | omega) (by decide) (by first | assumption | rfl) rfl rfl ?_
                refine r_bipush c340_162 rfl ?_
                refine r_iload_n c340_164 rfl rfl ?_
                refine r_iadd c340_165 (by first | exact q_w32_id (by omega) (by omega) | exact q_w32w _ | exact rfl) rfl ?_
                refine r_laldw (q_Gr.rb (S := fun k j => k = 140 ∧ (26 ≤ j ∧ j ≤ 61 ∧ ¬(47 ≤ j ∧ j ≤ 49))) hR (by repeat (first | exact q_Gr.rf | refine q_Gr.ud ?_ (by omega) (by first | assumption | rfl) rfl (by first | exact ⟨fun h9 => absurd h9 (by decide), fun h9 => absurd h9 (by decide)⟩ | (constructor <;> (intro h9; omega))) | refine q_Gr.udz ?_ (by omega) (by first | assumption | decide | omega) (by first | exact ⟨fun h9 => absurd h9 (by decide), fun h9 => absurd h9 (by decide)⟩ | (constructor <;> (intro h9; omega))) | refine q_Gr.tr ?_ (by assumption) (by intro k9 j9 hk9; omega)))) c340_166 (by first | exact q_w32_id (by omega) (by omega) | exact q_w32w _ | exact rfl) (by first | assumption | omega) (by first | assumption | omega) rfl ?_
                intro y509
                refine r_aload_n c340_167 rfl rfl ?_
                refine r_getr c340_168 (by first | assumption | omega) (by decide) (by first | assumption | rfl) rfl rfl ?_
                refine r_bipush c340_171 rfl ?_
                refine r_iload_n c340_173 rfl rfl ?_
                refine r_iadd c340_174 (by first | exact q_w32_id (by omega) (by omega) | exact q_w32w _ | exact rfl) rfl ?_
                refine r_laldw (q_Gr.rb (S := fun k j => k = 140 ∧ (26 ≤ j ∧ j ≤ 61 ∧ ¬(47 ≤ j ∧ j ≤ 49))) hR (by repeat (first | exact q_Gr.rf | refine q_Gr.ud ?_ (by omega) (by first | assumption | rfl) rfl (by first | exact ⟨fun h9 => absurd h9 (by decide), fun h9 => absurd h9 (by decide)⟩ | (constructor <;> (intro h9; omega))) | refine q_Gr.udz ?_ (by omega) (by first | assumption | decide | omega) (by first | exact ⟨fun h9 => absurd h9 (by decide), fun h9 => absurd h9 (by decide)⟩ | (constructor <;> (intro h9; omega))) | refine q_Gr.tr ?_ (by assumption) (by intro k9 j9 hk9; omega)))) c340_175 (by first | exact q_w32_id (by omega) (by omega) | exact q_w32w _ | exact rfl) (by first | assumption | omega) (by first | assumption | omega) rfl ?_
                intro y510
                refine r_lcmpn c340_176 rfl (by first | exact q_w64_id (by omega) (by omega) | exact rfl) (by first | exact q_w64_id (by omega) (by omega) | exact rfl) ?_ ?_ ?_
                · intro b511
                  refine r_if_gt c340_177 rfl (show q_w32 (-1) = -1 from rfl) ?_ ?_
                  · intro b512
                    exact absurd b512.1 (by decide)
                  · intro b512
                    refine r_aload_n c340_180 rfl rfl ?_
                    refine r_getr c340_181 (by first | assumption | omega) (by decide) (by first | assumption | rfl) rfl rfl ?_
                    refine r_bipush c340_184 rfl ?_
                    refine r_iload_n c340_186 rfl rfl ?_
                    refine r_iadd c340_187 (by first | exact q_w32_id (by omega) (by omega) | exact q_w32w _ | exact rfl) rfl ?_
                    refine r_lconst c340_188 rfl ?_
                    refine r_last c340_189 (by first | assumption | omega) (by decide) (by first | assumption | rfl) (by first | assumption | decide) (by first | exact q_w32_id (by omega) (by omega) | exact q_w32w _ | exact rfl) (by first | assumption | omega) (by first | assumption | omega) rfl ?_
                    refine r_aload_n c340_190 rfl rfl ?_
                    refine r_getr c340_191 (by first | assumption | omega) (by decide) (by first | assumption | rfl) rfl rfl ?_
                    refine r_bipush c340_194 rfl ?_
                    refine r_iload_n c340_196 rfl rfl ?_
                    refine r_iadd c340_197 (by first | exact q_w32_id (by omega) (by omega) | exact q_w32w _ | exact rfl) rfl ?_
                    refine r_laldw (q_Gr.rb (S := fun k j => k = 140 ∧ (26 ≤ j ∧ j ≤ 61 ∧ ¬(47 ≤ j ∧ j ≤ 49))) hR (by repeat (first | exact q_Gr.rf | refine q_Gr.ud ?_ (by omega) (by first | assumption | rfl) rfl (by first | exact ⟨fun h9 => absurd h9 (by decide), fun h9 => absurd h9 (by decide)⟩ | (constructor <;> (intro h9; omega))) | refine q_Gr.udz ?_ (by omega) (by first | assumption | decide | omega) (by first | exact ⟨fun h9 => absurd h9 (by decide), fun h9 => absurd h9 (by decide)⟩ | (constructor <;> (intro h9; omega))) | refine q_Gr.tr ?_ (by assumption) (by intro k9 j9 hk9; omega)))) c340_198 (by first | exact q_w32_id (by omega) (by omega) | exact q_w32w _ | exact rfl) (by first | assumption | omega) (by first | assumption | omega) rfl ?_
                    intro y513
                    refine r_aload_n c340_199 rfl rfl ?_
                    refine r_getr c340_200 (by first | assumption | omega) (by decide) (by first | assumption | rfl) rfl rfl ?_
                    refine r_bipush c340_203 rfl ?_
                    refine r_iload_n c340_205 rfl rfl ?_
                    refine r_iadd c340_206 (by first | exact q_w32_id (by omega) (by omega) | exact q_w32w _ | exact rfl) rfl ?_
                    refine r_laldw (q_Gr.rb (S := fun k j => k = 140 ∧ (26 ≤ j ∧ j ≤ 61 ∧ ¬(47 ≤ j ∧ j ≤ 49))) hR (by repeat (first | exact q_Gr.rf | refine q_Gr.ud ?_ (by omega) (by first | assumption | rfl) rfl (by first | exact ⟨fun h9 => absurd h9 (by decide), fun h9 => absurd h9 (by decide)⟩ | (constructor <;> (intro h9; omega))) | refine q_Gr.udz ?_ (by omega) (by first | assumption | decide | omega) (by first | exact ⟨fun h9 => absurd h9 (by decide), fun h9 => absurd h9 (by decide)⟩ | (constructor <;> (intro h9; omega))) | refine q_Gr.tr ?_ (by assumption) (by intro k9 j9 hk9; omega)))) c340_207 (by first | exact q_w32_id (by omega) (by omega) | exact q_w32w _ | exact rfl) (by first | assumption | omega) (by first | assumption | omega) rfl ?_
                    intro y514
                    refine r_aload_n c340_208 rfl rfl ?_
                    refine r_getr c340_209 (by first | assumption | omega) (by decide) (by first | assumption | rfl) rfl rfl ?_
                    refine r_bipush c340_212 rfl ?_
                    refine r_iload_n c340_214 rfl rfl ?_
                    refine r_iadd c340_215 (by first | exact q_w32_id (by omega) (by omega) | exact q_w32w _ | exact rfl) rfl ?_
                    refine r_laldw (q_Gr.rb (S := fun k j => k = 140 ∧ (26 ≤ j ∧ j ≤ 61 ∧ ¬(47 ≤ j ∧ j ≤ 49))) hR (by repeat (first | exact q_Gr.rf | refine q_Gr.ud ?_ (by omega) (by first | assumption | rfl) rfl (by first | exact ⟨fun h9 => absurd h9 (by decide), fun h9 => absurd h9 (by decide)⟩ | (constructor <;> (intro h9; omega))) | refine q_Gr.udz ?_ (by omega) (by first | assumption | decide | omega) (by first | exact ⟨fun h9 => absurd h9 (by decide), fun h9 => absurd h9 (by decide)⟩ | (constructor <;> (intro h9; omega))) | refine q_Gr.tr ?_ (by assumption) (by intro k9 j9 hk9; omega)))) c340_216 (by first | exact q_w32_id (by omega) (by omega) | exact q_w32w _ | exact rfl) (by first | assumption | omega) (by first | assumption | omega) rfl ?_
                    intro y515
                    refine r_ladd c340_217 rfl rfl ?_
                    refine r_lcmpn c340_218 rfl (by first | exact q_w64_id (by omega) (by omega) | exact rfl) (by first | exact q_w64_id (by omega) (by omega) | exact rfl) ?_ ?_ ?_
                    · intro b516
                      refine r_if_le c340_219 rfl (show q_w32 (-1) = -1 from rfl) ?_ ?_
                      · intro b517
                        refine r_iconst c340_232 rfl ?_
                        exact r_zret c340_233 ⟨rfl, rfl, rfl⟩ (by decide) ⟨rfl, ⟨_, rfl, (by decide)⟩, (by repeat (first | exact q_Gr.rf | refine q_Gr.ud ?_ (by omega) (by first | assumption | rfl) rfl (by first | exact ⟨fun h9 => absurd h9 (by decide), fun h9 => absurd h9 (by decide)⟩ | (constructor <;> (intro h9; omega))) | refine q_Gr.udz ?_ (by omega) (by first | assumption | decide | omega) (by first | exact ⟨fun h9 => absurd h9 (by decide), fun h9 => absurd h9 (by decide)⟩ | (constructor <;> (intro h9; omega))) | refine q_Gr.tr ?_ (by assumption) (by intro k9 j9 hk9; omega)))⟩
                      · intro b517
                        exact absurd b517.1 (by decide)
                    · intro b516
                      refine r_if_le c340_219 rfl (show q_w32 (0) = 0 from rfl) ?_ ?_
                      · intro b518
                        refine r_iconst c340_232 rfl ?_
                        exact r_zret c340_233 ⟨rfl, rfl, rfl⟩ (by decide) ⟨rfl, ⟨_, rfl, (by decide)⟩, (by repeat (first | exact q_Gr.rf | refine q_Gr.ud ?_ (by omega) (by first | assumption | rfl) rfl (by first | exact ⟨fun h9 => absurd h9 (by decide), fun h9 => absurd h9 (by decide)⟩ | (constructor <;> (intro h9; omega))) | refine q_Gr.udz ?_ (by omega) (by first | assumption | decide | omega) (by first | exact ⟨fun h9 => absurd h9 (by decide), fun h9 => absurd h9 (by decide)⟩ | (constructor <;> (intro h9; omega))) | refine q_Gr.tr ?_ (by assumption) (by intro k9 j9 hk9; omega)))⟩
                      · intro b518
                        exact absurd b518.1 (by decide)
                    · intro b516
                      refine r_if_le c340_219 rfl (show q_w32 (1) = 1 from rfl) ?_ ?_
                      · intro b519
                        exact absurd b519.1 (by decide)
                      · intro b519
                        refine r_aload_n c340_222 rfl rfl ?_
                        refine r_getr c340_223 (by first | assumption | omega) (by decide) (by first | assumption | rfl) rfl rfl ?_
                        refine r_bipush c340_226 rfl ?_
                        refine r_iload_n c340_228 rfl rfl ?_
                        refine r_iadd c340_229 (by first | exact q_w32_id (by omega) (by omega) | exact q_w32w _ | exact rfl) rfl ?_
                        refine r_lconst c340_230 rfl ?_
                        refine r_last c340_231 (by first | assumption | omega) (by decide) (by first | assumption | rfl) (by first | assumption | decide) (by first | exact q_w32_id (by omega) (by omega) | exact q_w32w _ | exact rfl) (by first | assumption | omega) (by first | assumption | omega) rfl ?_
                        refine r_iconst c340_232 rfl ?_
                        exact r_zret c340_233 ⟨rfl, rfl, rfl⟩ (by decide) ⟨rfl, ⟨_, rfl, (by decide)⟩, (by repeat (first | exact q_Gr.rf | refine q_Gr.ud ?_ (by omega) (by first | assumption | rfl) rfl (by first | exact ⟨fun h9 => absurd h9 (by decide), fun h9 => absurd h9 (by decide)⟩ | (constructor <;> (intro h9; omega))) | refine q_Gr.udz ?_ (by omega) (by first | assumption | decide | omega) (by first | exact ⟨fun h9 => absurd h9 (by decide), fun h9 => absurd h9 (by decide)⟩ | (constructor <;> (intro h9; omega))) | refine q_Gr.tr ?_ (by assumption) (by intro k9 j9 hk9; omega)))⟩
                · intro b511
                  refine r_if_gt c340_177 rfl (show q_w32 (0) = 0 from rfl) ?_ ?_
                  · intro b520
                    exact absurd b520.1 (by decide)
                  · intro b520
                    refine r_aload_n c340_180 rfl rfl ?_
                    refine r_getr c340_181 (by first | assumption | omega) (by decide) (by first | assumption | rfl) rfl rfl ?_
                    refine r_bipush c340_184 rfl ?_
                    refine r_iload_n c340_186 rfl rfl ?_
                    refine r_iadd c340_187 (by first | exact q_w32_id (by omega) (by omega) | exact q_w32w _ | exact rfl) rfl ?_
                    refine r_lconst c340_188 rfl ?_
                    refine r_last c340_189 (by first | assumption | omega) (by decide) (by first | assumption | rfl) (by first | assumption | decide) (by first | exact q_w32_id (by omega) (by omega) | exact q_w32w _ | exact rfl) (by first | assumption | omega) (by first | assumption | omega) rfl ?_
                    refine r_aload_n c340_190 rfl rfl ?_
                    refine r_getr c340_191 (by first | assumption | omega) (by decide) (by first | assumption | rfl) rfl rfl ?_
                    refine r_bipush c340_194 rfl ?_
                    refine r_iload_n c340_196 rfl rfl ?_
                    refine r_iadd c340_197 (by first | exact q_w32_id (by omega) (by omega) | exact q_w32w _ | exact rfl) rfl ?_
                    refine r_laldw (q_Gr.rb (S := fun k j => k = 140 ∧ (26 ≤ j ∧ j ≤ 61 ∧ ¬(47 ≤ j ∧ j ≤ 49))) hR (by repeat (first | exact q_Gr.rf | refine q_Gr.ud ?_ (by omega) (by first | assumption | rfl) rfl (by first | exact ⟨fun h9 => absurd h9 (by decide), fun h9 => absurd h9 (by decide)⟩ | (constructor <;> (intro h9; omega))) | refine q_Gr.udz ?_ (by omega) (by first | assumption | decide | omega) (by first | exact ⟨fun h9 => absurd h9 (by decide), fun h9 => absurd h9 (by decide)⟩ | (constructor <;> (intro h9; omega))) | refine q_Gr.tr ?_ (by assumption) (by intro k9 j9 hk9; omega)))) c340_198 (by first | exact q_w32_id (by omega) (by omega) | exact q_w32w _ | exact rfl) (by first | assumption | omega) (by first | assumption | omega) rfl ?_
                    intro y521
                    refine r_aload_n c340_199 rfl rfl ?_
                    refine r_getr c340_200 (by first | assumption | omega) (by decide) (by first | assumption | rfl) rfl rfl ?_
                    refine r_bipush c340_203 rfl ?_
                    refine r_iload_n c340_205 rfl rfl ?_
                    refine r_iadd c340_206 (by first | exact q_w32_id (by omega) (by omega) | exact q_w32w _ | exact rfl) rfl ?_
                    refine r_laldw (q_Gr.rb (S := fun k j => k = 140 ∧ (26 ≤ j ∧ j ≤ 61 ∧ ¬(47 ≤ j ∧ j ≤ 49))) hR (by repeat (first | exact q_Gr.rf | refine q_Gr.ud ?_ (by omega) (by first | assumption | rfl) rfl (by first | exact ⟨fun h9 => absurd h9 (by decide), fun h9 => absurd h9 (by decide)⟩ | (constructor <;> (intro h9; omega))) | refine q_Gr.udz ?_ (by omega) (by first | assumption | decide | omega) (by first | exact ⟨fun h9 => absurd h9 (by decide), fun h9 => absurd h9 (by decide)⟩ | (constructor <;> (intro h9; omega))) | refine q_Gr.tr ?_ (by assumption) (by intro k9 j9 hk9; omega)))) c340_207 (by first | exact q_w32_id (by omega) (by omega) | exact q_w32w _ | exact rfl) (by first | assumption | omega) (by first | assumption | omega) rfl ?_
                    intro y522
                    refine r_aload_n c340_208 rfl rfl ?_
                    refine r_getr c340_209 (by first | assumption | omega) (by decide) (by first | assumption | rfl) rfl rfl ?_
                    refine r_bipush c340_212 rfl ?_
                    refine r_iload_n c340_214 rfl rfl ?_
                    refine r_iadd c340_215 (by first | exact q_w32_id (by omega) (by omega) | exact q_w32w _ | exact rfl) rfl ?_
                    refine r_laldw (q_Gr.rb (S := fun k j => k = 140 ∧ (26 ≤ j ∧ j ≤ 61 ∧ ¬(47 ≤ j ∧ j ≤ 49))) hR (by repeat (first | exact q_Gr.rf | refine q_Gr.ud ?_ (by omega) (by first | assumption | rfl) rfl (by first | exact ⟨fun h9 => absurd h9 (by decide), fun h9 => absurd h9 (by decide)⟩ | (constructor <;> (intro h9; omega))) | refine q_Gr.udz ?_ (by omega) (by first | assumption | decide | omega) (by first | exact ⟨fun h9 => absurd h9 (by decide), fun h9 => absurd h9 (by decide)⟩ | (constructor <;> (intro h9; omega))) | refine q_Gr.tr ?_ (by assumption) (by intro k9 j9 hk9; omega)))) c340_216 (by first | exact q_w32_id (by omega) (by omega) | exact q_w32w _ | exact rfl) (by first | assumption | omega) (by first | assumption | omega) rfl ?_
                    intro y523
                    refine r_ladd c340_217 rfl rfl ?_
                    refine r_lcmpn c340_218 rfl (by first | exact q_w64_id (by omega) (by omega) | exact rfl) (by first | exact q_w64_id (by omega) (by omega) | exact rfl) ?_ ?_ ?_
                    · intro b524
                      refine r_if_le c340_219 rfl (show q_w32 (-1) = -1 from rfl) ?_ ?_
                      · intro b525
                        refine r_iconst c340_232 rfl ?_
                        exact r_zret c340_233 ⟨rfl, rfl, rfl⟩ (by decide) ⟨rfl, ⟨_, rfl, (by decide)⟩, (by repeat (first | exact q_Gr.rf | refine q_Gr.ud ?_ (by omega) (by first | assumption | rfl) rfl (by first | exact ⟨fun h9 => absurd h9 (by decide), fun h9 => absurd h9 (by decide)⟩ | (constructor <;> (intro h9; omega))) | refine q_Gr.udz ?_ (by omega) (by first | assumption | decide | omega) (by first | exact ⟨fun h9 => absurd h9 (by decide), fun h9 => absurd h9 (by decide)⟩ | (constructor <;> (intro h9; omega))) | refine q_Gr.tr ?_ (by assumption) (by intro k9 j9 hk9; omega)))⟩
                      · intro b525
                        exact absurd b525.1 (by decide)
                    · intro b524
                      refine r_if_le c340_219 rfl (show q_w32 (0) = 0 from rfl) ?_ ?_
                      · intro b526
                        refine r_iconst c340_232 rfl ?_
                        exact r_zret c340_233 ⟨rfl, rfl, rfl⟩ (by decide) ⟨rfl, ⟨_, rfl, (by decide)⟩, (by repeat (first | exact q_Gr.rf | refine q_Gr.ud ?_ (by omega) (by first | assumption | rfl) rfl (by first | exact ⟨fun h9 => absurd h9 (by decide), fun h9 => absurd h9 (by decide)⟩ | (constructor <;> (intro h9; omega))) | refine q_Gr.udz ?_ (by omega) (by first | assumption | decide | omega) (by first | exact ⟨fun h9 => absurd h9 (by decide), fun h9 => absurd h9 (by decide)⟩ | (constructor <;> (intro h9; omega))) | refine q_Gr.tr ?_ (by assumption) (by intro k9 j9 hk9; omega)))⟩
                      · intro b526
                        exact absurd b526.1 (by decide)
                    · intro b524
                      refine r_if_le c340_219 rfl (show q_w32 (1) = 1 from rfl) ?_ ?_
                      · intro b527
                        exact absurd b527.1 (by decide)
                      · intro b527
                        refine r_aload_n c340_222 rfl rfl ?_
                        refine r_getr c340_223 (by first | assumption | omega) (by decide) (by first | assumption | rfl) rfl rfl ?_
                        refine r_bipush c340_226 rfl ?_
                        refine r_iload_n c340_228 rfl rfl ?_
                        refine r_iadd c340_229 (by first | exact q_w32_id (by omega) (by omega) | exact q_w32w _ | exact rfl) rfl ?_
                        refine r_lconst c340_230 rfl ?_
                        refine r_last c340_231 (by first | assumption | omega) (by decide) (by first | assumption | rfl) (by first | assumption | decide) (by first | exact q_w32_id (by omega) (by omega) | exact q_w32w _ | exact rfl) (by first | assumption | omega) (by first | assumption | omega) rfl ?_
                        refine r_iconst c340_232 rfl ?_
                        exact r_zret c340_233 ⟨rfl, rfl, rfl⟩ (by decide) ⟨rfl, ⟨_, rfl, (by decide)⟩, (by repeat (first | exact q_Gr.rf | refine q_Gr.ud ?_ (by omega) (by first | assumption | rfl) rfl (by first | exact ⟨fun h9 => absurd h9 (by decide), fun h9 => absurd h9 (by decide)⟩ | (constructor <;> (intro h9; omega))) | refine q_Gr.udz ?_ (by omega) (by first | assumption | decide | omega) (by first | exact ⟨fun h9 => absurd h9 (by decide), fun h9 => absurd h9 (by decide)⟩ | (constructor <;> (intro h9; omega))) | refine q_Gr.tr ?_ (by assumption) (by intro k9 j9 hk9; omega)))⟩
                · intro b511
                  refine r_if_gt c340_177 rfl (show q_w32 (1) = 1 from rfl) ?_ ?_
                  · intro b528
                    refine r_aload_n c340_190 rfl rfl ?_
                    refine r_getr c340_191 (by first | assumption | omega) (by decide) (by first | assumption | rfl) rfl rfl ?_
                    refine r_bipush c340_194 rfl ?_
                    refine r_iload_n c340_196 rfl rfl ?_
                    refine r_iadd c340_197 (by first | exact q_w32_id (by omega) (by omega) | exact q_w32w _ | exact rfl) rfl ?_
                    refine r_laldw (q_Gr.rb (S := fun k j => k = 140 ∧ (26 ≤ j ∧ j ≤ 61 ∧ ¬(47 ≤ j ∧ j ≤ 49))) hR (by repeat (first | exact q_Gr.rf | refine q_Gr.ud ?_ (by omega) (by first | assumption | rfl) rfl (by first | exact ⟨fun h9 => absurd h9 (by decide), fun h9 => absurd h9 (by decide)⟩ | (constructor <;> (intro h9; omega))) | refine q_Gr.udz ?_ (by omega) (by first | assumption | decide | omega) (by first | exact ⟨fun h9 => absurd h9 (by decide), fun h9 => absurd h9 (by decide)⟩ | (constructor <;> (intro h9; omega))) | refine q_Gr.tr ?_ (by assumption) (by intro k9 j9 hk9; omega)))) c340_198 (by first | exact q_w32_id (by omega) (by omega) | exact q_w32w _ | exact rfl) (by first | assumption | omega) (by first | assumption | omega) rfl ?_
                    intro y529
                    refine r_aload_n c340_199 rfl rfl ?_
                    refine r_getr c340_200 (by first | assumption | omega) (by decide) (by first | assumption | rfl) rfl rfl ?_
                    refine r_bipush c340_203 rfl ?_
                    refine r_iload_n c340_205 rfl rfl ?_
                    refine r_iadd c340_206 (by first | exact q_w32_id (by omega) (by omega) | exact q_w32w _ | exact rfl) rfl ?_
                    refine r_laldw (q_Gr.rb (S := fun k j => k = 140 ∧ (26 ≤ j ∧ j ≤ 61 ∧ ¬(47 ≤ j ∧ j ≤ 49))) hR (by repeat (first | exact q_Gr.rf | refine q_Gr.ud ?_ (by omega) (by first | assumption | rfl) rfl (by first | exact ⟨fun h9 => absurd h9 (by decide), fun h9 => absurd h9 (by decide)⟩ | (constructor <;> (intro h9; omega))) | refine q_Gr.udz ?_ (by omega) (by first | assumption | decide | omega) (by first | exact ⟨fun h9 => absurd h9 (by decide), fun h9 => absurd h9 (by decide)⟩ | (constructor <;> (intro h9; omega))) | refine q_Gr.tr ?_ (by assumption) (by intro k9 j9 hk9; omega)))) c340_207 (by first | exact q_w32_id (by omega) (by omega) | exact q_w32w _ | exact rfl) (by first | assumption | omega) (by first | assumption | omega) rfl ?_
                    intro y530
                    refine r_aload_n c340_208 rfl rfl ?_
                    refine r_getr c340_209 (by first | assumption | omega) (by decide) (by first | assumption | rfl) rfl rfl ?_
                    refine r_bipush c340_212 rfl ?_
                    refine r_iload_n c340_214 rfl rfl ?_
                    refine r_iadd c340_215 (by first | exact q_w32_id (by omega) (by omega) | exact q_w32w _ | exact rfl) rfl ?_
                    refine r_laldw (q_Gr.rb (S := fun k j => k = 140 ∧ (26 ≤ j ∧ j ≤ 61 ∧ ¬(47 ≤ j ∧ j ≤ 49))) hR (by repeat (first | exact q_Gr.rf | refine q_Gr.ud ?_ (by omega) (by first | assumption | rfl) rfl (by first | exact ⟨fun h9 => absurd h9 (by decide), fun h9 => absurd h9 (by decide)⟩ | (constructor <;> (intro h9; omega))) | refine q_Gr.udz ?_ (by omega) (by first | assumption | decide | omega) (by first | exact ⟨fun h9 => absurd h9 (by decide), fun h9 => absurd h9 (by decide)⟩ | (constructor <;> (intro h9; omega))) | refine q_Gr.tr ?_ (by assumption) (by intro k9 j9 hk9; omega)))) c340_216 (by first | exact q_w32_id (by omega) (by omega) | exact q_w32w _ | exact rfl) (by first | assumption | omega) (by first | assumption | omega) rfl ?_
                    intro y531
                    refine r_ladd c340_217 rfl rfl ?_
                    refine r_lcmpn c340_218 rfl (by first | exact q_w64_id (by omega) (by omega) | exact rfl) (by first | exact q_w64_id (by omega) (by omega) | exact rfl) ?_ ?_ ?_
                    · intro b532
                      refine r_if_le c340_219 rfl (show q_w32 (-1) = -1 from rfl) ?_ ?_
                      · intro b533
                        refine r_iconst c340_232 rfl ?_
                        exact r_zret c340_233 ⟨rfl, rfl, rfl⟩ (by decide) ⟨rfl, ⟨_, rfl, (by decide)⟩, (by repeat (first | exact q_Gr.rf | refine q_Gr.ud ?_ (by omega) (by first | assumption | rfl) rfl (by first | exact ⟨fun h9 => absurd h9 (by decide), fun h9 => absurd h9 (by decide)⟩ | (constructor <;> (intro h9; omega))) | refine q_Gr.udz ?_ (by omega) (by first | assumption | decide | omega) (by first | exact ⟨fun h9 => absurd h9 (by decide), fun h9 => absurd h9 (by decide)⟩ | (constructor <;> (intro h9; omega))) | refine q_Gr.tr ?_ (by assumption) (by intro k9 j9 hk9; omega)))⟩
                      · intro b533
                        exact absurd b533.1 (by decide)
                    · intro b532
                      refine r_if_le c340_219 rfl (show q_w32 (0) = 0 from rfl) ?_ ?_
                      · intro b534
                        refine r_iconst c340_232 rfl ?_
                        exact r_zret c340_233 ⟨rfl, rfl, rfl⟩ (by decide) ⟨rfl, ⟨_, rfl, (by decide)⟩, (by repeat (first | exact q_Gr.rf | refine q_Gr.ud ?_ (by omega) (by first | assumption | rfl) rfl (by first | exact ⟨fun h9 => absurd h9 (by decide), fun h9 => absurd h9 (by decide)⟩ | (constructor <;> (intro h9; omega))) | refine q_Gr.udz ?_ (by omega) (by first | assumption | decide | omega) (by first | exact ⟨fun h9 => absurd h9 (by decide), fun h9 => absurd h9 (by decide)⟩ | (constructor <;> (intro h9; omega))) | refine q_Gr.tr ?_ (by assumption) (by intro k9 j9 hk9; omega)))⟩
                      · intro b534
                        exact absurd b534.1 (by decide)
                    · intro b532
                      refine r_if_le c340_219 rfl (show q_w32 (1) = 1 from rfl) ?_ ?_
                      · intro b535
                        exact absurd b535.1 (by decide)
                      · intro b535
                        refine r_aload_n c340_222 rfl rfl ?_
                        refine r_getr c340_223 (by first | assumption | omega) (by decide) (by first | assumption | rfl) rfl rfl ?_
                        refine r_bipush c340_226 rfl ?_
                        refine r_iload_n c340_228 rfl rfl ?_
                        refine r_iadd c340_229 (by first | exact q_w32_id (by omega) (by omega) | exact q_w32w _ | exact rfl) rfl ?_
                        refine r_lconst c340_230 rfl ?_
                        refine r_last c340_231 (by first | assumption | omega) (by decide) (by first | assumption | rfl) (by first | assumption | decide) (by first | exact q_w32_id (by omega) (by omega) | exact q_w32w _ | exact rfl) (by first | assumption | omega) (by first | assumption | omega) rfl ?_
                        refine r_iconst c340_232 rfl ?_
                        exact r_zret c340_233 ⟨rfl, rfl, rfl⟩ (by decide) ⟨rfl, ⟨_, rfl, (by decide)⟩, (by repeat (first | exact q_Gr.rf | refine q_Gr.ud ?_ (by omega) (by first | assumption | rfl) rfl (by first | exact ⟨fun h9 => absurd h9 (by decide), fun h9 => absurd h9 (by decide)⟩ | (constructor <;> (intro h9; omega))) | refine q_Gr.udz ?_ (by omega) (by first | assumption | decide | omega) (by first | exact ⟨fun h9 => absurd h9 (by decide), fun h9 => absurd h9 (by decide)⟩ | (constructor <;> (intro h9; omega))) | refine q_Gr.tr ?_ (by assumption) (by intro k9 j9 hk9; omega)))⟩
                  · intro b528
                    exact absurd b528.1 (by decide)
              · intro b507
                exact absurd b507.1 (by decide)
            · intro b506
              refine r_if_ne c340_126 rfl (show q_w32 (0) = 0 from rfl) ?_ ?_
              · intro b536
                exact absurd b536.1 (by decide)
              · intro b536
                refine r_aload_n c340_129 rfl rfl ?_
                refine r_getr c340_130 (by first | assumption | omega) (by decide) (by first | assumption | rfl) rfl rfl ?_
                refine r_bipush c340_133 rfl ?_
                refine r_iload_n c340_135 rfl rfl ?_
                refine r_iadd c340_136 (by first | exact q_w32_id (by omega) (by omega) | exact q_w32w _ | exact rfl) rfl ?_
                refine r_dup2 c340_137 rfl rfl rfl ?_
                refine r_laldw (q_Gr.rb (S := fun k j => k = 140 ∧ (26 ≤ j ∧ j ≤ 61 ∧ ¬(47 ≤ j ∧ j ≤ 49))) hR (by repeat (first | exact q_Gr.rf | refine q_Gr.ud ?_ (by omega) (by first | assumption | rfl) rfl (by first | exact ⟨fun h9 => absurd h9 (by decide), fun h9 => absurd h9 (by decide)⟩ | (constructor <;> (intro h9; omega))) | refine q_Gr.udz ?_ (by omega) (by first | assumption | decide | omega) (by first | exact ⟨fun h9 => absurd h9 (by decide), fun h9 => absurd h9 (by decide)⟩ | (constructor <;> (intro h9; omega))) | refine q_Gr.tr ?_ (by assumption) (by intro k9 j9 hk9; omega)))) c340_138 (by first | exact q_w32_id (by omega) (by omega) | exact q_w32w _ | exact rfl) (by first | assumption | omega) (by first | assumption | omega) rfl ?_
                intro y537
                refine r_lconst c340_139 rfl ?_
                refine r_ladd c340_140 rfl rfl ?_
                refine r_last c340_141 (by first | assumption | omega) (by decide) (by first | assumption | rfl) (by first | assumption | decide) (by first | exact q_w32_id (by omega) (by omega) | exact q_w32w _ | exact rfl) (by first | assumption | omega) (by first | assumption | omega) rfl ?_
                refine r_iconst c340_142 rfl ?_
                exact r_zret c340_143 ⟨rfl, rfl, rfl⟩ (by decide) ⟨rfl, ⟨_, rfl, (by decide)⟩, (by repeat (first | exact q_Gr.rf | refine q_Gr.ud ?_ (by omega) (by first | assumption | rfl) rfl (by first | exact ⟨fun h9 => absurd h9 (by decide), fun h9 => absurd h9 (by decide)⟩ | (constructor <;> (intro h9; omega))) | refine q_Gr.udz ?_ (by omega) (by first | assumption | decide | omega) (by first | exact ⟨fun h9 => absurd h9 (by decide), fun h9 => absurd h9 (by decide)⟩ | (constructor <;> (intro h9; omega))) | refine q_Gr.tr ?_ (by assumption) (by intro k9 j9 hk9; omega)))⟩
            · intro b506
              refine r_if_ne c340_126 rfl (show q_w32 (1) = 1 from rfl) ?_ ?_
              · intro b538
                refine r_aload_n c340_144 rfl rfl ?_
                refine r_getr c340_145 (by first | assumption | omega) (by decide) (by first | assumption | rfl) rfl rfl ?_
                refine r_bipush c340_148 rfl ?_
                refine r_iload_n c340_150 rfl rfl ?_
                refine r_iadd c340_151 (by first | exact q_w32_id (by omega) (by omega) | exact q_w32w _ | exact rfl) rfl ?_
                refine r_dup2 c340_152 rfl rfl rfl ?_
                refine r_laldw (q_Gr.rb (S := fun k j => k = 140 ∧ (26 ≤ j ∧ j ≤ 61 ∧ ¬(47 ≤ j ∧ j ≤ 49))) hR (by repeat (first | exact q_Gr.rf | refine q_Gr.ud ?_ (by omega) (by first | assumption | rfl) rfl (by first | exact ⟨fun h9 => absurd h9 (by decide), fun h9 => absurd h9 (by decide)⟩ | (constructor <;> (intro h9; omega))) | refine q_Gr.udz ?_ (by omega) (by first | assumption | decide | omega) (by first | exact ⟨fun h9 => absurd h9 (by decide), fun h9 => absurd h9 (by decide)⟩ | (constructor <;> (intro h9; omega))) | refine q_Gr.tr ?_ (by assumption) (by intro k9 j9 hk9; omega)))) c340_153 (by first | exact q_w32_id (by omega) (by omega) | exact q_w32w _ | exact rfl) (by first | assumption | omega) (by first | assumption | omega) rfl ?_
                intro y539
                refine r_iload_n c340_154 rfl rfl ?_
                refine r_i2l c340_155 (by first | exact q_w32_id (by omega) (by omega) | exact q_w32w _ | exact rfl) rfl ?_
                refine r_ladd c340_156 rfl rfl ?_
                refine r_last c340_157 (by first | assumption | omega) (by decide) (by first | assumption | rfl) (by first | assumption | decide) (by first | exact q_w32_id (by omega) (by omega) | exact q_w32w _ | exact rfl) (by first | assumption | omega) (by first | assumption | omega) rfl ?_
                refine r_aload_n c340_158 rfl rfl ?_
                refine r_getr c340_159 (by first | assumption | omega) (by decide) (by first | assumption | rfl) rfl rfl ?_
                refine r_bipush c340_162 rfl ?_
                refine r_iload_n c340_164 rfl rfl ?_
                refine r_iadd c340_165 (by first | exact q_w32_id (by omega) (by omega) | exact q_w32w _ | exact rfl) rfl ?_
                refine r_laldw (q_Gr.rb (S := fun k j => k = 140 ∧ (26 ≤ j ∧ j ≤ 61 ∧ ¬(47 ≤ j ∧ j ≤ 49))) hR (by repeat (first | exact q_Gr.rf | refine q_Gr.ud ?_ (by omega) (by first | assumption | rfl) rfl (by first | exact ⟨fun h9 => absurd h9 (by decide), fun h9 => absurd h9 (by decide)⟩ | (constructor <;> (intro h9; omega))) | refine q_Gr.udz ?_ (by omega) (by first | assumption | decide | omega) (by first | exact ⟨fun h9 => absurd h9 (by decide), fun h9 => absurd h9 (by decide)⟩ | (constructor <;> (intro h9; omega))) | refine q_Gr.tr ?_ (by assumption) (by intro k9 j9 hk9; omega)))) c340_166 (by first | exact q_w32_id (by omega) (by omega) | exact q_w32w _ | exact rfl) (by first | assumption | omega) (by first | assumption | omega) rfl ?_
                intro y540
                refine r_aload_n c340_167 rfl rfl ?_
                refine r_getr c340_168 (by first | assumption | omega) (by decide) (by first | assumption | rfl) rfl rfl ?_
                refine r_bipush c340_171 rfl ?_
                refine r_iload_n c340_173 rfl rfl ?_
                refine r_iadd c340_174 (by first | exact q_w32_id (by omega) (by omega) | exact q_w32w _ | exact rfl) rfl ?_
                refine r_laldw (q_Gr.rb (S := fun k j => k = 140 ∧ (26 ≤ j ∧ j ≤ 61 ∧ ¬(47 ≤ j ∧ j ≤ 49))) hR (by repeat (first | exact q_Gr.rf | refine q_Gr.ud ?_ (by omega) (by first | assumption | rfl) rfl (by first | exact ⟨fun h9 => absurd h9 (by decide), fun h9 => absurd h9 (by decide)⟩ | (constructor <;> (intro h9; omega))) | refine q_Gr.udz ?_ (by omega) (by first | assumption | decide | omega) (by first | exact ⟨fun h9 => absurd h9 (by decide), fun h9 => absurd h9 (by decide)⟩ | (constructor <;> (intro h9; omega))) | refine q_Gr.tr ?_ (by assumption) (by intro k9 j9 hk9; omega)))) c340_175 (by first | exact q_w32_id (by omega) (by omega) | exact q_w32w _ | exact rfl) (by first | assumption | omega) (by first | assumption | omega) rfl ?_
                intro y541
                refine r_lcmpn c340_176 rfl (by first | exact q_w64_id (by omega) (by omega) | exact rfl) (by first | exact q_w64_id (by omega) (by omega) | exact rfl) ?_ ?_ ?_
                · intro b542
                  refine r_if_gt c340_177 rfl (show q_w32 (-1) = -1 from rfl) ?_ ?_
                  · intro b543
                    exact absurd b543.1 (by decide)
                  · intro b543
                    refine r_aload_n c340_180 rfl rfl ?_
                    refine r_getr c340_181 (by first | assumption | omega) (by decide) (by first | assumption | rfl) rfl rfl ?_
                    refine r_bipush c340_184 rfl ?_
                    refine r_iload_n c340_186 rfl rfl ?_
                    refine r_iadd c340_187 (by first | exact q_w32_id (by omega) (by omega) | exact q_w32w _ | exact rfl) rfl ?_
                    refine r_lconst c340_188 rfl ?_
                    refine r_last c340_189 (by first | assumption | omega) (by decide) (by first | assumption | rfl) (by first | assumption | decide) (by first | exact q_w32_id (by omega) (by omega) | exact q_w32w _ | exact rfl) (by first | assumption | omega) (by first | assumption | omega) rfl ?_
                    refine r_aload_n c340_190 rfl rfl ?_
                    refine r_getr c340_191 (by first | assumption | omega) (by decide) (by first | assumption | rfl) rfl rfl ?_
                    refine r_bipush c340_194 rfl ?_
                    refine r_iload_n c340_196 rfl rfl ?_
                    refine r_iadd c340_197 (by first | exact q_w32_id (by omega) (by omega) | exact q_w32w _ | exact rfl) rfl ?_
                    refine r_laldw (q_Gr.rb (S := fun k j => k = 140 ∧ (26 ≤ j ∧ j ≤ 61 ∧ ¬(47 ≤ j ∧ j ≤ 49))) hR (by repeat (first | exact q_Gr.rf | refine q_Gr.ud ?_ (by omega) (by first | assumption | rfl) rfl (by first | exact ⟨fun h9 => absurd h9 (by decide), fun h9 => absurd h9 (by decide)⟩ | (constructor <;> (intro h9; omega))) | refine q_Gr.udz ?_ (by omega) (by first | assumption | decide | omega) (by first | exact ⟨fun h9 => absurd h9 (by decide), fun h9 => absurd h9 (by decide)⟩ | (constructor <;> (intro h9; omega))) | refine q_Gr.tr ?_ (by assumption) (by intro k9 j9 hk9; omega)))) c340_198 (by first | exact q_w32_id (by omega) (by omega) | exact q_w32w _ | exact rfl) (by first | assumption | omega) (by first | assumption | omega) rfl ?_
                    intro y544
                    refine r_aload_n c340_199 rfl rfl ?_
                    refine r_getr c340_200 (by first | assumption | omega) (by decide) (by first | assumption | rfl) rfl rfl ?_
                    refine r_bipush c340_203 rfl ?_
                    refine r_iload_n c340_205 rfl rfl ?_
                    refine r_iadd c340_206 (by first | exact q_w32_id (by omega) (by omega) | exact q_w32w _ | exact rfl) rfl ?_
                    refine r_laldw (q_Gr.rb (S := fun k j => k = 140 ∧ (26 ≤ j ∧ j ≤ 61 ∧ ¬(47 ≤ j ∧ j ≤ 49))) hR (by repeat (first | exact q_Gr.rf | refine q_Gr.ud ?_ (by omega) (by first | assumption | rfl) rfl (by first | exact ⟨fun h9 => absurd h9 (by decide), fun h9 => absurd h9 (by decide)⟩ | (constructor <;> (intro h9; omega))) | refine q_Gr.udz ?_ (by omega) (by first | assumption | decide | omega) (by first | exact ⟨fun h9 => absurd h9 (by decide), fun h9 => absurd h9 (by decide)⟩ | (constructor <;> (intro h9; omega))) | refine q_Gr.tr ?_ (by assumption) (by intro k9 j9 hk9; omega)))) c340_207 (by first | exact q_w32_id (by omega) (by omega) | exact q_w32w _ | exact rfl) (by first | assumption | omega) (by first | assumption | omega) rfl ?_
                    intro y545
                    refine r_aload_n c340_208 rfl rfl ?_
                    refine r_getr c340_209 (by first | assumption | omega) (by decide) (by first | assumption | rfl) rfl rfl ?_
                    refine r_bipush c340_212 rfl ?_
                    refine r_iload_n c340_214 rfl rfl ?_
                    refine r_iadd c340_215 (by first | exact q_w32_id (by omega) (by omega) | exact q_w32w _ | exact rfl) rfl ?_
                    refine r_laldw (q_Gr.rb (S := fun k j => k = 140 ∧ (26 ≤ j ∧ j ≤ 61 ∧ ¬(47 ≤ j ∧ j ≤ 49))) hR (by repeat (first | exact q_Gr.rf | refine q_Gr.ud ?_ (by omega) (by first | assumption | rfl) rfl (by first | exact ⟨fun h9 => absurd h9 (by decide), fun h9 => absurd h9 (by decide)⟩ | (constructor <;> (intro h9; omega))) | refine q_Gr.udz ?_ (by omega) (by first | assumption | decide | omega) (by first | exact ⟨fun h9 => absurd h9 (by decide), fun h9 => absurd h9 (by decide)⟩ | (constructor <;> (intro h9; omega))) | refine q_Gr.tr ?_ (by assumption) (by intro k9 j9 hk9; omega)))) c340_216 (by first | exact q_w32_id (by omega) (by omega) | exact q_w32w _ | exact rfl) (by first | assumption | omega) (by first | assumption | omega) rfl ?_
                    intro y546
                    refine r_ladd c340_217 rfl rfl ?_
                    refine r_lcmpn c340_218 rfl (by first | exact q_w64_id (by omega) (by omega) | exact rfl) (by first | exact q_w64_id (by omega) (by omega) | exact rfl) ?_ ?_ ?_
                    · intro b547
                      refine r_if_le c340_219 rfl (show q_w32 (-1) = -1 from rfl) ?_ ?_
                      · intro b548
                        refine r_iconst c340_232 rfl ?_
                        exact r_zret c340_233 ⟨rfl, rfl, rfl⟩ (by decide) ⟨rfl, ⟨_, rfl, (by decide)⟩, (by repeat (first | exact q_Gr.rf | refine q_Gr.ud ?_ (by omega) (by first | assumption | rfl) rfl (by first | exact ⟨fun h9 => absurd h9 (by decide), fun h9 => absurd h9 (by decide)⟩ | (constructor <;> (intro h9; omega))) | refine q_Gr.udz ?_ (by omega) (by first | assumption | decide | omega) (by first | exact ⟨fun h9 => absurd h9 (by decide), fun h9 => absurd h9 (by decide)⟩ | (constructor <;> (intro h9; omega))) | refine q_Gr.tr ?_ (by assumption) (by intro k9 j9 hk9; omega)))⟩
                      · intro b548
                        exact absurd b548.1 (by decide)
                    · intro b547
                      refine r_if_le c340_219 rfl (show q_w32 (0) = 0 from rfl) ?_ ?_
                      · intro b549
                        refine r_iconst c340_232 rfl ?_
                        exact r_zret c340_233 ⟨rfl, rfl, rfl⟩ (by decide) ⟨rfl, ⟨_, rfl, (by decide)⟩, (by repeat (first | exact q_Gr.rf | refine q_Gr.ud ?_ (by omega) (by first | assumption | rfl) rfl (by first | exact ⟨fun h9 => absurd h9 (by decide), fun h9 => absurd h9 (by decide)⟩ | (constructor <;> (intro h9; omega))) | refine q_Gr.udz ?_ (by omega) (by first | assumption | decide | omega) (by first | exact ⟨fun h9 => absurd h9 (by decide), fun h9 => absurd h9 (by decide)⟩ | (constructor <;> (intro h9; omega))) | refine q_Gr.tr ?_ (by assumption) (by intro k9 j9 hk9; omega)))⟩
                      · intro b549
                        exact absurd b549.1 (by decide)
                    · intro b547
                      refine r_if_le c340_219 rfl (show q_w32 (1) = 1 from rfl) ?_ ?_
                      · intro b550
                        exact absurd b550.1 (by decide)
                      · intro b550
                        refine r_aload_n c340_222 rfl rfl ?_
                        refine r_getr c340_223 (by first | assumption | omega) (by decide) (by first | assumption | rfl) rfl rfl ?_
                        refine r_bipush c340_226 rfl ?_
                        refine r_iload_n c340_228 rfl rfl ?_
                        refine r_iadd c340_229 (by first | exact q_w32_id (by omega) (by omega) | exact q_w32w _ | exact rfl) rfl ?_
                        refine r_lconst c340_230 rfl ?_
                        refine r_last c340_231 (by first | assumption | omega) (by decide) (by first | assumption | rfl) (by first | assumption | decide) (by first | exact q_w32_id (by omega) (by omega) | exact q_w32w _ | exact rfl) (by first | assumption | omega) (by first | assumption | omega) rfl ?_
                        refine r_iconst c340_232 rfl ?_
                        exact r_zret c340_233 ⟨rfl, rfl, rfl⟩ (by decide) ⟨rfl, ⟨_, rfl, (by decide)⟩, (by repeat (first | exact q_Gr.rf | refine q_Gr.ud ?_ (by omega) (by first | assumption | rfl) rfl (by first | exact ⟨fun h9 => absurd h9 (by decide), fun h9 => absurd h9 (by decide)⟩ | (constructor <;> (intro h9; omega))) | refine q_Gr.udz ?_ (by omega) (by first | assumption | decide | omega) (by first | exact ⟨fun h9 => absurd h9 (by decide), fun h9 => absurd h9 (by decide)⟩ | (constructor <;> (intro h9; omega))) | refine q_Gr.tr ?_ (by assumption) (by intro k9 j9 hk9; omega)))⟩
                · intro b542
                  refine r_if_gt c340_177 rfl (show q_w32 (0) = 0 from rfl) ?_ ?_
                  · intro b551
                    exact absurd b551.1 (by decide)
                  · intro b551
                    refine r_aload_n c340_180 rfl rfl ?_
                    refine r_getr c340_181 (by first | assumption | omega) (by decide) (by first | assumption | rfl) rfl rfl ?_
                    refine r_bipush c340_184 rfl ?_
                    refine r_iload_n c340_186 rfl rfl ?_
                    refine r_iadd c340_187 (by first | exact q_w32_id (by omega) (by omega) | exact q_w32w _ | exact rfl) rfl ?_
                    refine r_lconst c340_188 rfl ?_
                    refine r_last c340_189 (by first | assumption | omega) (by decide) (by first | assumption | rfl) (by first | assumption | decide) (by first | exact q_w32_id (by omega) (by omega) | exact q_w32w _ | exact rfl) (by first | assumption | omega) (by first | assumption | omega) rfl ?_
                    refine r_aload_n c340_190 rfl rfl ?_
                    refine r_getr c340_191 (by first | assumption | omega) (by decide) (by first | assumption | rfl) rfl rfl ?_
                    refine r_bipush c340_194 rfl ?_
                    refine r_iload_n c340_196 rfl rfl ?_
                    refine r_iadd c340_197 (by first | exact q_w32_id (by omega) (by omega) | exact q_w32w _ | exact rfl) rfl ?_
                    refine r_laldw (q_Gr.rb (S := fun k j => k = 140 ∧ (26 ≤ j ∧ j ≤ 61 ∧ ¬(47 ≤ j ∧ j ≤ 49))) hR (by repeat (first | exact q_Gr.rf | refine q_Gr.ud ?_ (by omega) (by first | assumption | rfl) rfl (by first | exact ⟨fun h9 => absurd h9 (by decide), fun h9 => absurd h9 (by decide)⟩ | (constructor <;> (intro h9; omega))) | refine q_Gr.udz ?_ (by omega) (by first | assumption | decide | omega) (by first | exact ⟨fun h9 => absurd h9 (by decide), fun h9 => absurd h9 (by decide)⟩ | (constructor <;> (intro h9; omega))) | refine q_Gr.tr ?_ (by assumption) (by intro k9 j9 hk9; omega)))) c340_198 (by first | exact q_w32_id (by omega) (by omega) | exact q_w32w _ | exact rfl) (by first | assumption | omega) (by first | assumption | omega) rfl ?_
                    intro y552
                    refine r_aload_n c340_199 rfl rfl ?_
                    refine r_getr c340_200 (by first | assumption | omega) (by decide) (by first | assumption | rfl) rfl rfl ?_
                    refine r_bipush c340_203 rfl ?_
                    refine r_iload_n c340_205 rfl rfl ?_
                    refine r_iadd c340_206 (by first | exact q_w32_id (by omega) (by omega) | exact q_w32w _ | exact rfl) rfl ?_
                    refine r_laldw (q_Gr.rb (S := fun k j => k = 140 ∧ (26 ≤ j ∧ j ≤ 61 ∧ ¬(47 ≤ j ∧ j ≤ 49))) hR (by repeat (first | exact q_Gr.rf | refine q_Gr.ud ?_ (by omega) (by first | assumption | rfl) rfl (by first | exact ⟨fun h9 => absurd h9 (by decide), fun h9 => absurd h9 (by decide)⟩ | (constructor <;> (intro h9; omega))) | refine q_Gr.udz ?_ (by omega) (by first | assumption | decide | omega) (by first | exact ⟨fun h9 => absurd h9 (by decide), fun h9 => absurd h9 (by decide)⟩ | (constructor <;> (intro h9; omega))) | refine q_Gr.tr ?_ (by assumption) (by intro k9 j9 hk9; omega)))) c340_207 (by first | exact q_w32_id (by omega) (by omega) | exact q_w32w _ | exact rfl) (by first | assumption | omega) (by first | assumption | omega) rfl ?_
                    intro y553
                    refine r_aload_n c340_208 rfl rfl ?_
                    refine r_getr c340_209 (by first | assumption | omega) (by decide) (by first | assumption | rfl) rfl rfl ?_
                    refine r_bipush c340_212 rfl ?_
                    refine r_iload_n c340_214 rfl rfl ?_
                    refine r_iadd c340_215 (by first | exact q_w32_id (by omega) (by omega) | exact q_w32w _ | exact rfl) rfl ?_
                    refine r_laldw (q_Gr.rb (S := fun k j => k = 140 ∧ (26 ≤ j ∧ j ≤ 61 ∧ ¬(47 ≤ j ∧ j ≤ 49))) hR (by repeat (first | exact q_Gr.rf | refine q_Gr.ud ?_ (by omega) (by first | assumption | rfl) rfl (by first | exact ⟨fun h9 => absurd h9 (by decide), fun h9 => absurd h9 (by decide)⟩ | (constructor <;> (intro h9; omega))) | refine q_Gr.udz ?_ (by omega) (by first | assumption | decide | omega) (by first | exact ⟨fun h9 => absurd h9 (by decide), fun h9 => absurd h9 (by decide)⟩ | (constructor <;> (intro h9; omega))) | refine q_Gr.tr ?_ (by assumption) (by intro k9 j9 hk9; omega)))) c340_216 (by first | exact q_w32_id (by omega) (by omega) | exact q_w32w _ | exact rfl) (by first | assumption | omega) (by first | assumption | omega) rfl ?_
                    intro y554
                    refine r_ladd c340_217 rfl rfl ?_
                    refine r_lcmpn c340_218 rfl (by first | exact q_w64_id (by omega) (by omega) | exact rfl) (by first | exact q_w64_id (by omega) (by omega) | exact rfl) ?_ ?_ ?_
                    · intro b555
                      refine r_if_le c340_219 rfl (show q_w32 (-1) = -1 from rfl) ?_ ?_
                      · intro b556
                        refine r_iconst c340_232 rfl ?_
                        exact r_zret c340_233 ⟨rfl, rfl, rfl⟩ (by decide) ⟨rfl, ⟨_, rfl, (by decide)⟩, (by repeat (first | exact q_Gr.rf | refine q_Gr.ud ?_ (by omega) (by first | assumption | rfl) rfl (by first | exact ⟨fun h9 => absurd h9 (by decide), fun h9 => absurd h9 (by decide)⟩ | (constructor <;> (intro h9; omega))) | refine q_Gr.udz ?_ (by omega) (by first | assumption | decide | omega) (by first | exact ⟨fun h9 => absurd h9 (by decide), fun h9 => absurd h9 (by decide)⟩ | (constructor <;> (intro h9; omega))) | refine q_Gr.tr ?_ (by assumption) (by intro k9 j9 hk9; omega)))⟩
                      · intro b556
                        exact absurd b556.1 (by decide)
                    · intro b555
                      refine r_if_le c340_219 rfl (show q_w32 (0) = 0 from rfl) ?_ ?_
                      · intro b557
                        refine r_iconst c340_232 rfl ?_
                        exact r_zret c340_233 ⟨rfl, rfl, rfl⟩ (by decide) ⟨rfl, ⟨_, rfl, (by decide)⟩, (by repeat (first | exact q_Gr.rf | refine q_Gr.ud ?_ (by omega) (by first | assumption | rfl) rfl (by first | exact ⟨fun h9 => absurd h9 (by decide), fun h9 => absurd h9 (by decide)⟩ | (constructor <;> (intro h9; omega))) | refine q_Gr.udz ?_ (by omega) (by first | assumption | decide | omega) (by first | exact ⟨fun h9 => absurd h9 (by decide), fun h9 => absurd h9 (by decide)⟩ | (constructor <;> (intro h9; omega))) | refine q_Gr.tr ?_ (by assumption) (by intro k9 j9 hk9; omega)))⟩
                      · intro b557
                        exact absurd b557.1 (by decide)
                    · intro b555
                      refine r_if_le c340_219 rfl (show q_w32 (1) = 1 from rfl) ?_ ?_
                      · intro b558
                        exact absurd b558.1 (by decide)
                      · intro b558
                        refine r_aload_n c340_222 rfl rfl ?_
                        refine r_getr c340_223 (by first | assumption | omega) (by decide) (by first | assumption | rfl) rfl rfl ?_
                        refine r_bipush c340_226 rfl ?_
                        refine r_iload_n c340_228 rfl rfl ?_
                        refine r_iadd c340_229 (by first | exact q_w32_id (by omega) (by omega) | exact q_w32w _ | exact rfl) rfl ?_
                        refine r_lconst c340_230 rfl ?_
                        refine r_last c340_231 (by first | assumption | omega) (by decide) (by first | assumption | rfl) (by first | assumption | decide) (by first | exact q_w32_id (by omega) (by omega) | exact q_w32w _ | exact rfl) (by first | assumption | omega) (by first | assumption | omega) rfl ?_
                        refine r_iconst c340_232 rfl ?_
                        exact r_zret c340_233 ⟨rfl, rfl, rfl⟩ (by decide) ⟨rfl, ⟨_, rfl, (by decide)⟩, (by repeat (first | exact q_Gr.rf | refine q_Gr.ud ?_ (by omega) (by first | assumption | rfl) rfl (by first | exact ⟨fun h9 => absurd h9 (by decide), fun h9 => absurd h9 (by decide)⟩ | (constructor <;> (intro h9; omega))) | refine q_Gr.udz ?_ (by omega) (by first | assumption | decide | omega) (by first | exact ⟨fun h9 => absurd h9 (by decide), fun h9 => absurd h9 (by decide)⟩ | (constructor <;> (intro h9; omega))) | refine q_Gr.tr ?_ (by assumption) (by intro k9 j9 hk9; omega)))⟩
                · intro b542
                  refine r_if_gt c340_177 rfl (show q_w32 (1) = 1 from rfl) ?_ ?_
                  · intro b559
                    refine r_aload_n c340_190 rfl rfl ?_
                    refine r_getr c340_191 (by first | assumption | omega) (by decide) (by first | assumption | rfl) rfl rfl ?_
                    refine r_bipush c340_194 rfl ?_
                    refine r_iload_n c340_196 rfl rfl ?_
                    refine r_iadd c340_197 (by first | exact q_w32_id (by omega) (by omega) | exact q_w32w _ | exact rfl) rfl ?_
                    refine r_laldw (q_Gr.rb (S := fun k j => k = 140 ∧ (26 ≤ j ∧ j ≤ 61 ∧ ¬(47 ≤ j ∧ j ≤ 49))) hR (by repeat (first | exact q_Gr.rf | refine q_Gr.ud ?_ (by omega) (by first | assumption | rfl) rfl (by first | exact ⟨fun h9 => absurd h9 (by decide), fun h9 => absurd h9 (by decide)⟩ | (constructor <;> (intro h9; omega))) | refine q_Gr.udz ?_ (by omega) (by first | assumption | decide | omega) (by first | exact ⟨fun h9 => absurd h9 (by decide), fun h9 => absurd h9 (by decide)⟩ | (constructor <;> (intro h9; omega))) | refine q_Gr.tr ?_ (by assumption) (by intro k9 j9 hk9; omega)))) c340_198 (by first | exact q_w32_id (by omega) (by omega) | exact q_w32w _ | exact rfl) (by first | assumption | omega) (by first | assumption | omega) rfl ?_
                    intro y560
                    refine r_aload_n c340_199 rfl rfl ?_
                    refine r_getr c340_200 (by first | assumption | omega) (by decide) (by first | assumption | rfl) rfl rfl ?_
                    refine r_bipush c340_203 rfl ?_
                    refine r_iload_n c340_205 rfl rfl ?_
                    refine r_iadd c340_206 (by first | exact q_w32_id (by omega) (by omega) | exact q_w32w _ | exact rfl) rfl ?_
                    refine r_laldw (q_Gr.rb (S := fun k j => k = 140 ∧ (26 ≤ j ∧ j ≤ 61 ∧ ¬(47 ≤ j ∧ j ≤ 49))) hR (by repeat (first | exact q_Gr.rf | refine q_Gr.ud ?_ (by omega) (by first | assumption | rfl) rfl (by first | exact ⟨fun h9 => absurd h9 (by decide), fun h9 => absurd h9 (by decide)⟩ | (constructor <;> (intro h9; omega))) | refine q_Gr.udz ?_ (by omega) (by first | assumption | decide | omega) (by first | exact ⟨fun h9 => absurd h9 (by decide), fun h9 => absurd h9 (by decide)⟩ | (constructor <;> (intro h9; omega))) | refine q_Gr.tr ?_ (by assumption) (by intro k9 j9 hk9; omega)))) c340_207 (by first | exact q_w32_id (by omega) (by omega) | exact q_w32w _ | exact rfl) (by first | assumption | omega) (by first | assumption | omega) rfl ?_
                    intro y561
                    refine r_aload_n c340_208 rfl rfl ?_
                    refine r_getr c340_209 (by first | assumption | omega) (by decide) (by first | assumption | rfl) rfl rfl ?_
                    refine r_bipush c340_212 rfl ?_
                    refine r_iload_n c340_214 rfl rfl ?_
                    refine r_iadd c340_215 (by first | exact q_w32_id (by omega) (by omega) | exact q_w32w _ | exact rfl) rfl ?_
                    refine r_laldw (q_Gr.rb (S := fun k j => k = 140 ∧ (26 ≤ j ∧ j ≤ 61 ∧ ¬(47 ≤ j ∧ j ≤ 49))) hR (by repeat (first | exact q_Gr.rf | refine q_Gr.ud ?_ (by omega) (by first | assumption | rfl) rfl (by first | exact ⟨fun h9 => absurd h9 (by decide), fun h9 => absurd h9 (by decide)⟩ | (constructor <;> (intro h9; omega))) | refine q_Gr.udz ?_ (by omega) (by first | assumption | decide | omega) (by first | exact ⟨fun h9 => absurd h9 (by decide), fun h9 => absurd h9 (by decide)⟩ | (constructor <;> (intro h9; omega))) | refine q_Gr.tr ?_ (by assumption) (by intro k9 j9 hk9; omega)))) c340_216 (by first | exact q_w32_id (by omega) (by omega) | exact q_w32w _ | exact rfl) (by first | assumption | omega) (by first | assumption | omega) rfl ?_
                    intro y562
                    refine r_ladd c340_217 rfl rfl ?_
                    refine r_lcmpn c340_218 rfl (by first | exact q_w64_id (by omega) (by omega) | exact rfl) (by first | exact q_w64_id (by omega) (by omega) | exact rfl) ?_ ?_ ?_
                    · intro b563
                      refine r_if_le c340_219 rfl (show q_w32 (-1) = -1 from rfl) ?_ ?_
                      · intro b564
                        refine r_iconst c340_232 rfl ?_
                        exact r_zret c340_233 ⟨rfl, rfl, rfl⟩ (by decide) ⟨rfl, ⟨_, rfl, (by decide)⟩, (by repeat (first | exact q_Gr.rf | refine q_Gr.ud ?_ (by omega) (by first | assumption | rfl) rfl (by first | exact ⟨fun h9 => absurd h9 (by decide), fun h9 => absurd h9 (by decide)⟩ | (constructor <;> (intro h9; omega))) | refine q_Gr.udz ?_ (by omega) (by first | assumption | decide | omega) (by first | exact ⟨fun h9 => absurd h9 (by decide), fun h9 => absurd h9 (by decide)⟩ | (constructor <;> (intro h9; omega))) | refine q_Gr.tr ?_ (by assumption) (by intro k9 j9 hk9; omega)))⟩
                      · intro b564
                        exact absurd b564.1 (by decide)
                    · intro b563
                      refine r_if_le c340_219 rfl (show q_w32 (0) = 0 from rfl) ?_ ?_
                      · intro b565
                        refine r_iconst c340_232 rfl ?_
                        exact r_zret c340_233 ⟨rfl, rfl, rfl⟩ (by decide) ⟨rfl, ⟨_, rfl, (by decide)⟩, (by repeat (first | exact q_Gr.rf | refine q_Gr.ud ?_ (by omega) (by first | assumption | rfl) rfl (by first | exact ⟨fun h9 => absurd h9 (by decide), fun h9 => absurd h9 (by decide)⟩ | (constructor <;> (intro h9; omega))) | refine q_Gr.udz ?_ (by omega) (by first | assumption | decide | omega) (by first | exact ⟨fun h9 => absurd h9 (by decide), fun h9 => absurd h9 (by decide)⟩ | (constructor <;> (intro h9; omega))) | refine q_Gr.tr ?_ (by assumption) (by intro k9 j9 hk9; omega)))⟩
                      · intro b565
                        exact absurd b565.1 (by decide)
                    · intro b563
                      refine r_if_le c340_219 rfl (show q_w32 (1) = 1 from rfl) ?_ ?_
                      · intro b566
                        exact absurd b566.1 (by decide)
                      · intro b566
                        refine r_aload_n c340_222 rfl rfl ?_
                        refine r_getr c340_223 (by first | assumption | omega) (by decide) (by first | assumption | rfl) rfl rfl ?_
                        refine r_bipush c340_226 rfl ?_
                        refine r_iload_n c340_228 rfl rfl ?_
                        refine r_iadd c340_229 (by first | exact q_w32_id (by omega) (by omega) | exact q_w32w _ | exact rfl) rfl ?_
                        refine r_lconst c340_230 rfl ?_
                        refine r_last c340_231 (by first | assumption | omega) (by decide) (by first | assumption | rfl) (by first | assumption | decide) (by first | exact q_w32_id (by omega) (by omega) | exact q_w32w _ | exact rfl) (by first | assumption | omega) (by first | assumption | omega) rfl ?_
                        refine r_iconst c340_232 rfl ?_
                        exact r_zret c340_233 ⟨rfl, rfl, rfl⟩ (by decide) ⟨rfl, ⟨_, rfl, (by decide)⟩, (by repeat (first | exact q_Gr.rf | refine q_Gr.ud ?_ (by omega) (by first | assumption | rfl) rfl (by first | exact ⟨fun h9 => absurd h9 (by decide), fun h9 => absurd h9 (by decide)⟩ | (constructor <;> (intro h9; omega))) | refine q_Gr.udz ?_ (by omega) (by first | assumption | decide | omega) (by first | exact ⟨fun h9 => absurd h9 (by decide), fun h9 => absurd h9 (by decide)⟩ | (constructor <;> (intro h9; omega))) | refine q_Gr.tr ?_ (by assumption) (by intro k9 j9 hk9; omega)))⟩
                  · intro b559
                    exact absurd b559.1 (by decide)
              · intro b538
                exact absurd b538.1 (by decide)
          · intro b504
            exact absurd b504.1 (by decide)
        · intro b501
          refine r_if_eq c340_95 rfl (show q_w32 (1) = 1 from rfl) ?_ ?_
          · intro b567
            exact absurd b567.1 (by decide)
          · intro b567
            refine r_aload_n c340_98 rfl rfl ?_
            refine r_getr c340_99 (by first | assumption | omega) (by decide) (by first | assumption | rfl) rfl rfl ?_
            refine r_bipush c340_102 rfl ?_
            refine r_iload_n c340_104 rfl rfl ?_
            refine r_iadd c340_105 (by first | exact q_w32_id (by omega) (by omega) | exact q_w32w _ | exact rfl) rfl ?_
            refine r_dup2 c340_106 rfl rfl rfl ?_
            refine r_laldw (q_Gr.rb (S := fun k j => k = 140 ∧ (26 ≤ j ∧ j ≤ 61 ∧ ¬(47 ≤ j ∧ j ≤ 49))) hR (by repeat (first | exact q_Gr.rf | refine q_Gr.ud ?_ (by omega) (by first | assumption | rfl) rfl (by first | exact ⟨fun h9 => absurd h9 (by decide), fun h9 => absurd h9 (by decide)⟩ | (constructor <;> (intro h9; omega))) | refine q_Gr.udz ?_ (by omega) (by first | assumption | decide | omega) (by first | exact ⟨fun h9 => absurd h9 (by decide), fun h9 => absurd h9 (by decide)⟩ | (constructor <;> (intro h9; omega))) | refine q_Gr.tr ?_ (by assumption) (by intro k9 j9 hk9; omega)))) c340_107 (by first | exact q_w32_id (by omega) (by omega) | exact q_w32w _ | exact rfl) (by first | assumption | omega) (by first | assumption | omega) rfl ?_
            intro y568
            refine r_iload_n c340_108 rfl rfl ?_
            refine r_i2l c340_109 (by first | exact q_w32_id (by omega) (by omega) | exact q_w32w _ | exact rfl) rfl ?_
            refine r_ladd c340_110 rfl rfl ?_
            refine r_last c340_111 (by first | assumption | omega) (by decide) (by first | assumption | rfl) (by first | assumption | decide) (by first | exact q_w32_id (by omega) (by omega) | exact q_w32w _ | exact rfl) (by first | assumption | omega) (by first | assumption | omega) rfl ?_
            refine r_iconst c340_112 rfl ?_
            exact r_zret c340_113 ⟨rfl, rfl, rfl⟩ (by decide) ⟨rfl, ⟨_, rfl, (by decide)⟩, (by repeat (first | exact q_Gr.rf | refine q_Gr.ud ?_ (by omega) (by first | assumption | rfl) rfl (by first | exact ⟨fun h9 => absurd h9 (by decide), fun h9 => absurd h9 (by decide)⟩ | (constructor <;> (intro h9; omega))) | refine q_Gr.udz ?_ (by omega) (by first | assumption | decide | omega) (by first | exact ⟨fun h9 => absurd h9 (by decide), fun h9 => absurd h9 (by decide)⟩ | (constructor <;> (intro h9; omega))) | refine q_Gr.tr ?_ (by assumption) (by intro k9 j9 hk9; omega)))⟩
theorem c318_0 : q_cat 318 0 (.aload_n 0) 1 0 0 (0) := ⟨rfl, rfl⟩
theorem c318_1 : q_cat 318 1 (.getfield 7) 3 9 0 (3) := ⟨rfl, rfl⟩
theorem c318_4 : q_cat 318 4 (.bipush 38) 2 0 0 (0) := ⟨rfl, rfl⟩
theorem c318_6 : q_cat 318 6 (.iload_n 1) 1 1 0 (0) := ⟨rfl, rfl⟩
theorem c318_7 : q_cat 318 7 (.iadd) 1 0 0 (0) := ⟨rfl, rfl⟩
theorem c318_8 : q_cat 318 8 (.laload) 1 0 0 (0) := ⟨rfl, rfl⟩
theorem c318_9 : q_cat 318 9 (.ldc2_w 71) 3 0 0 (2) := ⟨rfl, rfl⟩
theorem c318_12 : q_cat 318 12 (.lcmp) 1 0 0 (0) := ⟨rfl, rfl⟩
theorem c318_13 : q_cat 318 13 (.ifCond .eq 31) 3 44 0 (0) := ⟨rfl, rfl⟩
theorem c318_16 : q_cat 318 16 (.aload_n 0) 1 0 0 (0) := ⟨rfl, rfl⟩
theorem c318_17 : q_cat 318 17 (.getfield 7) 3 9 0 (3) := ⟨rfl, rfl⟩
theorem c318_20 : q_cat 318 20 (.bipush 38) 2 0 0 (0) := ⟨rfl, rfl⟩
theorem c318_22 : q_cat 318 22 (.iload_n 1) 1 1 0 (0) := ⟨rfl, rfl⟩
theorem c318_23 : q_cat 318 23 (.iadd) 1 0 0 (0) := ⟨rfl, rfl⟩
theorem c318_24 : q_cat 318 24 (.laload) 1 0 0 (0) := ⟨rfl, rfl⟩
theorem c318_25 : q_cat 318 25 (.lconst 0) 1 0 0 (0) := ⟨rfl, rfl⟩
theorem c318_26 : q_cat 318 26 (.lcmp) 1 0 0 (0) := ⟨rfl, rfl⟩
theorem c318_27 : q_cat 318 27 (.ifCond .ne 21) 3 48 0 (0) := ⟨rfl, rfl⟩
theorem c318_30 : q_cat 318 30 (.aload_n 0) 1 0 0 (0) := ⟨rfl, rfl⟩
theorem c318_31 : q_cat 318 31 (.getfield 7) 3 9 0 (3) := ⟨rfl, rfl⟩
theorem c318_34 : q_cat 318 34 (.bipush 53) 2 0 0 (0) := ⟨rfl, rfl⟩
theorem c318_36 : q_cat 318 36 (.iload_n 1) 1 1 0 (0) := ⟨rfl, rfl⟩
theorem c318_37 : q_cat 318 37 (.iadd) 1 0 0 (0) := ⟨rfl, rfl⟩
theorem c318_38 : q_cat 318 38 (.laload) 1 0 0 (0) := ⟨rfl, rfl⟩
theorem c318_39 : q_cat 318 39 (.lconst 1) 1 0 0 (1) := ⟨rfl, rfl⟩
theorem c318_40 : q_cat 318 40 (.lcmp) 1 0 0 (0) := ⟨rfl, rfl⟩
theorem c318_41 : q_cat 318 41 (.ifCond .ne 7) 3 48 0 (0) := ⟨rfl, rfl⟩
theorem c318_44 : q_cat 318 44 (.iconst 1) 1 0 0 (0) := ⟨rfl, rfl⟩
theorem c318_45 : q_cat 318 45 (.goto 4) 3 49 0 (0) := ⟨rfl, rfl⟩
theorem c318_48 : q_cat 318 48 (.iconst 0) 1 0 0 (0) := ⟨rfl, rfl⟩
theorem c318_49 : q_cat 318 49 (.ireturn) 1 0 0 (0) := ⟨rfl, rfl⟩
theorem k318 {Γ : q_Γ} (hG : q_GG Γ) {h : q_F} (hZ : q_Bz h) (hR : q_Rb h) {v1 : Int} (hp0 : 0 ≤ v1 ∧ v1 < 3) :
    q_M Γ q_K 155 318 [(2, Int.ofNat 139), (0, v1)] h (fun t w h' => (t = 1 ∧ (∃ z, w = ((0, z) : q_V) ∧ (z = 0 ∨ z = 1)) ∧ h' = h)) := by
  refine q_M.of (by decide) (Nat.le_of_ble_eq_true rfl) hG ?_
  refine r_aload_n c318_0 rfl rfl ?_
  refine r_getr c318_1 (by first | assumption | omega) (by decide) (by first | assumption | rfl) rfl rfl ?_
  refine r_bipush c318_4 rfl ?_
  refine r_iload_n c318_6 rfl rfl ?_
  refine r_iadd c318_7 (by first | exact q_w32_id (by omega) (by omega) | exact q_w32w _ | exact rfl) rfl ?_
  refine r_laldw hR c318_8 (by first | exact q_w32_id (by omega) (by omega) | exact q_w32w _ | exact rfl) (by first | assumption | omega) (by first | assumption | omega) rfl ?_
  intro y1
  refine r_ldc2 c318_9 rfl rfl ?_
  refine r_lcmpn c318_12 rfl (by first | exact q_w64_id (by omega) (by omega) | exact rfl) (show q_w64 (2) = 2 from rfl) ?_ ?_ ?_
  · intro b2
    refine r_if_eq c318_13 rfl (show q_w32 (-1) = -1 from rfl) ?_ ?_
    · intro b3
      exact absurd b3.1 (by decide)
    · intro b3
      refine r_aload_n c318_16 rfl rfl ?_
      refine r_getr c318_17 (by first | assumption | omega) (by decide) (by first | assumption | rfl) rfl rfl ?_
      refine r_bipush c318_20 rfl ?_
      refine r_iload_n c318_22 rfl rfl ?_
      refine r_iadd c318_23 (by first | exact q_w32_id (by omega) (by omega) | exact q_w32w _ | exact rfl) rfl ?_
      refine r_laldw hR c318_24 (by first | exact q_w32_id (by omega) (by omega) | exact q_w32w _ | exact rfl) (by first | assumption | omega) (by first | assumption | omega) rfl ?_
      intro y4
      refine r_lconst c318_25 rfl ?_
      refine r_lcmpn c318_26 rfl (by first | exact q_w64_id (by omega) (by omega) | exact rfl) (show q_w64 (0) = 0 from rfl) ?_ ?_ ?_
      · intro b5
        refine r_if_ne c318_27 rfl (show q_w32 (-1) = -1 from rfl) ?_ ?_
        · intro b6
          refine r_iconst c318_48 rfl ?_
          exact r_zret c318_49 ⟨rfl, rfl, rfl⟩ (by decide) ⟨rfl, ⟨_, rfl, (by decide)⟩, rfl⟩
        · intro b6
          exact absurd b6.1 (by decide)
      · intro b5
        refine r_if_ne c318_27 rfl (show q_w32 (0) = 0 from rfl) ?_ ?_
        · intro b7
          exact absurd b7.1 (by decide)
        · intro b7
          refine r_aload_n c318_30 rfl rfl ?_
          refine r_getr c318_31 (by first | assumption | omega) (by decide) (by first | assumption | rfl) rfl rfl ?_
          refine r_bipush c318_34 rfl ?_
          refine r_iload_n c318_36 rfl rfl ?_
          refine r_iadd c318_37 (by first | exact q_w32_id (by omega) (by omega) | exact q_w32w _ | exact rfl) rfl ?_
          refine r_laldw hR c318_38 (by first | exact q_w32_id (by omega) (by omega) | exact q_w32w _ | exact rfl) (by first | assumption | omega) (by first | assumption | omega) rfl ?_
          intro y8
          refine r_lconst c318_39 rfl ?_
          refine r_lcmpn c318_40 rfl (by first | exact q_w64_id (by omega) (by omega) | exact rfl) (show q_w64 (1) = 1 from rfl) ?_ ?_ ?_
          · intro b9
            refine r_if_ne c318_41 rfl (show q_w32 (-1) = -1 from rfl) ?_ ?_
            · intro b10
              refine r_iconst c318_48 rfl ?_
              exact r_zret c318_49 ⟨rfl, rfl, rfl⟩ (by decide) ⟨rfl, ⟨_, rfl, (by decide)⟩, rfl⟩
            · intro b10
              exact absurd b10.1 (by decide)
          · intro b9
            refine r_if_ne c318_41 rfl (show q_w32 (0) = 0 from rfl) ?_ ?_
            · intro b11
              exact absurd b11.1 (by decide)
            · intro b11
              refine r_iconst c318_44 rfl ?_
              refine r_goto c318_45 ?_
              exact r_zret c318_49 ⟨rfl, rfl, rfl⟩ (by decide) ⟨rfl, ⟨_, rfl, (by decide)⟩, rfl⟩
          · intro b9
            refine r_if_ne c318_41 rfl (show q_w32 (1) = 1 from rfl) ?_ ?_
            · intro b12
              refine r_iconst c318_48 rfl ?_
              exact r_zret c318_49 ⟨rfl, rfl, rfl⟩ (by decide) ⟨rfl, ⟨_, rfl, (by decide)⟩, rfl⟩
            · intro b12
              exact absurd b12.1 (by decide)
      · intro b5
        refine r_if_ne c318_27 rfl (show q_w32 (1) = 1 from rfl) ?_ ?_
        · intro b13
          refine r_iconst c318_48 rfl ?_
          exact r_zret c318_49 ⟨rfl, rfl, rfl⟩ (by decide) ⟨rfl, ⟨_, rfl, (by decide)⟩, rfl⟩
        · intro b13
          exact absurd b13.1 (by decide)
  · intro b2
    refine r_if_eq c318_13 rfl (show q_w32 (0) = 0 from rfl) ?_ ?_
    · intro b14
      refine r_iconst c318_44 rfl ?_
      refine r_goto c318_45 ?_
      exact r_zret c318_49 ⟨rfl, rfl, rfl⟩ (by decide) ⟨rfl, ⟨_, rfl, (by decide)⟩, rfl⟩
    · intro b14
      exact absurd b14.1 (by decide)
  · intro b2
    refine r_if_eq c318_13 rfl (show q_w32 (1) = 1 from rfl) ?_ ?_
    · intro b15
      exact absurd b15.1 (by decide)
    · intro b15
      refine r_aload_n c318_16 rfl rfl ?_
      refine r_getr c318_17 (by first | assumption | omega) (by decide) (by first | assumption | rfl) rfl rfl ?_
      refine r_bipush c318_20 rfl ?_
      refine r_iload_n c318_22 rfl rfl ?_
      refine r_iadd c318_23 (by first | exact q_w32_id (by omega) (by omega) | exact q_w32w _ | exact rfl) rfl ?_
      refine r_laldw hR c318_24 (by first | exact q_w32_id (by omega) (by omega) | exact q_w32w _ | exact rfl) (by first | assumption | omega) (by first | assumption | omega) rfl ?_
      intro y16
      refine r_lconst c318_25 rfl ?_
      refine r_lcmpn c318_26 rfl (by first | exact q_w64_id (by omega) (by omega) | exact rfl) (show q_w64 (0) = 0 from rfl) ?_ ?_ ?_
      · intro b17
        refine r_if_ne c318_27 rfl (show q_w32 (-1) = -1 from rfl) ?_ ?_
        · intro b18
          refine r_iconst c318_48 rfl ?_
          exact r_zret c318_49 ⟨rfl, rfl, rfl⟩ (by decide) ⟨rfl, ⟨_, rfl, (by decide)⟩, rfl⟩
        · intro b18
          exact absurd b18.1 (by decide)
      · intro b17
        refine r_if_ne c318_27 rfl (show q_w32 (0) = 0 from rfl) ?_ ?_
        · intro b19
          exact absurd b19.1 (by decide)
        · intro b19
          refine r_aload_n c318_30 rfl rfl ?_
          refine r_getr c318_31 (by first | assumption | omega) (by decide) (by first | assumption | rfl) rfl rfl ?_
          refine r_bipush c318_34 rfl ?_
          refine r_iload_n c318_36 rfl rfl ?_
          refine r_iadd c318_37 (by first | exact q_w32_id (by omega) (by omega) | exact q_w32w _ | exact rfl) rfl ?_
          refine r_laldw hR c318_38 (by first | exact q_w32_id (by omega) (by omega) | exact q_w32w _ | exact rfl) (by first | assumption | omega) (by first | assumption | omega) rfl ?_
          intro y20
          refine r_lconst c318_39 rfl ?_
          refine r_lcmpn c318_40 rfl (by first | exact q_w64_id (by omega) (by omega) | exact rfl) (show q_w64 (1) = 1 from rfl) ?_ ?_ ?_
          · intro b21
            refine r_if_ne c318_41 rfl (show q_w32 (-1) = -1 from rfl) ?_ ?_
            · intro b22
              refine r_iconst c318_48 rfl ?_
              exact r_zret c318_49 ⟨rfl, rfl, rfl⟩ (by decide) ⟨rfl, ⟨_, rfl, (by decide)⟩, rfl⟩
            · intro b22
              exact absurd b22.1 (by decide)
          · intro b21
            refine r_if_ne c318_41 rfl (show q_w32 (0) = 0 from rfl) ?_ ?_
            · intro b23
              exact absurd b23.1 (by decide)
            · intro b23
              refine r_iconst c318_44 rfl ?_
              refine r_goto c318_45 ?_
              exact r_zret c318_49 ⟨rfl, rfl, rfl⟩ (by decide) ⟨rfl, ⟨_, rfl, (by decide)⟩, rfl⟩
          · intro b21
            refine r_if_ne c318_41 rfl (show q_w32 (1) = 1 from rfl) ?_ ?_
            · intro b24
              refine r_iconst c318_48 rfl ?_
              exact r_zret c318_49 ⟨rfl, rfl, rfl⟩ (by decide) ⟨rfl, ⟨_, rfl, (by decide)⟩, rfl⟩
            · intro b24
              exact absurd b24.1 (by decide)
      · intro b17
        refine r_if_ne c318_27 rfl (show q_w32 (1) = 1 from rfl) ?_ ?_
        · intro b25
          refine r_iconst c318_48 rfl ?_
          exact r_zret c318_49 ⟨rfl, rfl, rfl⟩ (by decide) ⟨rfl, ⟨_, rfl, (by decide)⟩, rfl⟩
        · intro b25
          exact absurd b25.1 (by decide)
theorem c335_0 : q_cat 335 0 (.ldc2_w 80) 3 0 0 (1000000) := ⟨rfl, rfl⟩
theorem c335_3 : q_cat 335 3 (.aload_n 0) 1 0 0 (0) := ⟨rfl, rfl⟩
theorem c335_4 : q_cat 335 4 (.getfield 7) 3 9 0 (3) := ⟨rfl, rfl⟩
theorem c335_7 : q_cat 335 7 (.iconst 0) 1 0 0 (0) := ⟨rfl, rfl⟩
theorem c335_8 : q_cat 335 8 (.laload) 1 0 0 (0) := ⟨rfl, rfl⟩
theorem c335_9 : q_cat 335 9 (.ldiv) 1 0 0 (0) := ⟨rfl, rfl⟩
theorem c335_10 : q_cat 335 10 (.lreturn) 1 0 0 (0) := ⟨rfl, rfl⟩
theorem k335 {Γ : q_Γ} (hG : q_GG Γ) {h : q_F} (hZ : q_Bz h) (hR : q_Rb h)   :
    q_M Γ q_K 155 335 [(2, Int.ofNat 139)] h (fun t w h' => (t = 1 ∧ (∃ z, w = ((1, z) : q_V)) ∧ h' = h)) := by
  refine q_M.of (by decide) (Nat.le_of_ble_eq_true rfl) hG ?_
  refine r_ldc2 c335_0 rfl rfl ?_
  refine r_aload_n c335_3 rfl rfl ?_
  refine r_getr c335_4 (by first | assumption | omega) (by decide) (by first | assumption | rfl) rfl rfl ?_
  refine r_iconst c335_7 rfl ?_
  refine r_laldw hR c335_8 (show q_w32 (0) = 0 from rfl) (by first | assumption | omega) (by first | assumption | omega) rfl ?_
  intro y1
  refine r_ldivn c335_9 (by first | exact q_w64_id (by omega) (by omega) | exact rfl) (by first | assumption | omega) rfl rfl ?_
  exact r_lret c335_10 ⟨rfl, rfl, rfl⟩ ⟨rfl, ⟨_, rfl⟩, rfl⟩
theorem c327_0 : q_cat 327 0 (.aload_n 0) 1 0 0 (0) := ⟨rfl, rfl⟩
theorem c327_1 : q_cat 327 1 (.bipush 8) 2 0 0 (0) := ⟨rfl, rfl⟩
theorem c327_3 : q_cat 327 3 (.iload_n 1) 1 1 0 (0) := ⟨rfl, rfl⟩
theorem c327_4 : q_cat 327 4 (.iadd) 1 0 0 (0) := ⟨rfl, rfl⟩
theorem c327_5 : q_cat 327 5 (.invokevirtual 82) 3 303 0 (0) := ⟨rfl, rfl⟩
theorem c327_8 : q_cat 327 8 (.aload_n 0) 1 0 0 (0) := ⟨rfl, rfl⟩
theorem c327_9 : q_cat 327 9 (.bipush 11) 2 0 0 (0) := ⟨rfl, rfl⟩
theorem c327_11 : q_cat 327 11 (.iload_n 1) 1 1 0 (0) := ⟨rfl, rfl⟩
theorem c327_12 : q_cat 327 12 (.iadd) 1 0 0 (0) := ⟨rfl, rfl⟩
theorem c327_13 : q_cat 327 13 (.invokevirtual 82) 3 303 0 (0) := ⟨rfl, rfl⟩
theorem c327_16 : q_cat 327 16 (.iadd) 1 0 0 (0) := ⟨rfl, rfl⟩
theorem c327_17 : q_cat 327 17 (.iconst 1) 1 0 0 (0) := ⟨rfl, rfl⟩
theorem c327_18 : q_cat 327 18 (.iadd) 1 0 0 (0) := ⟨rfl, rfl⟩
theorem c327_19 : q_cat 327 19 (.istore 6) 2 6 0 (0) := ⟨rfl, rfl⟩
theorem c327_21 : q_cat 327 21 (.iconst 0) 1 0 0 (0) := ⟨rfl, rfl⟩
theorem c327_22 : q_cat 327 22 (.istore 7) 2 7 0 (0) := ⟨rfl, rfl⟩
theorem c327_24 : q_cat 327 24 (.iconst 0) 1 0 0 (0) := ⟨rfl, rfl⟩
theorem c327_25 : q_cat 327 25 (.istore 8) 2 8 0 (0) := ⟨rfl, rfl⟩
theorem c327_27 : q_cat 327 27 (.aload_n 0) 1 0 0 (0) := ⟨rfl, rfl⟩
theorem c327_28 : q_cat 327 28 (.iload_n 1) 1 1 0 (0) := ⟨rfl, rfl⟩
theorem c327_29 : q_cat 327 29 (.invokevirtual 86) 3 318 0 (0) := ⟨rfl, rfl⟩
theorem c327_32 : q_cat 327 32 (.iload_n 2) 1 2 0 (0) := ⟨rfl, rfl⟩
theorem c327_33 : q_cat 327 33 (.if_icmp .eq 48) 3 81 0 (0) := ⟨rfl, rfl⟩
theorem c327_36 : q_cat 327 36 (.iload 7) 2 7 0 (0) := ⟨rfl, rfl⟩
theorem c327_38 : q_cat 327 38 (.iload 6) 2 6 0 (0) := ⟨rfl, rfl⟩
theorem c327_40 : q_cat 327 40 (.if_icmp .ge 41) 3 81 0 (0) := ⟨rfl, rfl⟩
theorem c327_43 : q_cat 327 43 (.aload_n 0) 1 0 0 (0) := ⟨rfl, rfl⟩
theorem c327_44 : q_cat 327 44 (.iload_n 1) 1 1 0 (0) := ⟨rfl, rfl⟩
theorem c327_45 : q_cat 327 45 (.iload_n 3) 1 3 0 (0) := ⟨rfl, rfl⟩
theorem c327_46 : q_cat 327 46 (.invokevirtual 90) 3 340 0 (0) := ⟨rfl, rfl⟩
theorem c327_49 : q_cat 327 49 (.ifCond .ne 8) 3 57 0 (0) := ⟨rfl, rfl⟩
theorem c327_52 : q_cat 327 52 (.iload 8) 2 8 0 (0) := ⟨rfl, rfl⟩
theorem c327_54 : q_cat 327 54 (.ifCond .eq 7) 3 61 0 (0) := ⟨rfl, rfl⟩
theorem c327_57 : q_cat 327 57 (.iconst 1) 1 0 0 (0) := ⟨rfl, rfl⟩
theorem c327_58 : q_cat 327 58 (.goto 4) 3 62 0 (0) := ⟨rfl, rfl⟩
theorem c327_61 : q_cat 327 61 (.iconst 0) 1 0 0 (0) := ⟨rfl, rfl⟩
theorem c327_62 : q_cat 327 62 (.istore 8) 2 8 0 (0) := ⟨rfl, rfl⟩
theorem c327_64 : q_cat 327 64 (.aload_n 0) 1 0 0 (0) := ⟨rfl, rfl⟩
theorem c327_65 : q_cat 327 65 (.getfield 7) 3 9 0 (3) := ⟨rfl, rfl⟩
theorem c327_68 : q_cat 327 68 (.iconst 5) 1 0 0 (0) := ⟨rfl, rfl⟩
theorem c327_69 : q_cat 327 69 (.dup2) 1 0 0 (0) := ⟨rfl, rfl⟩
theorem c327_70 : q_cat 327 70 (.laload) 1 0 0 (0) := ⟨rfl, rfl⟩
theorem c327_71 : q_cat 327 71 (.lload 4) 2 4 0 (0) := ⟨rfl, rfl⟩
theorem c327_73 : q_cat 327 73 (.ladd) 1 0 0 (0) := ⟨rfl, rfl⟩
theorem c327_74 : q_cat 327 74 (.lastore) 1 0 0 (0) := ⟨rfl, rfl⟩
theorem c327_75 : q_cat 327 75 (.iinc 7 1) 3 7 0 (0) := ⟨rfl, rfl⟩
theorem c327_78 : q_cat 327 78 (.goto (-51)) 3 27 0 (0) := ⟨rfl, rfl⟩
theorem c327_81 : q_cat 327 81 (.aload_n 0) 1 0 0 (0) := ⟨rfl, rfl⟩
theorem c327_82 : q_cat 327 82 (.iload_n 1) 1 1 0 (0) := ⟨rfl, rfl⟩
theorem c327_83 : q_cat 327 83 (.invokevirtual 86) 3 318 0 (0) := ⟨rfl, rfl⟩
theorem c327_86 : q_cat 327 86 (.iload_n 2) 1 2 0 (0) := ⟨rfl, rfl⟩
theorem c327_87 : q_cat 327 87 (.if_icmp .ne 8) 3 95 0 (0) := ⟨rfl, rfl⟩
theorem c327_90 : q_cat 327 90 (.iload 7) 2 7 0 (0) := ⟨rfl, rfl⟩
theorem c327_92 : q_cat 327 92 (.goto 4) 3 96 0 (0) := ⟨rfl, rfl⟩
theorem c327_95 : q_cat 327 95 (.iconst (-1)) 1 0 0 (0) := ⟨rfl, rfl⟩
theorem c327_96 : q_cat 327 96 (.ireturn) 1 0 0 (0) := ⟨rfl, rfl⟩
theorem l327_27 {Γ : q_Γ} (hG : q_GG Γ) {h0 : q_F} (hZ : q_Bz h0) (hR : q_Rb h0) {v1 : Int} {v2 : Int} {v3 : Int} {v4 : Int} {u6 : Int} {u1 : Int} {u2 : Int} {u3 : Int} {u4 : Int} (hz2 : v2 = 0 ∨ v2 = 1) (hp0 : 0 ≤ v1 ∧ v1 < 3)
    (hx81 : ∀ {u8 u7 : Int} {h : q_F}, q_Gr (fun k j => k = 140 ∧ (j = 5 ∨ (26 ≤ j ∧ j ≤ 61 ∧ ¬(47 ≤ j ∧ j ≤ 49)))) h0 h → q_R Γ q_K 155 327 (fun t w h' => (t = 1 ∧ (∃ z, w = ((0, z) : q_V)) ∧ q_Gr (fun k j => k = 140 ∧ (j = 5 ∨ (26 ≤ j ∧ j ≤ 61 ∧ ¬(47 ≤ j ∧ j ≤ 49)))) h0 h')) (81, [(8, (0, u8)), (7, (0, u7)), (6, (0, u6)), (0, (2, Int.ofNat 139)), (1, (0, u1)), (2, (0, u2)), (3, (0, u3)), (4, (1, u4))], [], q_hp q_K 155 h, [], 0, 0))
    : ∀ (m : Nat) {u8 u7 : Int} {h : q_F}, (0 ≤ u7 ∧ u7 < 2147483648) → q_Gr (fun k j => k = 140 ∧ (j = 5 ∨ (26 ≤ j ∧ j ≤ 61 ∧ ¬(47 ≤ j ∧ j ≤ 49)))) h0 h → 2147483648 - u7 < (m : Int) → q_R Γ q_K 155 327 (fun t w h' => (t = 1 ∧ (∃ z, w = ((0, z) : q_V)) ∧ q_Gr (fun k j => k = 140 ∧ (j = 5 ∨ (26 ≤ j ∧ j ≤ 61 ∧ ¬(47 ≤ j ∧ j ≤ 49)))) h0 h')) (27, [(8, (0, u8)), (7, (0, u7)), (6, (0, u6)), (0, (2, Int.ofNat 139)), (1, (0, u1)), (2, (0, u2)), (3, (0, u3)), (4, (1, u4))], [], q_hp q_K 155 h, [], 0, 0)   := by
  intro m
  induction m with
  | zero =>
    intro u8 u7 h hinv hf hmu
    exact absurd hmu (by omega)
  | succ m ih =>
    intro u8 u7 h hinv hf hmu
    refine r_aload_n c327_27 rfl rfl ?_
    refine r_iload_n c327_28 rfl rfl ?_
    refine r_vcG c327_29 (by first | assumption | omega) (by decide) (by first | assumption | rfl) rfl rfl rfl (k318 hG (q_Gr.bz (S := fun k j => k = 140 ∧ (j = 5 ∨ (26 ≤ j ∧ j ≤ 61 ∧ ¬(47 ≤ j ∧ j ≤ 49)))) hZ (by repeat (first | exact q_Gr.rf | refine q_Gr.ud ?_ (by omega) (by first | assumption | rfl) rfl (by first | exact ⟨fun h9 => absurd h9 (by decide), fun h9 => absurd h9 (by decide)⟩ | (constructor <;> (intro h9; omega))) | refine q_Gr.udz ?_ (by omega) (by first | assumption | decide | omega) (by first | exact ⟨fun h9 => absurd h9 (by decide), fun h9 => absurd h9 (by decide)⟩ | (constructor <;> (intro h9; omega))) | refine q_Gr.tr ?_ (by assumption) (by intro k9 j9 hk9; omega)))) (q_Gr.rb (S := fun k j => k = 140 ∧ (j = 5 ∨ (26 ≤ j ∧ j ≤ 61 ∧ ¬(47 ≤ j ∧ j ≤ 49)))) hR (by repeat (first | exact q_Gr.rf | refine q_Gr.ud ?_ (by omega) (by first | assumption | rfl) rfl (by first | exact ⟨fun h9 => absurd h9 (by decide), fun h9 => absurd h9 (by decide)⟩ | (constructor <;> (intro h9; omega))) | refine q_Gr.udz ?_ (by omega) (by first | assumption | decide | omega) (by first | exact ⟨fun h9 => absurd h9 (by decide), fun h9 => absurd h9 (by decide)⟩ | (constructor <;> (intro h9; omega))) | refine q_Gr.tr ?_ (by assumption) (by intro k9 j9 hk9; omega)))) (by first | assumption | omega)) ?_
    intro t3 w3 g3 p3
    obtain ⟨rfl, ⟨z3, rfl, hz3⟩, rfl⟩ := p3
    refine Or.inr (Or.inl ⟨rfl, ?_⟩)
    refine r_iload_n c327_32 rfl rfl ?_
    refine r_ic_eq c327_33 rfl (by first | exact q_w32_id (by omega) (by omega) | exact q_w32w _ | exact rfl) (by first | exact q_w32_id (by omega) (by omega) | exact q_w32w _ | exact rfl) ?_ ?_
    · intro b4
      refine q_R.wk (ks := [8, 7, 6, 0, 1, 2, 3, 4]) (lo' := [(8, _), (7, _), (6, _), (0, _), (1, _), (2, _), (3, _), (4, _)]) rfl ?_
      exact hx81 (by repeat (first | exact q_Gr.rf | refine q_Gr.ud ?_ (by omega) (by first | assumption | rfl) rfl (by first | exact ⟨fun h9 => absurd h9 (by decide), fun h9 => absurd h9 (by decide)⟩ | (constructor <;> (intro h9; omega))) | refine q_Gr.udz ?_ (by omega) (by first | assumption | decide | omega) (by first | exact ⟨fun h9 => absurd h9 (by decide), fun h9 => absurd h9 (by decide)⟩ | (constructor <;> (intro h9; omega))) | refine q_Gr.tr ?_ (by assumption) (by intro k9 j9 hk9; omega)))
    · intro b4
      refine r_iload c327_36 rfl rfl ?_
      refine r_iload c327_38 rfl rfl ?_
      refine r_ic_ge c327_40 rfl (by first | exact q_w32_id (by omega) (by omega) | exact q_w32w _ | exact rfl) (by first | exact q_w32_id (by omega) (by omega) | exact q_w32w _ | exact rfl) ?_ ?_
      · intro b5
        refine q_R.wk (ks := [8, 7, 6, 0, 1, 2, 3, 4]) (lo' := [(8, _), (7, _), (6, _), (0, _), (1, _), (2, _), (3, _), (4, _)]) rfl ?_
        exact hx81 (by repeat (first | exact q_Gr.rf | refine q_Gr.ud ?_ (by omega) (by first | assumption | rfl) rfl (by first | exact ⟨fun h9 => absurd h9 (by decide), fun h9 => absurd h9 (by decide)⟩ | (constructor <;> (intro h9; omega))) | refine q_Gr.udz ?_ (by omega) (by first | assumption | decide | omega) (by first | exact ⟨fun h9 => absurd h9 (by decide), fun h9 => absurd h9 (by decide)⟩ | (constructor <;> (intro h9; omega))) | refine q_Gr.tr ?_ (by assumption) (by intro k9 j9 hk9; omega)))
      · intro b5
        refine r_aload_n c327_43 rfl rfl ?_
        refine r_iload_n c327_44 rfl rfl ?_
        refine r_iload_n c327_45 rfl rfl ?_
        refine r_vcG c327_46 (by first | assumption | omega) (by decide) (by first | assumption | rfl) rfl rfl rfl (k340 hG (q_Gr.bz (S := fun k j => k = 140 ∧ (j = 5 ∨ (26 ≤ j ∧ j ≤ 61 ∧ ¬(47 ≤ j ∧ j ≤ 49)))) hZ (by repeat (first | exact q_Gr.rf | refine q_Gr.ud ?_ (by omega) (by first | assumption | rfl) rfl (by first | exact ⟨fun h9 => absurd h9 (by decide), fun h9 => absurd h9 (by decide)⟩ | (constructor <;> (intro h9; omega))) | refine q_Gr.udz ?_ (by omega) (by first | assumption | decide | omega) (by first | exact ⟨fun h9 => absurd h9 (by decide), fun h9 => absurd h9 (by decide)⟩ | (constructor <;> (intro h9; omega))) | refine q_Gr.tr ?_ (by assumption) (by intro k9 j9 hk9; omega)))) (q_Gr.rb (S := fun k j => k = 140 ∧ (j = 5 ∨ (26 ≤ j ∧ j ≤ 61 ∧ ¬(47 ≤ j ∧ j ≤ 49)))) hR (by repeat (first | exact q_Gr.rf | refine q_Gr.ud ?_ (by omega) (by first | assumption | rfl) rfl (by first | exact ⟨fun h9 => absurd h9 (by decide), fun h9 => absurd h9 (by decide)⟩ | (constructor <;> (intro h9; omega))) | refine q_Gr.udz ?_ (by omega) (by first | assumption | decide | omega) (by first | exact ⟨fun h9 => absurd h9 (by decide), fun h9 => absurd h9 (by decide)⟩ | (constructor <;> (intro h9; omega))) | refine q_Gr.tr ?_ (by assumption) (by intro k9 j9 hk9; omega)))) (by first | assumption | omega)) ?_
        intro t6 w6 g6 p6
        obtain ⟨rfl, ⟨z6, rfl, hz6⟩, e6⟩ := p6
        refine Or.inr (Or.inl ⟨rfl, ?_⟩)
        refine r_if_ne c327_49 rfl (by first | exact q_w32_id (by omega) (by omega) | exact q_w32w _ | exact rfl) ?_ ?_
        · intro b7
          refine r_iconst c327_57 rfl ?_
          refine r_goto c327_58 ?_
          refine r_istore c327_62 (lo' := [(8, _), (7, _), (6, _), (0, _), (1, _), (2, _), (3, _), (4, _)]) rfl rfl rfl ?_
          refine r_aload_n c327_64 rfl rfl ?_
          refine r_getr c327_65 (by first | assumption | omega) (by decide) (by first | assumption | rfl) rfl rfl ?_
          refine r_iconst c327_68 rfl ?_
          refine r_dup2 c327_69 rfl rfl rfl ?_
          refine r_laldw (q_Gr.rb (S := fun k j => k = 140 ∧ (j = 5 ∨ (26 ≤ j ∧ j ≤ 61 ∧ ¬(47 ≤ j ∧ j ≤ 49)))) hR (by repeat (first | exact q_Gr.rf | refine q_Gr.ud ?_ (by omega) (by first | assumption | rfl) rfl (by first | exact ⟨fun h9 => absurd h9 (by decide), fun h9 => absurd h9 (by decide)⟩ | (constructor <;> (intro h9; omega))) | refine q_Gr.udz ?_ (by omega) (by first | assumption | decide | omega) (by first | exact ⟨fun h9 => absurd h9 (by decide), fun h9 => absurd h9 (by decide)⟩ | (constructor <;> (intro h9; omega))) | refine q_Gr.tr ?_ (by assumption) (by intro k9 j9 hk9; omega)))) c327_70 (show q_w32 (5) = 5 from rfl) (by first | assumption | omega) (by first | assumption | omega) rfl ?_
          intro y8
          refine r_lload c327_71 rfl rfl ?_
          refine r_ladd c327_73 rfl rfl ?_
          refine r_last c327_74 (by first | assumption | omega) (by decide) (by first | assumption | rfl) (by first | assumption | decide) (show q_w32 (5) = 5 from rfl) (by first | assumption | omega) (by first | assumption | omega) rfl ?_
          refine r_iinc c327_75 rfl (by first | exact q_w32_id (by omega) (by omega) | exact q_w32w _ | exact rfl) (lo' := [(7, _), (8, _), (6, _), (0, _), (1, _), (2, _), (3, _), (4, _)]) rfl rfl rfl ?_
          refine r_goto c327_78 ?_
          refine q_R.wk (ks := [8, 7, 6, 0, 1, 2, 3, 4]) (lo' := [(8, _), (7, _), (6, _), (0, _), (1, _), (2, _), (3, _), (4, _)]) rfl ?_
          exact ih (by first | omega | exact ⟨q_rg1 _, q_rg2 _⟩) (by repeat (first | exact q_Gr.rf | refine q_Gr.ud ?_ (by omega) (by first | assumption | rfl) rfl (by first | exact ⟨fun h9 => absurd h9 (by decide), fun h9 => absurd h9 (by decide)⟩ | (constructor <;> (intro h9; omega))) | refine q_Gr.udz ?_ (by omega) (by first | assumption | decide | omega) (by first | exact ⟨fun h9 => absurd h9 (by decide), fun h9 => absurd h9 (by decide)⟩ | (constructor <;> (intro h9; omega))) | refine q_Gr.tr ?_ (by assumption) (by intro k9 j9 hk9; omega))) (by omega)
        · intro b7
          refine r_iload c327_52 rfl rfl ?_
          refine r_if_eq c327_54 rfl (by first | exact q_w32_id (by omega) (by omega) | exact q_w32w _ | exact rfl) ?_ ?_
          · intro b9
            refine r_iconst c327_61 rfl ?_
            refine r_istore c327_62 (lo' := [(8, _), (7, _), (6, _), (0, _), (1, _), (2, _), (3, _), (4, _)]) rfl rfl rfl ?_
            refine r_aload_n c327_64 rfl rfl ?_
            refine r_getr c327_65 (by first | assumption | omega) (by decide) (by first | assumption | rfl) rfl rfl ?_
            refine r_iconst c327_68 rfl ?_
            refine r_dup2 c327_69 rfl rfl rfl ?_
            refine r_laldw (q_Gr.rb (S := fun k j => k = 140 ∧ (j = 5 ∨ (26 ≤ j ∧ j ≤ 61 ∧ ¬(47 ≤ j ∧ j ≤ 49)))) hR (by repeat (first | exact q_Gr.rf | refine q_Gr.ud ?_ (by omega) (by first | assumption | rfl) rfl (by first | exact ⟨fun h9 => absurd h9 (by decide), fun h9 => absurd h9 (by decide)⟩ | (constructor <;> (intro h9; omega))) | refine q_Gr.udz ?_ (by omega) (by first | assumption | decide | omega) (by first | exact ⟨fun h9 => absurd h9 (by decide), fun h9 => absurd h9 (by decide)⟩ | (constructor <;> (intro h9; omega))) | refine q_Gr.tr ?_ (by assumption) (by intro k9 j9 hk9; omega)))) c327_70 (show q_w32 (5) = 5 from rfl) (by first | assumption | omega) (by first | assumption | omega) rfl ?_
            intro y10
            refine r_lload c327_71 rfl rfl ?_
            refine r_ladd c327_73 rfl rfl ?_
            refine r_last c327_74 (by first | assumption | omega) (by decide) (by first | assumption | rfl) (by first | assumption | decide) (show q_w32 (5) = 5 from rfl) (by first | assumption | omega) (by first | assumption | omega) rfl ?_
            refine r_iinc c327_75 rfl (by first | exact q_w32_id (by omega) (by omega) | exact q_w32w _ | exact rfl) (lo' := [(7, _), (8, _), (6, _), (0, _), (1, _), (2, _), (3, _), (4, _)]) rfl rfl rfl ?_
            refine r_goto c327_78 ?_
            refine q_R.wk (ks := [8, 7, 6, 0, 1, 2, 3, 4]) (lo' := [(8, _), (7, _), (6, _), (0, _), (1, _), (2, _), (3, _), (4, _)]) rfl ?_
            exact ih (by first | omega | exact ⟨q_rg1 _, q_rg2 _⟩) (by repeat (first | exact q_Gr.rf | refine q_Gr.ud ?_ (by omega) (by first | assumption | rfl) rfl (by first | exact ⟨fun h9 => absurd h9 (by decide), fun h9 => absurd h9 (by decide)⟩ | (constructor <;> (intro h9; omega))) | refine q_Gr.udz ?_ (by omega) (by first | assumption | decide | omega) (by first | exact ⟨fun h9 => absurd h9 (by decide), fun h9 => absurd h9 (by decide)⟩ | (constructor <;> (intro h9; omega))) | refine q_Gr.tr ?_ (by assumption) (by intro k9 j9 hk9; omega))) (by omega)
          · intro b9
            refine r_iconst c327_57 rfl ?_
            refine r_goto c327_58 ?_
            refine r_istore c327_62 (lo' := [(8, _), (7, _), (6, _), (0, _), (1, _), (2, _), (3, _), (4, _)]) rfl rfl rfl ?_
            refine r_aload_n c327_64 rfl rfl ?_
            refine r_getr c327_65 (by first | assumption | omega) (by decide) (by first | assumption | rfl) rfl rfl ?_
            refine r_iconst c327_68 rfl ?_
            refine r_dup2 c327_69 rfl rfl rfl ?_
            refine r_laldw (q_Gr.rb (S := fun k j => k = 140 ∧ (j = 5 ∨ (26 ≤ j ∧ j ≤ 61 ∧ ¬(47 ≤ j ∧ j ≤ 49)))) hR (by repeat (first | exact q_Gr.rf | refine q_Gr.ud ?_ (by omega) (by first | assumption | rfl) rfl (by first | exact ⟨fun h9 => absurd h9 (by decide), fun h9 => absurd h9 (by decide)⟩ | (constructor <;> (intro h9; omega))) | refine q_Gr.udz ?_ (by omega) (by first | assumption | decide | omega) (by first | exact ⟨fun h9 => absurd h9 (by decide), fun h9 => absurd h9 (by decide)⟩ | (constructor <;> (intro h9; omega))) | refine q_Gr.tr ?_ (by assumption) (by intro k9 j9 hk9; omega)))) c327_70 (show q_w32 (5) = 5 from rfl) (by first | assumption | omega) (by first | assumption | omega) rfl ?_
            intro y11
            refine r_lload c327_71 rfl rfl ?_
            refine r_ladd c327_73 rfl rfl ?_
            refine r_last c327_74 (by first | assumption | omega) (by decide) (by first | assumption | rfl) (by first | assumption | decide) (show q_w32 (5) = 5 from rfl) (by first | assumption | omega) (by first | assumption | omega) rfl ?_
            refine r_iinc c327_75 rfl (by first | exact q_w32_id (by omega) (by omega) | exact q_w32w _ | exact rfl) (lo' := [(7, _), (8, _), (6, _), (0, _), (1, _), (2, _), (3, _), (4, _)]) rfl rfl rfl ?_
            refine r_goto c327_78 ?_
            refine q_R.wk (ks := [8, 7, 6, 0, 1, 2, 3, 4]) (lo' := [(8, _), (7, _), (6, _), (0, _), (1, _), (2, _), (3, _), (4, _)]) rfl ?_
            exact ih (by first | omega | exact ⟨q_rg1 _, q_rg2 _⟩) (by repeat (first | exact q_Gr.rf | refine q_Gr.ud ?_ (by omega) (by first | assumption | rfl) rfl (by first | exact ⟨fun h9 => absurd h9 (by decide), fun h9 => absurd h9 (by decide)⟩ | (constructor <;> (intro h9; omega))) | refine q_Gr.udz ?_ (by omega) (by first | assumption | decide | omega) (by first | exact ⟨fun h9 => absurd h9 (by decide), fun h9 => absurd h9 (by decide)⟩ | (constructor <;> (intro h9; omega))) | refine q_Gr.tr ?_ (by assumption) (by intro k9 j9 hk9; omega))) (by omega)

theorem k327 {Γ : q_Γ} (hG : q_GG Γ) {h : q_F} (hZ : q_Bz h) (hR : q_Rb h) {v1 : Int} {v2 : Int} {v3 : Int} {v4 : Int} (hz2 : v2 = 0 ∨ v2 = 1) (hp0 : 0 ≤ v1 ∧ v1 < 3) :
    q_M Γ q_K 155 327 [(2, Int.ofNat 139), (0, v1), (0, v2), (0, v3), (1, v4)] h (fun t w h' => (t = 1 ∧ (∃ z, w = ((0, z) : q_V)) ∧ q_Gr (fun k j => k = 140 ∧ (j = 5 ∨ (26 ≤ j ∧ j ≤ 61 ∧ ¬(47 ≤ j ∧ j ≤ 49)))) h h')) := by
  refine q_M.of (by decide) (Nat.le_of_ble_eq_true rfl) hG ?_
  refine r_aload_n c327_0 rfl rfl ?_
  refine r_bipush c327_1 rfl ?_
  refine r_iload_n c327_3 rfl rfl ?_
  refine r_iadd c327_4 (by first | exact q_w32_id (by omega) (by omega) | exact q_w32w _ | exact rfl) rfl ?_
  refine r_vcG c327_5 (by first | assumption | omega) (by decide) (by first | assumption | rfl) rfl rfl rfl (k303 hG (q_Gr.bz (S := fun k j => k = 140 ∧ (j = 5 ∨ (26 ≤ j ∧ j ≤ 61 ∧ ¬(47 ≤ j ∧ j ≤ 49)))) hZ (by repeat (first | exact q_Gr.rf | refine q_Gr.ud ?_ (by omega) (by first | assumption | rfl) rfl (by first | exact ⟨fun h9 => absurd h9 (by decide), fun h9 => absurd h9 (by decide)⟩ | (constructor <;> (intro h9; omega))) | refine q_Gr.udz ?_ (by omega) (by first | assumption | decide | omega) (by first | exact ⟨fun h9 => absurd h9 (by decide), fun h9 => absurd h9 (by decide)⟩ | (constructor <;> (intro h9; omega))) | refine q_Gr.tr ?_ (by assumption) (by intro k9 j9 hk9; omega)))) (q_Gr.rb (S := fun k j => k = 140 ∧ (j = 5 ∨ (26 ≤ j ∧ j ≤ 61 ∧ ¬(47 ≤ j ∧ j ≤ 49)))) hR (by repeat (first | exact q_Gr.rf | refine q_Gr.ud ?_ (by omega) (by first | assumption | rfl) rfl (by first | exact ⟨fun h9 => absurd h9 (by decide), fun h9 => absurd h9 (by decide)⟩ | (constructor <;> (intro h9; omega))) | refine q_Gr.udz ?_ (by omega) (by first | assumption | decide | omega) (by first | exact ⟨fun h9 => absurd h9 (by decide), fun h9 => absurd h9 (by decide)⟩ | (constructor <;> (intro h9; omega))) | refine q_Gr.tr ?_ (by assumption) (by intro k9 j9 hk9; omega)))) (by first | assumption | omega)) ?_
  intro t1 w1 g1 p1
  obtain ⟨rfl, ⟨z1, rfl, hs1⟩, rfl⟩ := p1
  refine Or.inr (Or.inl ⟨rfl, ?_⟩)
  refine r_aload_n c327_8 rfl rfl ?_
  refine r_bipush c327_9 rfl ?_
  refine r_iload_n c327_11 rfl rfl ?_
  refine r_iadd c327_12 (by first | exact q_w32_id (by omega) (by omega) | exact q_w32w _ | exact rfl) rfl ?_
  refine r_vcG c327_13 (by first | assumption | omega) (by decide) (by first | assumption | rfl) rfl rfl rfl (k303 hG (q_Gr.bz (S := fun k j => k = 140 ∧ (j = 5 ∨ (26 ≤ j ∧ j ≤ 61 ∧ ¬(47 ≤ j ∧ j ≤ 49)))) hZ (by repeat (first | exact q_Gr.rf | refine q_Gr.ud ?_ (by omega) (by first | assumption | rfl) rfl (by first | exact ⟨fun h9 => absurd h9 (by decide), fun h9 => absurd h9 (by decide)⟩ | (constructor <;> (intro h9; omega))) | refine q_Gr.udz ?_ (by omega) (by first | assumption | decide | omega) (by first | exact ⟨fun h9 => absurd h9 (by decide), fun h9 => absurd h9 (by decide)⟩ | (constructor <;> (intro h9; omega))) | refine q_Gr.tr ?_ (by assumption) (by intro k9 j9 hk9; omega)))) (q_Gr.rb (S := fun k j => k = 140 ∧ (j = 5 ∨ (26 ≤ j ∧ j ≤ 61 ∧ ¬(47 ≤ j ∧ j ≤ 49)))) hR (by repeat (first | exact q_Gr.rf | refine q_Gr.ud ?_ (by omega) (by first | assumption | rfl) rfl (by first | exact ⟨fun h9 => absurd h9 (by decide), fun h9 => absurd h9 (by decide)⟩ | (constructor <;> (intro h9; omega))) | refine q_Gr.udz ?_ (by omega) (by first | assumption | decide | omega) (by first | exact ⟨fun h9 => absurd h9 (by decide), fun h9 => absurd h9 (by decide)⟩ | (constructor <;> (intro h9; omega))) | refine q_Gr.tr ?_ (by assumption) (by intro k9 j9 hk9; omega)))) (by first | assumption | omega)) ?_
  intro t2 w2 g2 p2
  obtain ⟨rfl, ⟨z2, rfl, hs2⟩, rfl⟩ := p2
  refine Or.inr (Or.inl ⟨rfl, ?_⟩)
  refine r_iadd c327_16 (by first | exact q_w32_id (by omega) (by omega) | exact q_w32w _ | exact rfl) rfl ?_
  refine r_iconst c327_17 rfl ?_
  refine r_iadd c327_18 (by first | exact q_w32_id (by omega) (by omega) | exact q_w32w _ | exact rfl) rfl ?_
  refine r_istore c327_19 (lo' := [(6, _), (0, _), (1, _), (2, _), (3, _), (4, _)]) rfl rfl rfl ?_
  refine r_iconst c327_21 rfl ?_
  refine r_istore c327_22 (lo' := [(7, _), (6, _), (0, _), (1, _), (2, _), (3, _), (4, _)]) rfl rfl rfl ?_
  refine r_iconst c327_24 rfl ?_
  refine r_istore c327_25 (lo' := [(8, _), (7, _), (6, _), (0, _), (1, _), (2, _), (3, _), (4, _)]) rfl rfl rfl ?_
  refine q_R.wk (ks := [8, 7, 6, 0, 1, 2, 3, 4]) (lo' := [(8, _), (7, _), (6, _), (0, _), (1, _), (2, _), (3, _), (4, _)]) rfl ?_
  refine l327_27 (v1 := v1) (v2 := v2) (v3 := v3) (v4 := v4) hG hZ hR hz2 hp0 ?_ 4294967298 (by first | omega | exact ⟨q_rg1 _, q_rg2 _⟩) (by repeat (first | exact q_Gr.rf | refine q_Gr.ud ?_ (by omega) (by first | assumption | rfl) rfl (by first | exact ⟨fun h9 => absurd h9 (by decide), fun h9 => absurd h9 (by decide)⟩ | (constructor <;> (intro h9; omega))) | refine q_Gr.udz ?_ (by omega) (by first | assumption | decide | omega) (by first | exact ⟨fun h9 => absurd h9 (by decide), fun h9 => absurd h9 (by decide)⟩ | (constructor <;> (intro h9; omega))) | refine q_Gr.tr ?_ (by assumption) (by intro k9 j9 hk9; omega))) (q_mu (by first | omega | exact ⟨q_rg1 _, q_rg2 _⟩))
  · intro u8_3 u7_3 g3 f3
    refine r_aload_n c327_81 rfl rfl ?_
    refine r_iload_n c327_82 rfl rfl ?_
    refine r_vcG c327_83 (by first | assumption | omega) (by decide) (by first | assumption | rfl) rfl rfl rfl (k318 hG (q_Gr.bz (S := fun k j => k = 140 ∧ (j = 5 ∨ (26 ≤ j ∧ j ≤ 61 ∧ ¬(47 ≤ j ∧ j ≤ 49)))) hZ (by repeat (first | exact q_Gr.rf | refine q_Gr.ud ?_ (by omega) (by first | assumption | rfl) rfl (by first | exact ⟨fun h9 => absurd h9 (by decide), fun h9 => absurd h9 (by decide)⟩ | (constructor <;> (intro h9; omega))) | refine q_Gr.udz ?_ (by omega) (by first | assumption | decide | omega) (by first | exact ⟨fun h9 => absurd h9 (by decide), fun h9 => absurd h9 (by decide)⟩ | (constructor <;> (intro h9; omega))) | refine q_Gr.tr ?_ (by assumption) (by intro k9 j9 hk9; omega)))) (q_Gr.rb (S := fun k j => k = 140 ∧ (j = 5 ∨ (26 ≤ j ∧ j ≤ 61 ∧ ¬(47 ≤ j ∧ j ≤ 49)))) hR (by repeat (first | exact q_Gr.rf | refine q_Gr.ud ?_ (by omega) (by first | assumption | rfl) rfl (by first | exact ⟨fun h9 => absurd h9 (by decide), fun h9 => absurd h9 (by decide)⟩ | (constructor <;> (intro h9; omega))) | refine q_Gr.udz ?_ (by omega) (by first | assumption | decide | omega) (by first | exact ⟨fun h9 => absurd h9 (by decide), fun h9 => absurd h9 (by decide)⟩ | (constructor <;> (intro h9; omega))) | refine q_Gr.tr ?_ (by assumption) (by intro k9 j9 hk9; omega)))) (by first | assumption | omega)) ?_
    intro t4 w4 g4 p4
    obtain ⟨rfl, ⟨z4, rfl, hz4⟩, rfl⟩ := p4
    refine Or.inr (Or.inl ⟨rfl, ?_⟩)
    refine r_iload_n c327_86 rfl rfl ?_
    refine r_ic_ne c327_87 rfl (by first | exact q_w32_id (by omega) (by omega) | exact q_w32w _ | exact rfl) (by first | exact q_w32_id (by omega) (by omega) | exact q_w32w _ | exact rfl) ?_ ?_
    · intro b5
      refine r_iconst c327_95 rfl ?_
      exact r_iret c327_96 ⟨rfl, rfl, rfl⟩ ⟨rfl, ⟨_, rfl⟩, (by repeat (first | exact q_Gr.rf | refine q_Gr.ud ?_ (by omega) (by first | assumption | rfl) rfl (by first | exact ⟨fun h9 => absurd h9 (by decide), fun h9 => absurd h9 (by decide)⟩ | (constructor <;> (intro h9; omega))) | refine q_Gr.udz ?_ (by omega) (by first | assumption | decide | omega) (by first | exact ⟨fun h9 => absurd h9 (by decide), fun h9 => absurd h9 (by decide)⟩ | (constructor <;> (intro h9; omega))) | refine q_Gr.tr ?_ (by assumption) (by intro k9 j9 hk9; omega)))⟩
    · intro b5
      refine r_iload c327_90 rfl rfl ?_
      refine r_goto c327_92 ?_
      exact r_iret c327_96 ⟨rfl, rfl, rfl⟩ ⟨rfl, ⟨_, rfl⟩, (by repeat (first | exact q_Gr.rf | refine q_Gr.ud ?_ (by omega) (by first | assumption | rfl) rfl (by first | exact ⟨fun h9 => absurd h9 (by decide), fun h9 => absurd h9 (by decide)⟩ | (constructor <;> (intro h9; omega))) | refine q_Gr.udz ?_ (by omega) (by first | assumption | decide | omega) (by first | exact ⟨fun h9 => absurd h9 (by decide), fun h9 => absurd h9 (by decide)⟩ | (constructor <;> (intro h9; omega))) | refine q_Gr.tr ?_ (by assumption) (by intro k9 j9 hk9; omega)))⟩
theorem c266_0 : q_cat 266 0 (.aload_n 0) 1 0 0 (0) := ⟨rfl, rfl⟩
theorem c266_1 : q_cat 266 1 (.getfield 7) 3 9 0 (3) := ⟨rfl, rfl⟩
theorem c266_4 : q_cat 266 4 (.bipush 41) 2 0 0 (0) := ⟨rfl, rfl⟩
theorem c266_6 : q_cat 266 6 (.iload_n 1) 1 1 0 (0) := ⟨rfl, rfl⟩
theorem c266_7 : q_cat 266 7 (.iadd) 1 0 0 (0) := ⟨rfl, rfl⟩
theorem c266_8 : q_cat 266 8 (.lconst 0) 1 0 0 (0) := ⟨rfl, rfl⟩
theorem c266_9 : q_cat 266 9 (.lastore) 1 0 0 (0) := ⟨rfl, rfl⟩
theorem c266_10 : q_cat 266 10 (.aload_n 0) 1 0 0 (0) := ⟨rfl, rfl⟩
theorem c266_11 : q_cat 266 11 (.iload_n 1) 1 1 0 (0) := ⟨rfl, rfl⟩
theorem c266_12 : q_cat 266 12 (.iconst 1) 1 0 0 (0) := ⟨rfl, rfl⟩
theorem c266_13 : q_cat 266 13 (.iconst (-1)) 1 0 0 (0) := ⟨rfl, rfl⟩
theorem c266_14 : q_cat 266 14 (.aload_n 0) 1 0 0 (0) := ⟨rfl, rfl⟩
theorem c266_15 : q_cat 266 15 (.invokevirtual 94) 3 335 0 (0) := ⟨rfl, rfl⟩
theorem c266_18 : q_cat 266 18 (.invokevirtual 98) 3 327 0 (0) := ⟨rfl, rfl⟩
theorem c266_21 : q_cat 266 21 (.istore_n 2) 1 2 0 (0) := ⟨rfl, rfl⟩
theorem c266_22 : q_cat 266 22 (.iload_n 2) 1 2 0 (0) := ⟨rfl, rfl⟩
theorem c266_23 : q_cat 266 23 (.iconst (-1)) 1 0 0 (0) := ⟨rfl, rfl⟩
theorem c266_24 : q_cat 266 24 (.if_icmp .ne 7) 3 31 0 (0) := ⟨rfl, rfl⟩
theorem c266_27 : q_cat 266 27 (.iconst (-1)) 1 0 0 (0) := ⟨rfl, rfl⟩
theorem c266_28 : q_cat 266 28 (.goto 18) 3 46 0 (0) := ⟨rfl, rfl⟩
theorem c266_31 : q_cat 266 31 (.aload_n 0) 1 0 0 (0) := ⟨rfl, rfl⟩
theorem c266_32 : q_cat 266 32 (.iload_n 1) 1 1 0 (0) := ⟨rfl, rfl⟩
theorem c266_33 : q_cat 266 33 (.iconst 0) 1 0 0 (0) := ⟨rfl, rfl⟩
theorem c266_34 : q_cat 266 34 (.iconst 1) 1 0 0 (0) := ⟨rfl, rfl⟩
theorem c266_35 : q_cat 266 35 (.ldc2_w 102) 3 0 0 (4) := ⟨rfl, rfl⟩
theorem c266_38 : q_cat 266 38 (.aload_n 0) 1 0 0 (0) := ⟨rfl, rfl⟩
theorem c266_39 : q_cat 266 39 (.invokevirtual 94) 3 335 0 (0) := ⟨rfl, rfl⟩
theorem c266_42 : q_cat 266 42 (.lmul) 1 0 0 (0) := ⟨rfl, rfl⟩
theorem c266_43 : q_cat 266 43 (.invokevirtual 98) 3 327 0 (0) := ⟨rfl, rfl⟩
theorem c266_46 : q_cat 266 46 (.istore_n 3) 1 3 0 (0) := ⟨rfl, rfl⟩
theorem c266_47 : q_cat 266 47 (.iload_n 3) 1 3 0 (0) := ⟨rfl, rfl⟩
theorem c266_48 : q_cat 266 48 (.iconst (-1)) 1 0 0 (0) := ⟨rfl, rfl⟩
theorem c266_49 : q_cat 266 49 (.if_icmp .ne 36) 3 85 0 (0) := ⟨rfl, rfl⟩
theorem c266_52 : q_cat 266 52 (.aload_n 0) 1 0 0 (0) := ⟨rfl, rfl⟩
theorem c266_53 : q_cat 266 53 (.getfield 7) 3 9 0 (3) := ⟨rfl, rfl⟩
theorem c266_56 : q_cat 266 56 (.iconst 3) 1 0 0 (0) := ⟨rfl, rfl⟩
theorem c266_57 : q_cat 266 57 (.iload_n 2) 1 2 0 (0) := ⟨rfl, rfl⟩
theorem c266_58 : q_cat 266 58 (.iconst (-1)) 1 0 0 (0) := ⟨rfl, rfl⟩
theorem c266_59 : q_cat 266 59 (.if_icmp .ne 7) 3 66 0 (0) := ⟨rfl, rfl⟩
theorem c266_62 : q_cat 266 62 (.lconst 1) 1 0 0 (1) := ⟨rfl, rfl⟩
theorem c266_63 : q_cat 266 63 (.goto 6) 3 69 0 (0) := ⟨rfl, rfl⟩
theorem c266_66 : q_cat 266 66 (.ldc2_w 71) 3 0 0 (2) := ⟨rfl, rfl⟩
theorem c266_69 : q_cat 266 69 (.lastore) 1 0 0 (0) := ⟨rfl, rfl⟩
theorem c266_70 : q_cat 266 70 (.aload_n 0) 1 0 0 (0) := ⟨rfl, rfl⟩
theorem c266_71 : q_cat 266 71 (.getfield 7) 3 9 0 (3) := ⟨rfl, rfl⟩
theorem c266_74 : q_cat 266 74 (.bipush 68) 2 0 0 (0) := ⟨rfl, rfl⟩
theorem c266_76 : q_cat 266 76 (.iload_n 1) 1 1 0 (0) := ⟨rfl, rfl⟩
theorem c266_77 : q_cat 266 77 (.iadd) 1 0 0 (0) := ⟨rfl, rfl⟩
theorem c266_78 : q_cat 266 78 (.dup2) 1 0 0 (0) := ⟨rfl, rfl⟩
theorem c266_79 : q_cat 266 79 (.laload) 1 0 0 (0) := ⟨rfl, rfl⟩
theorem c266_80 : q_cat 266 80 (.lconst 1) 1 0 0 (1) := ⟨rfl, rfl⟩
theorem c266_81 : q_cat 266 81 (.ladd) 1 0 0 (0) := ⟨rfl, rfl⟩
theorem c266_82 : q_cat 266 82 (.lastore) 1 0 0 (0) := ⟨rfl, rfl⟩
theorem c266_83 : q_cat 266 83 (.iconst (-1)) 1 0 0 (0) := ⟨rfl, rfl⟩
theorem c266_84 : q_cat 266 84 (.ireturn) 1 0 0 (0) := ⟨rfl, rfl⟩
theorem c266_85 : q_cat 266 85 (.aload_n 0) 1 0 0 (0) := ⟨rfl, rfl⟩
theorem c266_86 : q_cat 266 86 (.getfield 7) 3 9 0 (3) := ⟨rfl, rfl⟩
theorem c266_89 : q_cat 266 89 (.bipush 41) 2 0 0 (0) := ⟨rfl, rfl⟩
theorem c266_91 : q_cat 266 91 (.iload_n 1) 1 1 0 (0) := ⟨rfl, rfl⟩
theorem c266_92 : q_cat 266 92 (.iadd) 1 0 0 (0) := ⟨rfl, rfl⟩
theorem c266_93 : q_cat 266 93 (.lconst 1) 1 0 0 (1) := ⟨rfl, rfl⟩
theorem c266_94 : q_cat 266 94 (.lastore) 1 0 0 (0) := ⟨rfl, rfl⟩
theorem c266_95 : q_cat 266 95 (.aload_n 0) 1 0 0 (0) := ⟨rfl, rfl⟩
theorem c266_96 : q_cat 266 96 (.getfield 7) 3 9 0 (3) := ⟨rfl, rfl⟩
theorem c266_99 : q_cat 266 99 (.bipush 47) 2 0 0 (0) := ⟨rfl, rfl⟩
theorem c266_101 : q_cat 266 101 (.iload_n 1) 1 1 0 (0) := ⟨rfl, rfl⟩
theorem c266_102 : q_cat 266 102 (.iadd) 1 0 0 (0) := ⟨rfl, rfl⟩
theorem c266_103 : q_cat 266 103 (.lconst 0) 1 0 0 (0) := ⟨rfl, rfl⟩
theorem c266_104 : q_cat 266 104 (.lastore) 1 0 0 (0) := ⟨rfl, rfl⟩
theorem c266_105 : q_cat 266 105 (.aload_n 0) 1 0 0 (0) := ⟨rfl, rfl⟩
theorem c266_106 : q_cat 266 106 (.getfield 7) 3 9 0 (3) := ⟨rfl, rfl⟩
theorem c266_109 : q_cat 266 109 (.bipush 50) 2 0 0 (0) := ⟨rfl, rfl⟩
theorem c266_111 : q_cat 266 111 (.iload_n 1) 1 1 0 (0) := ⟨rfl, rfl⟩
theorem c266_112 : q_cat 266 112 (.iadd) 1 0 0 (0) := ⟨rfl, rfl⟩
theorem c266_113 : q_cat 266 113 (.aload_n 0) 1 0 0 (0) := ⟨rfl, rfl⟩
theorem c266_114 : q_cat 266 114 (.getfield 7) 3 9 0 (3) := ⟨rfl, rfl⟩
theorem c266_117 : q_cat 266 117 (.bipush 26) 2 0 0 (0) := ⟨rfl, rfl⟩
theorem c266_119 : q_cat 266 119 (.iload_n 1) 1 1 0 (0) := ⟨rfl, rfl⟩
theorem c266_120 : q_cat 266 120 (.iadd) 1 0 0 (0) := ⟨rfl, rfl⟩
theorem c266_121 : q_cat 266 121 (.laload) 1 0 0 (0) := ⟨rfl, rfl⟩
theorem c266_122 : q_cat 266 122 (.lastore) 1 0 0 (0) := ⟨rfl, rfl⟩
theorem c266_123 : q_cat 266 123 (.aload_n 0) 1 0 0 (0) := ⟨rfl, rfl⟩
theorem c266_124 : q_cat 266 124 (.getfield 7) 3 9 0 (3) := ⟨rfl, rfl⟩
theorem c266_127 : q_cat 266 127 (.bipush 65) 2 0 0 (0) := ⟨rfl, rfl⟩
theorem c266_129 : q_cat 266 129 (.iload_n 1) 1 1 0 (0) := ⟨rfl, rfl⟩
theorem c266_130 : q_cat 266 130 (.iadd) 1 0 0 (0) := ⟨rfl, rfl⟩
theorem c266_131 : q_cat 266 131 (.dup2) 1 0 0 (0) := ⟨rfl, rfl⟩
theorem c266_132 : q_cat 266 132 (.laload) 1 0 0 (0) := ⟨rfl, rfl⟩
theorem c266_133 : q_cat 266 133 (.lconst 1) 1 0 0 (1) := ⟨rfl, rfl⟩
theorem c266_134 : q_cat 266 134 (.ladd) 1 0 0 (0) := ⟨rfl, rfl⟩
theorem c266_135 : q_cat 266 135 (.lastore) 1 0 0 (0) := ⟨rfl, rfl⟩
theorem c266_136 : q_cat 266 136 (.iload_n 2) 1 2 0 (0) := ⟨rfl, rfl⟩
theorem c266_137 : q_cat 266 137 (.iload_n 3) 1 3 0 (0) := ⟨rfl, rfl⟩
theorem c266_138 : q_cat 266 138 (.iadd) 1 0 0 (0) := ⟨rfl, rfl⟩
theorem c266_139 : q_cat 266 139 (.ireturn) 1 0 0 (0) := ⟨rfl, rfl⟩
theorem k266 {Γ : q_Γ} (hG : q_GG Γ) {h : q_F} (hZ : q_Bz h) (hR : q_Rb h) {v1 : Int} (hp0 : 0 ≤ v1 ∧ v1 < 3) :
    q_M Γ q_K 155 266 [(2, Int.ofNat 139), (0, v1)] h (fun t w h' => (t = 1 ∧ (∃ z, w = ((0, z) : q_V)) ∧ q_Gr (fun k j => k = 140 ∧ (j = 3 ∨ j = 5 ∨ (26 ≤ j ∧ j ≤ 70))) h h')) := by
  refine q_M.of (by decide) (Nat.le_of_ble_eq_true rfl) hG ?_
  refine r_aload_n c266_0 rfl rfl ?_
  refine r_getr c266_1 (by first | assumption | omega) (by decide) (by first | assumption | rfl) rfl rfl ?_
  refine r_bipush c266_4 rfl ?_
  refine r_iload_n c266_6 rfl rfl ?_
  refine r_iadd c266_7 (by first | exact q_w32_id (by omega) (by omega) | exact q_w32w _ | exact rfl) rfl ?_
  refine r_lconst c266_8 rfl ?_
  refine r_last c266_9 (by first | assumption | omega) (by decide) (by first | assumption | rfl) (by first | assumption | decide) (by first | exact q_w32_id (by omega) (by omega) | exact q_w32w _ | exact rfl) (by first | assumption | omega) (by first | assumption | omega) rfl ?_
  refine r_aload_n c266_10 rfl rfl ?_
  refine r_iload_n c266_11 rfl rfl ?_
  refine r_iconst c266_12 rfl ?_
  refine r_iconst c266_13 rfl ?_
  refine r_aload_n c266_14 rfl rfl ?_
  refine r_vcG c266_15 (by first | assumption | omega) (by decide) (by first | assumption | rfl) rfl rfl rfl (k335 hG (q_Gr.bz (S := fun k j => k = 140 ∧ (j = 3 ∨ j = 5 ∨ (26 ≤ j ∧ j ≤ 70))) hZ (by repeat (first | exact q_Gr.rf | refine q_Gr.ud ?_ (by omega) (by first | assumption | rfl) rfl (by first | exact ⟨fun h9 => absurd h9 (by decide), fun h9 => absurd h9 (by decide)⟩ | (constructor <;> (intro h9; omega))) | refine q_Gr.udz ?_ (by omega) (by first | assumption | decide | omega) (by first | exact ⟨fun h9 => absurd h9 (by decide), fun h9 => absurd h9 (by decide)⟩ | (constructor <;> (intro h9; omega))) | refine q_Gr.tr ?_ (by assumption) (by intro k9 j9 hk9; omega)))) (q_Gr.rb (S := fun k j => k = 140 ∧ (j = 3 ∨ j = 5 ∨ (26 ≤ j ∧ j ≤ 70))) hR (by repeat (first | exact q_Gr.rf | refine q_Gr.ud ?_ (by omega) (by first | assumption | rfl) rfl (by first | exact ⟨fun h9 => absurd h9 (by decide), fun h9 => absurd h9 (by decide)⟩ | (constructor <;> (intro h9; omega))) | refine q_Gr.udz ?_ (by omega) (by first | assumption | decide | omega) (by first | exact ⟨fun h9 => absurd h9 (by decide), fun h9 => absurd h9 (by decide)⟩ | (constructor <;> (intro h9; omega))) | refine q_Gr.tr ?_ (by assumption) (by intro k9 j9 hk9; omega))))) ?_
  intro t1 w1 g1 p1
  obtain ⟨rfl, ⟨z1, rfl⟩, rfl⟩ := p1
  refine Or.inr (Or.inl ⟨rfl, ?_⟩)
  refine r_vcG c266_18 (by first | assumption | omega) (by decide) (by first | assumption | rfl) rfl rfl rfl (k327 hG (q_Gr.bz (S := fun k j => k = 140 ∧ (j = 3 ∨ j = 5 ∨ (26 ≤ j ∧ j ≤ 70))) hZ (by repeat (first | exact q_Gr.rf | refine q_Gr.ud ?_ (by omega) (by first | assumption | rfl) rfl (by first | exact ⟨fun h9 => absurd h9 (by decide), fun h9 => absurd h9 (by decide)⟩ | (constructor <;> (intro h9; omega))) | refine q_Gr.udz ?_ (by omega) (by first | assumption | decide | omega) (by first | exact ⟨fun h9 => absurd h9 (by decide), fun h9 => absurd h9 (by decide)⟩ | (constructor <;> (intro h9; omega))) | refine q_Gr.tr ?_ (by assumption) (by intro k9 j9 hk9; omega)))) (q_Gr.rb (S := fun k j => k = 140 ∧ (j = 3 ∨ j = 5 ∨ (26 ≤ j ∧ j ≤ 70))) hR (by repeat (first | exact q_Gr.rf | refine q_Gr.ud ?_ (by omega) (by first | assumption | rfl) rfl (by first | exact ⟨fun h9 => absurd h9 (by decide), fun h9 => absurd h9 (by decide)⟩ | (constructor <;> (intro h9; omega))) | refine q_Gr.udz ?_ (by omega) (by first | assumption | decide | omega) (by first | exact ⟨fun h9 => absurd h9 (by decide), fun h9 => absurd h9 (by decide)⟩ | (constructor <;> (intro h9; omega))) | refine q_Gr.tr ?_ (by assumption) (by intro k9 j9 hk9; omega)))) (by first | assumption | decide | omega) (by first | assumption | omega)) ?_
  intro t2 w2 g2 p2
  obtain ⟨rfl, ⟨z2, rfl⟩, e2⟩ := p2
  refine Or.inr (Or.inl ⟨rfl, ?_⟩)
  refine r_istore_n c266_21 (lo' := [(2, _), (0, _), (1, _)]) rfl rfl rfl ?_
  refine r_iload_n c266_22 rfl rfl ?_
  refine r_iconst c266_23 rfl ?_
  refine r_ic_ne c266_24 rfl (by first | exact q_w32_id (by omega) (by omega) | exact q_w32w _ | exact rfl) (show q_w32 (-1) = -1 from rfl) ?_ ?_
  · intro b3
    refine r_aload_n c266_31 rfl rfl ?_
    refine r_iload_n c266_32 rfl rfl ?_
    refine r_iconst c266_33 rfl ?_
    refine r_iconst c266_34 rfl ?_
    refine r_ldc2 c266_35 rfl rfl ?_
    refine r_aload_n c266_38 rfl rfl ?_
    refine r_vcG c266_39 (by first | assumption | omega) (by decide) (by first | assumption | rfl) rfl rfl rfl (k335 hG (q_Gr.bz (S := fun k j => k = 140 ∧ (j = 3 ∨ j = 5 ∨ (26 ≤ j ∧ j ≤ 70))) hZ (by repeat (first | exact q_Gr.rf | refine q_Gr.ud ?_ (by omega) (by first | assumption | rfl) rfl (by first | exact ⟨fun h9 => absurd h9 (by decide), fun h9 => absurd h9 (by decide)⟩ | (constructor <;> (intro h9; omega))) | refine q_Gr.udz ?_ (by omega) (by first | assumption | decide | omega) (by first | exact ⟨fun h9 => absurd h9 (by decide), fun h9 => absurd h9 (by decide)⟩ | (constructor <;> (intro h9; omega))) | refine q_Gr.tr ?_ (by assumption) (by intro k9 j9 hk9; omega)))) (q_Gr.rb (S := fun k j => k = 140 ∧ (j = 3 ∨ j = 5 ∨ (26 ≤ j ∧ j ≤ 70))) hR (by repeat (first | exact q_Gr.rf | refine q_Gr.ud ?_ (by omega) (by first | assumption | rfl) rfl (by first | exact ⟨fun h9 => absurd h9 (by decide), fun h9 => absurd h9 (by decide)⟩ | (constructor <;> (intro h9; omega))) | refine q_Gr.udz ?_ (by omega) (by first | assumption | decide | omega) (by first | exact ⟨fun h9 => absurd h9 (by decide), fun h9 => absurd h9 (by decide)⟩ | (constructor <;> (intro h9; omega))) | refine q_Gr.tr ?_ (by assumption) (by intro k9 j9 hk9; omega))))) ?_
    intro t4 w4 g4 p4
    obtain ⟨rfl, ⟨z4, rfl⟩, rfl⟩ := p4
    refine Or.inr (Or.inl ⟨rfl, ?_⟩)
    refine r_lmul c266_42 rfl rfl ?_
    refine r_vcG c266_43 (by first | assumption | omega) (by decide) (by first | assumption | rfl) rfl rfl rfl (k327 hG (q_Gr.bz (S := fun k j => k = 140 ∧ (j = 3 ∨ j = 5 ∨ (26 ≤ j ∧ j ≤ 70))) hZ (by repeat (first | exact q_Gr.rf | refine q_Gr.ud ?_ (by omega) (by first | assumption | rfl) rfl (by first | exact ⟨fun h9 => absurd h9 (by decide), fun h9 => absurd h9 (by decide)⟩ | (constructor <;> (intro h9; omega))) | refine q_Gr.udz ?_ (by omega) (by first | assumption | decide | omega) (by first | exact ⟨fun h9 => absurd h9 (by decide), fun h9 => absurd h9 (by decide)⟩ | (constructor <;> (intro h9; omega))) | refine q_Gr.tr ?_ (by assumption) (by intro k9 j9 hk9; omega)))) (q_Gr.rb (S := fun k j => k = 140 ∧ (j = 3 ∨ j = 5 ∨ (26 ≤ j ∧ j ≤ 70))) hR (by repeat (first | exact q_Gr.rf | refine q_Gr.ud ?_ (by omega) (by first | assumption | rfl) rfl (by first | exact ⟨fun h9 => absurd h9 (by decide), fun h9 => absurd h9 (by decide)⟩ | (constructor <;> (intro h9; omega))) | refine q_Gr.udz ?_ (by omega) (by first | assumption | decide | omega) (by first | exact ⟨fun h9 => absurd h9 (by decide), fun h9 => absurd h9 (by decide)⟩ | (constructor <;> (intro h9; omega))) | refine q_Gr.tr ?_ (by assumption) (by intro k9 j9 hk9; omega)))) (by first | assumption | decide | omega) (by first | assumption | omega)) ?_
    intro t5 w5 g5 p5
    obtain ⟨rfl, ⟨z5, rfl⟩, e5⟩ := p5
    refine Or.inr (Or.inl ⟨rfl, ?_⟩)
    refine r_istore_n c266_46 (lo' := [(3, _), (2, _), (0, _), (1, _)]) rfl rfl rfl ?_
    refine r_iload_n c266_47 rfl rfl ?_
    refine r_iconst c266_48 rfl ?_
    refine r_ic_ne c266_49 rfl (by first | exact q_w32_id (by omega) (by omega) | exact q_w32w _ | exact rfl) (show q_w32 (-1) = -1 from rfl) ?_ ?_
    · intro b6
      refine r_aload_n c266_85 rfl rfl ?_
      refine r_getr c266_86 (by first | assumption | omega) (by decide) (by first | assumption | rfl) rfl rfl ?_
      refine r_bipush c266_89 rfl ?_
      refine r_iload_n c266_91 rfl rfl ?_
      refine r_iadd c266_92 (by first | exact q_w32_id (by omega) (by omega) | exact q_w32w _ | exact rfl) rfl ?_
      refine r_lconst c266_93 rfl ?_
      refine r_last c266_94 (by first | assumption | omega) (by decide) (by first | assumption | rfl) (by first | assumption | decide) (by first | exact q_w32_id (by omega) (by omega) | exact q_w32w _ | exact rfl) (by first | assumption | omega) (by first | assumption | omega) rfl ?_
      refine r_aload_n c266_95 rfl rfl ?_
      refine r_getr c266_96 (by first | assumption | omega) (by decide) (by first | assumption | rfl) rfl rfl ?_
      refine r_bipush c266_99 rfl ?_
      refine r_iload_n c266_101 rfl rfl ?_
      refine r_iadd c266_102 (by first | exact q_w32_id (by omega) (by omega) | exact q_w32w _ | exact rfl) rfl ?_
      refine r_lconst c266_103 rfl ?_
      refine r_last c266_104 (by first | assumption | omega) (by decide) (by first | assumption | rfl) (by first | assumption | decide) (by first | exact q_w32_id (by omega) (by omega) | exact q_w32w _ | exact rfl) (by first | assumption | omega) (by first | assumption | omega) rfl ?_
      refine r_aload_n c266_105 rfl rfl ?_
      refine r_getr c266_106 (by first | assumption | omega) (by decide) (by first | assumption | rfl) rfl rfl ?_
      refine r_bipush c266_109 rfl ?_
      refine r_iload_n c266_111 rfl rfl ?_
      refine r_iadd c266_112 (by first | exact q_w32_id (by omega) (by omega) | exact q_w32w _ | exact rfl) rfl ?_
      refine r_aload_n c266_113 rfl rfl ?_
      refine r_getr c266_114 (by first | assumption | omega) (by decide) (by first | assumption | rfl) rfl rfl ?_
      refine r_bipush c266_117 rfl ?_
      refine r_iload_n c266_119 rfl rfl ?_
      refine r_iadd c266_120 (by first | exact q_w32_id (by omega) (by omega) | exact q_w32w _ | exact rfl) rfl ?_
      refine r_laldw (q_Gr.rb (S := fun k j => k = 140 ∧ (j = 3 ∨ j = 5 ∨ (26 ≤ j ∧ j ≤ 70))) hR (by repeat (first | exact q_Gr.rf | refine q_Gr.ud ?_ (by omega) (by first | assumption | rfl) rfl (by first | exact ⟨fun h9 => absurd h9 (by decide), fun h9 => absurd h9 (by decide)⟩ | (constructor <;> (intro h9; omega))) | refine q_Gr.udz ?_ (by omega) (by first | assumption | decide | omega) (by first | exact ⟨fun h9 => absurd h9 (by decide), fun h9 => absurd h9 (by decide)⟩ | (constructor <;> (intro h9; omega))) | refine q_Gr.tr ?_ (by assumption) (by intro k9 j9 hk9; omega)))) c266_121 (by first | exact q_w32_id (by omega) (by omega) | exact q_w32w _ | exact rfl) (by first | assumption | omega) (by first | assumption | omega) rfl ?_
      intro y7
      refine r_last c266_122 (by first | assumption | omega) (by decide) (by first | assumption | rfl) (by first | assumption | decide) (by first | exact q_w32_id (by omega) (by omega) | exact q_w32w _ | exact rfl) (by first | assumption | omega) (by first | assumption | omega) rfl ?_
      refine r_aload_n c266_123 rfl rfl ?_
      refine r_getr c266_124 (by first | assumption | omega) (by decide) (by first | assumption | rfl) rfl rfl ?_
      refine r_bipush c266_127 rfl ?_
      refine r_iload_n c266_129 rfl rfl ?_
      refine r_iadd c266_130 (by first | exact q_w32_id (by omega) (by omega) | exact q_w32w _ | exact rfl) rfl ?_
      refine r_dup2 c266_131 rfl rfl rfl ?_
      refine r_laldw (q_Gr.rb (S := fun k j => k = 140 ∧ (j = 3 ∨ j = 5 ∨ (26 ≤ j ∧ j ≤ 70))) hR (by repeat (first | exact q_Gr.rf | refine q_Gr.ud ?_ (by omega) (by first | assumption | rfl) rfl (by first | exact ⟨fun h9 => absurd h9 (by decide), fun h9 => absurd h9 (by decide)⟩ | (constructor <;> (intro h9; omega))) | refine q_Gr.udz ?_ (by omega) (by first | assumption | decide | omega) (by first | exact ⟨fun h9 => absurd h9 (by decide), fun h9 => absurd h9 (by decide)⟩ | (constructor <;> (intro h9; omega))) | refine q_Gr.tr ?_ (by assumption) (by intro k9 j9 hk9; omega)))) c266_132 (by first | exact q_w32_id (by omega) (by omega) | exact q_w32w _ | exact rfl) (by first | assumption | omega) (by first | assumption | omega) rfl ?_
      intro y8
      refine r_lconst c266_133 rfl ?_
      refine r_ladd c266_134 rfl rfl ?_
      refine r_last c266_135 (by first | assumption | omega) (by decide) (by first | assumption | rfl) (by first | assumption | decide) (by first | exact q_w32_id (by omega) (by omega) | exact q_w32w _ | exact rfl) (by first | assumption | omega) (by first | assumption | omega) rfl ?_
      refine r_iload_n c266_136 rfl rfl ?_
      refine r_iload_n c266_137 rfl rfl ?_
      refine r_iadd c266_138 (by first | exact q_w32_id (by omega) (by omega) | exact q_w32w _ | exact rfl) rfl ?_
      exact r_iret c266_139 ⟨rfl, rfl, rfl⟩ ⟨rfl, ⟨_, rfl⟩, (by repeat (first | exact q_Gr.rf | refine q_Gr.ud ?_ (by omega) (by first | assumption | rfl) rfl (by first | exact ⟨fun h9 => absurd h9 (by decide), fun h9 => absurd h9 (by decide)⟩ | (constructor <;> (intro h9; omega))) | refine q_Gr.udz ?_ (by omega) (by first | assumption | decide | omega) (by first | exact ⟨fun h9 => absurd h9 (by decide), fun h9 => absurd h9 (by decide)⟩ | (constructor <;> (intro h9; omega))) | refine q_Gr.tr ?_ (by assumption) (by intro k9 j9 hk9; omega)))⟩
    · intro b6
      refine r_aload_n c266_52 rfl rfl ?_
      refine r_getr c266_53 (by first | assumption | omega) (by decide) (by first | assumption | rfl) rfl rfl ?_
      refine r_iconst c266_56 rfl ?_
      refine r_iload_n c266_57 rfl rfl ?_
      refine r_iconst c266_58 rfl ?_
      refine r_ic_ne c266_59 rfl (by first | exact q_w32_id (by omega) (by omega) | exact q_w32w _ | exact rfl) (show q_w32 (-1) = -1 from rfl) ?_ ?_
      · intro b9
        refine r_ldc2 c266_66 rfl rfl ?_
        refine r_last c266_69 (by first | assumption | omega) (by decide) (by first | assumption | rfl) (by first | assumption | decide) (show q_w32 (3) = 3 from rfl) (by first | assumption | omega) (by first | assumption | omega) rfl ?_
        refine r_aload_n c266_70 rfl rfl ?_
        refine r_getr c266_71 (by first | assumption | omega) (by decide) (by first | assumption | rfl) rfl rfl ?_
        refine r_bipush c266_74 rfl ?_
        refine r_iload_n c266_76 rfl rfl ?_
        refine r_iadd c266_77 (by first | exact q_w32_id (by omega) (by omega) | exact q_w32w _ | exact rfl) rfl ?_
        refine r_dup2 c266_78 rfl rfl rfl ?_
        refine r_laldw (q_Gr.rb (S := fun k j => k = 140 ∧ (j = 3 ∨ j = 5 ∨ (26 ≤ j ∧ j ≤ 70))) hR (by repeat (first | exact q_Gr.rf | refine q_Gr.ud ?_ (by omega) (by first | assumption | rfl) rfl (by first | exact ⟨fun h9 => absurd h9 (by decide), fun h9 => absurd h9 (by decide)⟩ | (constructor <;> (intro h9; omega))) | refine q_Gr.udz ?_ (by omega) (by first | assumption | decide | omega) (by first | exact ⟨fun h9 => absurd h9 (by decide), fun h9 => absurd h9 (by decide)⟩ | (constructor <;> (intro h9; omega))) | refine q_Gr.tr ?_ (by assumption) (by intro k9 j9 hk9; omega)))) c266_79 (by first | exact q_w32_id (by omega) (by omega) | exact q_w32w _ | exact rfl) (by first | assumption | omega) (by first | assumption | omega) rfl ?_
        intro y10
        refine r_lconst c266_80 rfl ?_
        refine r_ladd c266_81 rfl rfl ?_
        refine r_last c266_82 (by first | assumption | omega) (by decide) (by first | assumption | rfl) (by first | assumption | decide) (by first | exact q_w32_id (by omega) (by omega) | exact q_w32w _ | exact rfl) (by first | assumption | omega) (by first | assumption | omega) rfl ?_
        refine r_iconst c266_83 rfl ?_
        exact r_iret c266_84 ⟨rfl, rfl, rfl⟩ ⟨rfl, ⟨_, rfl⟩, (by repeat (first | exact q_Gr.rf | refine q_Gr.ud ?_ (by omega) (by first | assumption | rfl) rfl (by first | exact ⟨fun h9 => absurd h9 (by decide), fun h9 => absurd h9 (by decide)⟩ | (constructor <;> (intro h9; omega))) | refine q_Gr.udz ?_ (by omega) (by first | assumption | decide | omega) (by first | exact ⟨fun h9 => absurd h9 (by decide), fun h9 => absurd h9 (by decide)⟩ | (constructor <;> (intro h9; omega))) | refine q_Gr.tr ?_ (by assumption) (by intro k9 j9 hk9; omega)))⟩
      · intro b9
        refine r_lconst c266_62 rfl ?_
        refine r_goto c266_63 ?_
        refine r_last c266_69 (by first | assumption | omega) (by decide) (by first | assumption | rfl) (by first | assumption | decide) (show q_w32 (3) = 3 from rfl) (by first | assumption | omega) (by first | assumption | omega) rfl ?_
        refine r_aload_n c266_70 rfl rfl ?_
        refine r_getr c266_71 (by first | assumption | omega) (by decide) (by first | assumption | rfl) rfl rfl ?_
        refine r_bipush c266_74 rfl ?_
        refine r_iload_n c266_76 rfl rfl ?_
        refine r_iadd c266_77 (by first | exact q_w32_id (by omega) (by omega) | exact q_w32w _ | exact rfl) rfl ?_
        refine r_dup2 c266_78 rfl rfl rfl ?_
        refine r_laldw (q_Gr.rb (S := fun k j => k = 140 ∧ (j = 3 ∨ j = 5 ∨ (26 ≤ j ∧ j ≤ 70))) hR (by repeat (first | exact q_Gr.rf | refine q_Gr.ud ?_ (by omega) (by first | assumption | rfl) rfl (by first | exact ⟨fun h9 => absurd h9 (by decide), fun h9 => absurd h9 (by decide)⟩ | (constructor <;> (intro h9; omega))) | refine q_Gr.udz ?_ (by omega) (by first | assumption | decide | omega) (by first | exact ⟨fun h9 => absurd h9 (by decide), fun h9 => absurd h9 (by decide)⟩ | (constructor <;> (intro h9; omega))) | refine q_Gr.tr ?_ (by assumption) (by intro k9 j9 hk9; omega)))) c266_79 (by first | exact q_w32_id (by omega) (by omega) | exact q_w32w _ | exact rfl) (by first | assumption | omega) (by first | assumption | omega) rfl ?_
        intro y11
        refine r_lconst c266_80 rfl ?_
        refine r_ladd c266_81 rfl rfl ?_
        refine r_last c266_82 (by first | assumption | omega) (by decide) (by first | assumption | rfl) (by first | assumption | decide) (by first | exact q_w32_id (by omega) (by omega) | exact q_w32w _ | exact rfl) (by first | assumption | omega) (by first | assumption | omega) rfl ?_
        refine r_iconst c266_83 rfl ?_
        exact r_iret c266_84 ⟨rfl, rfl, rfl⟩ ⟨rfl, ⟨_, rfl⟩, (by repeat (first | exact q_Gr.rf | refine q_Gr.ud ?_ (by omega) (by first | assumption | rfl) rfl (by first | exact ⟨fun h9 => absurd h9 (by decide), fun h9 => absurd h9 (by decide)⟩ | (constructor <;> (intro h9; omega))) | refine q_Gr.udz ?_ (by omega) (by first | assumption | decide | omega) (by first | exact ⟨fun h9 => absurd h9 (by decide), fun h9 => absurd h9 (by decide)⟩ | (constructor <;> (intro h9; omega))) | refine q_Gr.tr ?_ (by assumption) (by intro k9 j9 hk9; omega)))⟩
  · intro b3
    refine r_iconst c266_27 rfl ?_
    refine r_goto c266_28 ?_
    refine r_istore_n c266_46 (lo' := [(3, _), (2, _), (0, _), (1, _)]) rfl rfl rfl ?_
    refine r_iload_n c266_47 rfl rfl ?_
    refine r_iconst c266_48 rfl ?_
    refine r_ic_ne c266_49 rfl (show q_w32 (-1) = -1 from rfl) (show q_w32 (-1) = -1 from rfl) ?_ ?_
    · intro b12
      exact absurd b12.1 (by decide)
    · intro b12
      refine r_aload_n c266_52 rfl rfl ?_
      refine r_getr c266_53 (by first | assumption | omega) (by decide) (by first | assumption | rfl) rfl rfl ?_
      refine r_iconst c266_56 rfl ?_
      refine r_iload_n c266_57 rfl rfl ?_
      refine r_iconst c266_58 rfl ?_
      refine r_ic_ne c266_59 rfl (by first | exact q_w32_id (by omega) (by omega) | exact q_w32w _ | exact rfl) (show q_w32 (-1) = -1 from rfl) ?_ ?_
      · intro b13
        refine r_ldc2 c266_66 rfl rfl ?_
        refine r_last c266_69 (by first | assumption | omega) (by decide) (by first | assumption | rfl) (by first | assumption | decide) (show q_w32 (3) = 3 from rfl) (by first | assumption | omega) (by first | assumption | omega) rfl ?_
        refine r_aload_n c266_70 rfl rfl ?_
        refine r_getr c266_71 (by first | assumption | omega) (by decide) (by first | assumption | rfl) rfl rfl ?_
        refine r_bipush c266_74 rfl ?_
        refine r_iload_n c266_76 rfl rfl ?_
        refine r_iadd c266_77 (by first | exact q_w32_id (by omega) (by omega) | exact q_w32w _ | exact rfl) rfl ?_
        refine r_dup2 c266_78 rfl rfl rfl ?_
        refine r_laldw (q_Gr.rb (S := fun k j => k = 140 ∧ (j = 3 ∨ j = 5 ∨ (26 ≤ j ∧ j ≤ 70))) hR (by repeat (first | exact q_Gr.rf | refine q_Gr.ud ?_ (by omega) (by first | assumption | rfl) rfl (by first | exact ⟨fun h9 => absurd h9 (by decide), fun h9 => absurd h9 (by decide)⟩ | (constructor <;> (intro h9; omega))) | refine q_Gr.udz ?_ (by omega) (by first | assumption | decide | omega) (by first | exact ⟨fun h9 => absurd h9 (by decide), fun h9 => absurd h9 (by decide)⟩ | (constructor <;> (intro h9; omega))) | refine q_Gr.tr ?_ (by assumption) (by intro k9 j9 hk9; omega)))) c266_79 (by first | exact q_w32_id (by omega) (by omega) | exact q_w32w _ | exact rfl) (by first | assumption | omega) (by first | assumption | omega) rfl ?_
        intro y14
        refine r_lconst c266_80 rfl ?_
        refine r_ladd c266_81 rfl rfl ?_
        refine r_last c266_82 (by first | assumption | omega) (by decide) (by first | assumption | rfl) (by first | assumption | decide) (by first | exact q_w32_id (by omega) (by omega) | exact q_w32w _ | exact rfl) (by first | assumption | omega) (by first | assumption | omega) rfl ?_
        refine r_iconst c266_83 rfl ?_
        exact r_iret c266_84 ⟨rfl, rfl, rfl⟩ ⟨rfl, ⟨_, rfl⟩, (by repeat (first | exact q_Gr.rf | refine q_Gr.ud ?_ (by omega) (by first | assumption | rfl) rfl (by first | exact ⟨fun h9 => absurd h9 (by decide), fun h9 => absurd h9 (by decide)⟩ | (constructor <;> (intro h9; omega))) | refine q_Gr.udz ?_ (by omega) (by first | assumption | decide | omega) (by first | exact ⟨fun h9 => absurd h9 (by decide), fun h9 => absurd h9 (by decide)⟩ | (constructor <;> (intro h9; omega))) | refine q_Gr.tr ?_ (by assumption) (by intro k9 j9 hk9; omega)))⟩
      · intro b13
        refine r_lconst c266_62 rfl ?_
        refine r_goto c266_63 ?_
        refine r_last c266_69 (by first | assumption | omega) (by decide) (by first | assumption | rfl) (by first | assumption | decide) (show q_w32 (3) = 3 from rfl) (by first | assumption | omega) (by first | assumption | omega) rfl ?_
        refine r_aload_n c266_70 rfl rfl ?_
        refine r_getr c266_71 (by first | assumption | omega) (by decide) (by first | assumption | rfl) rfl rfl ?_
        refine r_bipush c266_74 rfl ?_
        refine r_iload_n c266_76 rfl rfl ?_
        refine r_iadd c266_77 (by first | exact q_w32_id (by omega) (by omega) | exact q_w32w _ | exact rfl) rfl ?_
        refine r_dup2 c266_78 rfl rfl rfl ?_
        refine r_laldw (q_Gr.rb (S := fun k j => k = 140 ∧ (j = 3 ∨ j = 5 ∨ (26 ≤ j ∧ j ≤ 70))) hR (by repeat (first | exact q_Gr.rf | refine q_Gr.ud ?_ (by omega) (by first | assumption | rfl) rfl (by first | exact ⟨fun h9 => absurd h9 (by decide), fun h9 => absurd h9 (by decide)⟩ | (constructor <;> (intro h9; omega))) | refine q_Gr.udz ?_ (by omega) (by first | assumption | decide | omega) (by first | exact ⟨fun h9 => absurd h9 (by decide), fun h9 => absurd h9 (by decide)⟩ | (constructor <;> (intro h9; omega))) | refine q_Gr.tr ?_ (by assumption) (by intro k9 j9 hk9; omega)))) c266_79 (by first | exact q_w32_id (by omega) (by omega) | exact q_w32w _ | exact rfl) (by first | assumption | omega) (by first | assumption | omega) rfl ?_
        intro y15
        refine r_lconst c266_80 rfl ?_
        refine r_ladd c266_81 rfl rfl ?_
        refine r_last c266_82 (by first | assumption | omega) (by decide) (by first | assumption | rfl) (by first | assumption | decide) (by first | exact q_w32_id (by omega) (by omega) | exact q_w32w _ | exact rfl) (by first | assumption | omega) (by first | assumption | omega) rfl ?_
        refine r_iconst c266_83 rfl ?_
        exact r_iret c266_84 ⟨rfl, rfl, rfl⟩ ⟨rfl, ⟨_, rfl⟩, (by repeat (first | exact q_Gr.rf | refine q_Gr.ud ?_ (by omega) (by first | assumption | rfl) rfl (by first | exact ⟨fun h9 => absurd h9 (by decide), fun h9 => absurd h9 (by decide)⟩ | (constructor <;> (intro h9; omega))) | refine q_Gr.udz ?_ (by omega) (by first | assumption | decide | omega) (by first | exact ⟨fun h9 => absurd h9 (by decide), fun h9 => absurd h9 (by decide)⟩ | (constructor <;> (intro h9; omega))) | refine q_Gr.tr ?_ (by assumption) (by intro k9 j9 hk9; omega)))⟩
theorem c265_0 : q_cat 265 0 (.iconst 0) 1 0 0 (0) := ⟨rfl, rfl⟩
theorem c265_1 : q_cat 265 1 (.istore_n 1) 1 1 0 (0) := ⟨rfl, rfl⟩
theorem c265_2 : q_cat 265 2 (.iconst 0) 1 0 0 (0) := ⟨rfl, rfl⟩
theorem c265_3 : q_cat 265 3 (.istore_n 2) 1 2 0 (0) := ⟨rfl, rfl⟩
theorem c265_4 : q_cat 265 4 (.iload_n 2) 1 2 0 (0) := ⟨rfl, rfl⟩
theorem c265_5 : q_cat 265 5 (.iconst 3) 1 0 0 (0) := ⟨rfl, rfl⟩
theorem c265_6 : q_cat 265 6 (.if_icmp .ge 20) 3 26 0 (0) := ⟨rfl, rfl⟩
theorem c265_9 : q_cat 265 9 (.iload_n 1) 1 1 0 (0) := ⟨rfl, rfl⟩
theorem c265_10 : q_cat 265 10 (.aload_n 0) 1 0 0 (0) := ⟨rfl, rfl⟩
theorem c265_11 : q_cat 265 11 (.bipush 41) 2 0 0 (0) := ⟨rfl, rfl⟩
theorem c265_13 : q_cat 265 13 (.iload_n 2) 1 2 0 (0) := ⟨rfl, rfl⟩
theorem c265_14 : q_cat 265 14 (.iadd) 1 0 0 (0) := ⟨rfl, rfl⟩
theorem c265_15 : q_cat 265 15 (.invokevirtual 82) 3 303 0 (0) := ⟨rfl, rfl⟩
theorem c265_18 : q_cat 265 18 (.iadd) 1 0 0 (0) := ⟨rfl, rfl⟩
theorem c265_19 : q_cat 265 19 (.istore_n 1) 1 1 0 (0) := ⟨rfl, rfl⟩
theorem c265_20 : q_cat 265 20 (.iinc 2 1) 3 2 0 (0) := ⟨rfl, rfl⟩
theorem c265_23 : q_cat 265 23 (.goto (-19)) 3 4 0 (0) := ⟨rfl, rfl⟩
theorem c265_26 : q_cat 265 26 (.iload_n 1) 1 1 0 (0) := ⟨rfl, rfl⟩
theorem c265_27 : q_cat 265 27 (.ireturn) 1 0 0 (0) := ⟨rfl, rfl⟩
theorem l265_4 {Γ : q_Γ} (hG : q_GG Γ) {h0 : q_F} (hZ : q_Bz h0) (hR : q_Rb h0)  
    (hx26 : ∀ {u2 u1 : Int} {h : q_F}, h = h0 → q_R Γ q_K 155 265 (fun t w h' => (t = 1 ∧ (∃ z, w = ((0, z) : q_V)) ∧ h' = h0)) (26, [(2, (0, u2)), (1, (0, u1)), (0, (2, Int.ofNat 139))], [], q_hp q_K 155 h, [], 0, 0))
    : ∀ (m : Nat) {u2 u1 : Int} {h : q_F}, (0 ≤ u2 ∧ u2 < 2147483648) → h = h0 → 2147483648 - u2 < (m : Int) → q_R Γ q_K 155 265 (fun t w h' => (t = 1 ∧ (∃ z, w = ((0, z) : q_V)) ∧ h' = h0)) (4, [(2, (0, u2)), (1, (0, u1)), (0, (2, Int.ofNat 139))], [], q_hp q_K 155 h, [], 0, 0)   := by
  intro m
  induction m with
  | zero =>
    intro u2 u1 h hinv hf hmu
    exact absurd hmu (by omega)
  | succ m ih =>
    intro u2 u1 h hinv hf hmu
    subst hf
    refine r_iload_n c265_4 rfl rfl ?_
    refine r_iconst c265_5 rfl ?_
    refine r_ic_ge c265_6 rfl (by first | exact q_w32_id (by omega) (by omega) | exact q_w32w _ | exact rfl) (show q_w32 (3) = 3 from rfl) ?_ ?_
    · intro b1
      refine q_R.wk (ks := [2, 1, 0]) (lo' := [(2, _), (1, _), (0, _)]) rfl ?_
      exact hx26 rfl
    · intro b1
      refine r_iload_n c265_9 rfl rfl ?_
      refine r_aload_n c265_10 rfl rfl ?_
      refine r_bipush c265_11 rfl ?_
      refine r_iload_n c265_13 rfl rfl ?_
      refine r_iadd c265_14 (by first | exact q_w32_id (by omega) (by omega) | exact q_w32w _ | exact rfl) rfl ?_
      refine r_vcG c265_15 (by first | assumption | omega) (by decide) (by first | assumption | rfl) rfl rfl rfl (k303 hG hZ hR (by first | assumption | omega)) ?_
      intro t2 w2 g2 p2
      obtain ⟨rfl, ⟨z2, rfl, hs2⟩, rfl⟩ := p2
      refine Or.inr (Or.inl ⟨rfl, ?_⟩)
      refine r_iadd c265_18 (by first | exact q_w32_id (by omega) (by omega) | exact q_w32w _ | exact rfl) rfl ?_
      refine r_istore_n c265_19 (lo' := [(1, _), (2, _), (0, _)]) rfl rfl rfl ?_
      refine r_iinc c265_20 rfl (by first | exact q_w32_id (by omega) (by omega) | exact q_w32w _ | exact rfl) (lo' := [(2, _), (1, _), (0, _)]) rfl rfl rfl ?_
      refine r_goto c265_23 ?_
      refine q_R.wk (ks := [2, 1, 0]) (lo' := [(2, _), (1, _), (0, _)]) rfl ?_
      exact ih (by first | omega | exact ⟨q_rg1 _, q_rg2 _⟩) rfl (by omega)

theorem k265 {Γ : q_Γ} (hG : q_GG Γ) {h : q_F} (hZ : q_Bz h) (hR : q_Rb h)   :
    q_M Γ q_K 155 265 [(2, Int.ofNat 139)] h (fun t w h' => (t = 1 ∧ (∃ z, w = ((0, z) : q_V)) ∧ h' = h)) := by
  refine q_M.of (by decide) (Nat.le_of_ble_eq_true rfl) hG ?_
  refine r_iconst c265_0 rfl ?_
  refine r_istore_n c265_1 (lo' := [(1, _), (0, _)]) rfl rfl rfl ?_
  refine r_iconst c265_2 rfl ?_
  refine r_istore_n c265_3 (lo' := [(2, _), (1, _), (0, _)]) rfl rfl rfl ?_
  refine q_R.wk (ks := [2, 1, 0]) (lo' := [(2, _), (1, _), (0, _)]) rfl ?_
  refine l265_4 hG hZ hR  ?_ 4294967298 (by first | omega | exact ⟨q_rg1 _, q_rg2 _⟩) rfl (q_mu (by first | omega | exact ⟨q_rg1 _, q_rg2 _⟩))
  · intro u2_1 u1_1 g1 f1
    subst f1
    refine r_iload_n c265_26 rfl rfl ?_
    exact r_iret c265_27 ⟨rfl, rfl, rfl⟩ ⟨rfl, ⟨_, rfl⟩, rfl⟩
theorem c247_0 : q_cat 247 0 (.iconst 0) 1 0 0 (0) := ⟨rfl, rfl⟩
theorem c247_1 : q_cat 247 1 (.istore_n 1) 1 1 0 (0) := ⟨rfl, rfl⟩
theorem c247_2 : q_cat 247 2 (.iload_n 1) 1 1 0 (0) := ⟨rfl, rfl⟩
theorem c247_3 : q_cat 247 3 (.iconst 3) 1 0 0 (0) := ⟨rfl, rfl⟩
theorem c247_4 : q_cat 247 4 (.if_icmp .ge 45) 3 49 0 (0) := ⟨rfl, rfl⟩
theorem c247_7 : q_cat 247 7 (.aload_n 0) 1 0 0 (0) := ⟨rfl, rfl⟩
theorem c247_8 : q_cat 247 8 (.getfield 7) 3 9 0 (3) := ⟨rfl, rfl⟩
theorem c247_11 : q_cat 247 11 (.bipush 53) 2 0 0 (0) := ⟨rfl, rfl⟩
theorem c247_13 : q_cat 247 13 (.iload_n 1) 1 1 0 (0) := ⟨rfl, rfl⟩
theorem c247_14 : q_cat 247 14 (.iadd) 1 0 0 (0) := ⟨rfl, rfl⟩
theorem c247_15 : q_cat 247 15 (.aload_n 0) 1 0 0 (0) := ⟨rfl, rfl⟩
theorem c247_16 : q_cat 247 16 (.getfield 7) 3 9 0 (3) := ⟨rfl, rfl⟩
theorem c247_19 : q_cat 247 19 (.bipush 26) 2 0 0 (0) := ⟨rfl, rfl⟩
theorem c247_21 : q_cat 247 21 (.iload_n 1) 1 1 0 (0) := ⟨rfl, rfl⟩
theorem c247_22 : q_cat 247 22 (.iadd) 1 0 0 (0) := ⟨rfl, rfl⟩
theorem c247_23 : q_cat 247 23 (.laload) 1 0 0 (0) := ⟨rfl, rfl⟩
theorem c247_24 : q_cat 247 24 (.aload_n 0) 1 0 0 (0) := ⟨rfl, rfl⟩
theorem c247_25 : q_cat 247 25 (.getfield 7) 3 9 0 (3) := ⟨rfl, rfl⟩
theorem c247_28 : q_cat 247 28 (.bipush 20) 2 0 0 (0) := ⟨rfl, rfl⟩
theorem c247_30 : q_cat 247 30 (.iload_n 1) 1 1 0 (0) := ⟨rfl, rfl⟩
theorem c247_31 : q_cat 247 31 (.iadd) 1 0 0 (0) := ⟨rfl, rfl⟩
theorem c247_32 : q_cat 247 32 (.laload) 1 0 0 (0) := ⟨rfl, rfl⟩
theorem c247_33 : q_cat 247 33 (.lcmp) 1 0 0 (0) := ⟨rfl, rfl⟩
theorem c247_34 : q_cat 247 34 (.ifCond .gt 7) 3 41 0 (0) := ⟨rfl, rfl⟩
theorem c247_37 : q_cat 247 37 (.lconst 1) 1 0 0 (1) := ⟨rfl, rfl⟩
theorem c247_38 : q_cat 247 38 (.goto 4) 3 42 0 (0) := ⟨rfl, rfl⟩
theorem c247_41 : q_cat 247 41 (.lconst 0) 1 0 0 (0) := ⟨rfl, rfl⟩
theorem c247_42 : q_cat 247 42 (.lastore) 1 0 0 (0) := ⟨rfl, rfl⟩
theorem c247_43 : q_cat 247 43 (.iinc 1 1) 3 1 0 (0) := ⟨rfl, rfl⟩
theorem c247_46 : q_cat 247 46 (.goto (-44)) 3 2 0 (0) := ⟨rfl, rfl⟩
theorem c247_49 : q_cat 247 49 (.return_) 1 0 0 (0) := ⟨rfl, rfl⟩
theorem l247_2 {Γ : q_Γ} (hG : q_GG Γ) {h0 : q_F} (hZ : q_Bz h0) (hR : q_Rb h0)  
    (hx49 : ∀ {u1 : Int} {h : q_F}, q_Gr (fun k j => k = 140 ∧ 53 ≤ j ∧ j ≤ 55) h0 h → q_R Γ q_K 155 247 (fun t w h' => (t = 0 ∧ q_Gr (fun k j => k = 140 ∧ 53 ≤ j ∧ j ≤ 55) h0 h')) (49, [(1, (0, u1)), (0, (2, Int.ofNat 139))], [], q_hp q_K 155 h, [], 0, 0))
    : ∀ (m : Nat) {u1 : Int} {h : q_F}, (0 ≤ u1 ∧ u1 < 2147483648) → q_Gr (fun k j => k = 140 ∧ 53 ≤ j ∧ j ≤ 55) h0 h → 2147483648 - u1 < (m : Int) → q_R Γ q_K 155 247 (fun t w h' => (t = 0 ∧ q_Gr (fun k j => k = 140 ∧ 53 ≤ j ∧ j ≤ 55) h0 h')) (2, [(1, (0, u1)), (0, (2, Int.ofNat 139))], [], q_hp q_K 155 h, [], 0, 0)   := by
  intro m
  induction m with
  | zero =>
    intro u1 h hinv hf hmu
    exact absurd hmu (by omega)
  | succ m ih =>
    intro u1 h hinv hf hmu
    refine r_iload_n c247_2 rfl rfl ?_
    refine r_iconst c247_3 rfl ?_
    refine r_ic_ge c247_4 rfl (by first | exact q_w32_id (by omega) (by omega) | exact q_w32w _ | exact rfl) (show q_w32 (3) = 3 from rfl) ?_ ?_
    · intro b1
      refine q_R.wk (ks := [1, 0]) (lo' := [(1, _), (0, _)]) rfl ?_
      exact hx49 (by repeat (first | exact q_Gr.rf | refine q_Gr.ud ?_ (by omega) (by first | assumption | rfl) rfl (by first | exact ⟨fun h9 => absurd h9 (by decide), fun h9 => absurd h9 (by decide)⟩ | (constructor <;> (intro h9; omega))) | refine q_Gr.udz ?_ (by omega) (by first | assumption | decide | omega) (by first | exact ⟨fun h9 => absurd h9 (by decide), fun h9 => absurd h9 (by decide)⟩ | (constructor <;> (intro h9; omega))) | refine q_Gr.tr ?_ (by assumption) (by intro k9 j9 hk9; omega)))
    · intro b1
      refine r_aload_n c247_7 rfl rfl ?_
      refine r_getr c247_8 (by first | assumption | omega) (by decide) (by first | assumption | rfl) rfl rfl ?_
      refine r_bipush c247_11 rfl ?_
      refine r_iload_n c247_13 rfl rfl ?_
      refine r_iadd c247_14 (by first | exact q_w32_id (by omega) (by omega) | exact q_w32w _ | exact rfl) rfl ?_
      refine r_aload_n c247_15 rfl rfl ?_
      refine r_getr c247_16 (by first | assumption | omega) (by decide) (by first | assumption | rfl) rfl rfl ?_
      refine r_bipush c247_19 rfl ?_
      refine r_iload_n c247_21 rfl rfl ?_
      refine r_iadd c247_22 (by first | exact q_w32_id (by omega) (by omega) | exact q_w32w _ | exact rfl) rfl ?_
      refine r_laldw (q_Gr.rb (S := fun k j => k = 140 ∧ 53 ≤ j ∧ j ≤ 55) hR (by repeat (first | exact q_Gr.rf | refine q_Gr.ud ?_ (by omega) (by first | assumption | rfl) rfl (by first | exact ⟨fun h9 => absurd h9 (by decide), fun h9 => absurd h9 (by decide)⟩ | (constructor <;> (intro h9; omega))) | refine q_Gr.udz ?_ (by omega) (by first | assumption | decide | omega) (by first | exact ⟨fun h9 => absurd h9 (by decide), fun h9 => absurd h9 (by decide)⟩ | (constructor <;> (intro h9; omega))) | refine q_Gr.tr ?_ (by assumption) (by intro k9 j9 hk9; omega)))) c247_23 (by first | exact q_w32_id (by omega) (by omega) | exact q_w32w _ | exact rfl) (by first | assumption | omega) (by first | assumption | omega) rfl ?_
      intro y2
      refine r_aload_n c247_24 rfl rfl ?_
      refine r_getr c247_25 (by first | assumption | omega) (by decide) (by first | assumption | rfl) rfl rfl ?_
      refine r_bipush c247_28 rfl ?_
      refine r_iload_n c247_30 rfl rfl ?_
      refine r_iadd c247_31 (by first | exact q_w32_id (by omega) (by omega) | exact q_w32w _ | exact rfl) rfl ?_
      refine r_laldw (q_Gr.rb (S := fun k j => k = 140 ∧ 53 ≤ j ∧ j ≤ 55) hR (by repeat (first | exact q_Gr.rf | refine q_Gr.ud ?_ (by omega) (by first | assumption | rfl) rfl (by first | exact ⟨fun h9 => absurd h9 (by decide), fun h9 => absurd h9 (by decide)⟩ | (constructor <;> (intro h9; omega))) | refine q_Gr.udz ?_ (by omega) (by first | assumption | decide | omega) (by first | exact ⟨fun h9 => absurd h9 (by decide), fun h9 => absurd h9 (by decide)⟩ | (constructor <;> (intro h9; omega))) | refine q_Gr.tr ?_ (by assumption) (by intro k9 j9 hk9; omega)))) c247_32 (by first | exact q_w32_id (by omega) (by omega) | exact q_w32w _ | exact rfl) (by first | assumption | omega) (by first | assumption | omega) rfl ?_
      intro y3
      refine r_lcmpn c247_33 rfl (by first | exact q_w64_id (by omega) (by omega) | exact rfl) (by first | exact q_w64_id (by omega) (by omega) | exact rfl) ?_ ?_ ?_
      · intro b4
        refine r_if_gt c247_34 rfl (show q_w32 (-1) = -1 from rfl) ?_ ?_
        · intro b5
          exact absurd b5.1 (by decide)
        · intro b5
          refine r_lconst c247_37 rfl ?_
          refine r_goto c247_38 ?_
          refine r_last c247_42 (by first | assumption | omega) (by decide) (by first | assumption | rfl) (by first | assumption | decide) (by first | exact q_w32_id (by omega) (by omega) | exact q_w32w _ | exact rfl) (by first | assumption | omega) (by first | assumption | omega) rfl ?_
          refine r_iinc c247_43 rfl (by first | exact q_w32_id (by omega) (by omega) | exact q_w32w _ | exact rfl) (lo' := [(1, _), (0, _)]) rfl rfl rfl ?_
          refine r_goto c247_46 ?_
          refine q_R.wk (ks := [1, 0]) (lo' := [(1, _), (0, _)]) rfl ?_
          exact ih (by first | omega | exact ⟨q_rg1 _, q_rg2 _⟩) (by repeat (first | exact q_Gr.rf | refine q_Gr.ud ?_ (by omega) (by first | assumption | rfl) rfl (by first | exact ⟨fun h9 => absurd h9 (by decide), fun h9 => absurd h9 (by decide)⟩ | (constructor <;> (intro h9; omega))) | refine q_Gr.udz ?_ (by omega) (by first | assumption | decide | omega) (by first | exact ⟨fun h9 => absurd h9 (by decide), fun h9 => absurd h9 (by decide)⟩ | (constructor <;> (intro h9; omega))) | refine q_Gr.tr ?_ (by assumption) (by intro k9 j9 hk9; omega))) (by omega)
      · intro b4
        refine r_if_gt c247_34 rfl (show q_w32 (0) = 0 from rfl) ?_ ?_
        · intro b6
          exact absurd b6.1 (by decide)
        · intro b6
          refine r_lconst c247_37 rfl ?_
          refine r_goto c247_38 ?_
          refine r_last c247_42 (by first | assumption | omega) (by decide) (by first | assumption | rfl) (by first | assumption | decide) (by first | exact q_w32_id (by omega) (by omega) | exact q_w32w _ | exact rfl) (by first | assumption | omega) (by first | assumption | omega) rfl ?_
          refine r_iinc c247_43 rfl (by first | exact q_w32_id (by omega) (by omega) | exact q_w32w _ | exact rfl) (lo' := [(1, _), (0, _)]) rfl rfl rfl ?_
          refine r_goto c247_46 ?_
          refine q_R.wk (ks := [1, 0]) (lo' := [(1, _), (0, _)]) rfl ?_
          exact ih (by first | omega | exact ⟨q_rg1 _, q_rg2 _⟩) (by repeat (first | exact q_Gr.rf | refine q_Gr.ud ?_ (by omega) (by first | assumption | rfl) rfl (by first | exact ⟨fun h9 => absurd h9 (by decide), fun h9 => absurd h9 (by decide)⟩ | (constructor <;> (intro h9; omega))) | refine q_Gr.udz ?_ (by omega) (by first | assumption | decide | omega) (by first | exact ⟨fun h9 => absurd h9 (by decide), fun h9 => absurd h9 (by decide)⟩ | (constructor <;> (intro h9; omega))) | refine q_Gr.tr ?_ (by assumption) (by intro k9 j9 hk9; omega))) (by omega)
      · intro b4
        refine r_if_gt c247_34 rfl (show q_w32 (1) = 1 from rfl) ?_ ?_
        · intro b7
          refine r_lconst c247_41 rfl ?_
          refine r_last c247_42 (by first | assumption | omega) (by decide) (by first | assumption | rfl) (by first | assumption | decide) (by first | exact q_w32_id (by omega) (by omega) | exact q_w32w _ | exact rfl) (by first | assumption | omega) (by first | assumption | omega) rfl ?_
          refine r_iinc c247_43 rfl (by first | exact q_w32_id (by omega) (by omega) | exact q_w32w _ | exact rfl) (lo' := [(1, _), (0, _)]) rfl rfl rfl ?_
          refine r_goto c247_46 ?_
          refine q_R.wk (ks := [1, 0]) (lo' := [(1, _), (0, _)]) rfl ?_
          exact ih (by first | omega | exact ⟨q_rg1 _, q_rg2 _⟩) (by repeat (first | exact q_Gr.rf | refine q_Gr.ud ?_ (by omega) (by first | assumption | rfl) rfl (by first | exact ⟨fun h9 => absurd h9 (by decide), fun h9 => absurd h9 (by decide)⟩ | (constructor <;> (intro h9; omega))) | refine q_Gr.udz ?_ (by omega) (by first | assumption | decide | omega) (by first | exact ⟨fun h9 => absurd h9 (by decide), fun h9 => absurd h9 (by decide)⟩ | (constructor <;> (intro h9; omega))) | refine q_Gr.tr ?_ (by assumption) (by intro k9 j9 hk9; omega))) (by omega)
        · intro b7
          exact absurd b7.1 (by decide)

theorem k247 {Γ : q_Γ} (hG : q_GG Γ) {h : q_F} (hZ : q_Bz h) (hR : q_Rb h)   :
    q_M Γ q_K 155 247 [(2, Int.ofNat 139)] h (fun t w h' => (t = 0 ∧ q_Gr (fun k j => k = 140 ∧ 53 ≤ j ∧ j ≤ 55) h h')) := by
  refine q_M.of (by decide) (Nat.le_of_ble_eq_true rfl) hG ?_
  refine r_iconst c247_0 rfl ?_
  refine r_istore_n c247_1 (lo' := [(1, _), (0, _)]) rfl rfl rfl ?_
  refine q_R.wk (ks := [1, 0]) (lo' := [(1, _), (0, _)]) rfl ?_
  refine l247_2 hG hZ hR  ?_ 4294967298 (by first | omega | exact ⟨q_rg1 _, q_rg2 _⟩) (by repeat (first | exact q_Gr.rf | refine q_Gr.ud ?_ (by omega) (by first | assumption | rfl) rfl (by first | exact ⟨fun h9 => absurd h9 (by decide), fun h9 => absurd h9 (by decide)⟩ | (constructor <;> (intro h9; omega))) | refine q_Gr.udz ?_ (by omega) (by first | assumption | decide | omega) (by first | exact ⟨fun h9 => absurd h9 (by decide), fun h9 => absurd h9 (by decide)⟩ | (constructor <;> (intro h9; omega))) | refine q_Gr.tr ?_ (by assumption) (by intro k9 j9 hk9; omega))) (q_mu (by first | omega | exact ⟨q_rg1 _, q_rg2 _⟩))
  · intro u1_1 g1 f1
    exact r_vret c247_49 ⟨rfl, rfl, rfl⟩ ⟨rfl, (by repeat (first | exact q_Gr.rf | refine q_Gr.ud ?_ (by omega) (by first | assumption | rfl) rfl (by first | exact ⟨fun h9 => absurd h9 (by decide), fun h9 => absurd h9 (by decide)⟩ | (constructor <;> (intro h9; omega))) | refine q_Gr.udz ?_ (by omega) (by first | assumption | decide | omega) (by first | exact ⟨fun h9 => absurd h9 (by decide), fun h9 => absurd h9 (by decide)⟩ | (constructor <;> (intro h9; omega))) | refine q_Gr.tr ?_ (by assumption) (by intro k9 j9 hk9; omega)))⟩
theorem c342_0 : q_cat 342 0 (.aload_n 0) 1 0 0 (0) := ⟨rfl, rfl⟩
theorem c342_1 : q_cat 342 1 (.getfield 7) 3 9 0 (3) := ⟨rfl, rfl⟩
theorem c342_4 : q_cat 342 4 (.iconst 4) 1 0 0 (0) := ⟨rfl, rfl⟩
theorem c342_5 : q_cat 342 5 (.lconst 0) 1 0 0 (0) := ⟨rfl, rfl⟩
theorem c342_6 : q_cat 342 6 (.lastore) 1 0 0 (0) := ⟨rfl, rfl⟩
theorem c342_7 : q_cat 342 7 (.iconst 0) 1 0 0 (0) := ⟨rfl, rfl⟩
theorem c342_8 : q_cat 342 8 (.istore_n 1) 1 1 0 (0) := ⟨rfl, rfl⟩
theorem c342_9 : q_cat 342 9 (.iload_n 1) 1 1 0 (0) := ⟨rfl, rfl⟩
theorem c342_10 : q_cat 342 10 (.iconst 3) 1 0 0 (0) := ⟨rfl, rfl⟩
theorem c342_11 : q_cat 342 11 (.if_icmp .ge 19) 3 30 0 (0) := ⟨rfl, rfl⟩
theorem c342_14 : q_cat 342 14 (.aload_n 0) 1 0 0 (0) := ⟨rfl, rfl⟩
theorem c342_15 : q_cat 342 15 (.getfield 7) 3 9 0 (3) := ⟨rfl, rfl⟩
theorem c342_18 : q_cat 342 18 (.bipush 41) 2 0 0 (0) := ⟨rfl, rfl⟩
theorem c342_20 : q_cat 342 20 (.iload_n 1) 1 1 0 (0) := ⟨rfl, rfl⟩
theorem c342_21 : q_cat 342 21 (.iadd) 1 0 0 (0) := ⟨rfl, rfl⟩
theorem c342_22 : q_cat 342 22 (.lconst 0) 1 0 0 (0) := ⟨rfl, rfl⟩
theorem c342_23 : q_cat 342 23 (.lastore) 1 0 0 (0) := ⟨rfl, rfl⟩
theorem c342_24 : q_cat 342 24 (.iinc 1 1) 3 1 0 (0) := ⟨rfl, rfl⟩
theorem c342_27 : q_cat 342 27 (.goto (-18)) 3 9 0 (0) := ⟨rfl, rfl⟩
theorem c342_30 : q_cat 342 30 (.return_) 1 0 0 (0) := ⟨rfl, rfl⟩
theorem l342_9 {Γ : q_Γ} (hG : q_GG Γ) {h0 : q_F} (hZ : q_Bz h0) (hR : q_Rb h0)  
    (hx30 : ∀ {u1 : Int} {h : q_F}, q_Gr (fun k j => k = 140 ∧ (j = 4 ∨ (41 ≤ j ∧ j ≤ 43))) h0 h → q_R Γ q_K 155 342 (fun t w h' => (t = 0 ∧ q_Gr (fun k j => k = 140 ∧ (j = 4 ∨ (41 ≤ j ∧ j ≤ 43))) h0 h')) (30, [(1, (0, u1)), (0, (2, Int.ofNat 139))], [], q_hp q_K 155 h, [], 0, 0))
    : ∀ (m : Nat) {u1 : Int} {h : q_F}, (0 ≤ u1 ∧ u1 < 2147483648) → q_Gr (fun k j => k = 140 ∧ (j = 4 ∨ (41 ≤ j ∧ j ≤ 43))) h0 h → 2147483648 - u1 < (m : Int) → q_R Γ q_K 155 342 (fun t w h' => (t = 0 ∧ q_Gr (fun k j => k = 140 ∧ (j = 4 ∨ (41 ≤ j ∧ j ≤ 43))) h0 h')) (9, [(1, (0, u1)), (0, (2, Int.ofNat 139))], [], q_hp q_K 155 h, [], 0, 0)   := by
  intro m
  induction m with
  | zero =>
    intro u1 h hinv hf hmu
    exact absurd hmu (by omega)
  | succ m ih =>
    intro u1 h hinv hf hmu
    refine r_iload_n c342_9 rfl rfl ?_
    refine r_iconst c342_10 rfl ?_
    refine r_ic_ge c342_11 rfl (by first | exact q_w32_id (by omega) (by omega) | exact q_w32w _ | exact rfl) (show q_w32 (3) = 3 from rfl) ?_ ?_
    · intro b1
      refine q_R.wk (ks := [1, 0]) (lo' := [(1, _), (0, _)]) rfl ?_
      exact hx30 (by repeat (first | exact q_Gr.rf | refine q_Gr.ud ?_ (by omega) (by first | assumption | rfl) rfl (by first | exact ⟨fun h9 => absurd h9 (by decide), fun h9 => absurd h9 (by decide)⟩ | (constructor <;> (intro h9; omega))) | refine q_Gr.udz ?_ (by omega) (by first | assumption | decide | omega) (by first | exact ⟨fun h9 => absurd h9 (by decide), fun h9 => absurd h9 (by decide)⟩ | (constructor <;> (intro h9; omega))) | refine q_Gr.tr ?_ (by assumption) (by intro k9 j9 hk9; omega)))
    · intro b1
      refine r_aload_n c342_14 rfl rfl ?_
      refine r_getr c342_15 (by first | assumption | omega) (by decide) (by first | assumption | rfl) rfl rfl ?_
      refine r_bipush c342_18 rfl ?_
      refine r_iload_n c342_20 rfl rfl ?_
      refine r_iadd c342_21 (by first | exact q_w32_id (by omega) (by omega) | exact q_w32w _ | exact rfl) rfl ?_
      refine r_lconst c342_22 rfl ?_
      refine r_last c342_23 (by first | assumption | omega) (by decide) (by first | assumption | rfl) (by first | assumption | decide) (by first | exact q_w32_id (by omega) (by omega) | exact q_w32w _ | exact rfl) (by first | assumption | omega) (by first | assumption | omega) rfl ?_
      refine r_iinc c342_24 rfl (by first | exact q_w32_id (by omega) (by omega) | exact q_w32w _ | exact rfl) (lo' := [(1, _), (0, _)]) rfl rfl rfl ?_
      refine r_goto c342_27 ?_
      refine q_R.wk (ks := [1, 0]) (lo' := [(1, _), (0, _)]) rfl ?_
      exact ih (by first | omega | exact ⟨q_rg1 _, q_rg2 _⟩) (by repeat (first | exact q_Gr.rf | refine q_Gr.ud ?_ (by omega) (by first | assumption | rfl) rfl (by first | exact ⟨fun h9 => absurd h9 (by decide), fun h9 => absurd h9 (by decide)⟩ | (constructor <;> (intro h9; omega))) | refine q_Gr.udz ?_ (by omega) (by first | assumption | decide | omega) (by first | exact ⟨fun h9 => absurd h9 (by decide), fun h9 => absurd h9 (by decide)⟩ | (constructor <;> (intro h9; omega))) | refine q_Gr.tr ?_ (by assumption) (by intro k9 j9 hk9; omega))) (by omega)

theorem k342 {Γ : q_Γ} (hG : q_GG Γ) {h : q_F} (hZ : q_Bz h) (hR : q_Rb h)   :
    q_M Γ q_K 155 342 [(2, Int.ofNat 139)] h (fun t w h' => (t = 0 ∧ q_Gr (fun k j => k = 140 ∧ (j = 4 ∨ (41 ≤ j ∧ j ≤ 43))) h h')) := by
  refine q_M.of (by decide) (Nat.le_of_ble_eq_true rfl) hG ?_
  refine r_aload_n c342_0 rfl rfl ?_
  refine r_getr c342_1 (by first | assumption | omega) (by decide) (by first | assumption | rfl) rfl rfl ?_
  refine r_iconst c342_4 rfl ?_
  refine r_lconst c342_5 rfl ?_
  refine r_last c342_6 (by first | assumption | omega) (by decide) (by first | assumption | rfl) (by first | assumption | decide) (show q_w32 (4) = 4 from rfl) (by first | assumption | omega) (by first | assumption | omega) rfl ?_
  refine r_iconst c342_7 rfl ?_
  refine r_istore_n c342_8 (lo' := [(1, _), (0, _)]) rfl rfl rfl ?_
  refine q_R.wk (ks := [1, 0]) (lo' := [(1, _), (0, _)]) rfl ?_
  refine l342_9 hG hZ hR  ?_ 4294967298 (by first | omega | exact ⟨q_rg1 _, q_rg2 _⟩) (by repeat (first | exact q_Gr.rf | refine q_Gr.ud ?_ (by omega) (by first | assumption | rfl) rfl (by first | exact ⟨fun h9 => absurd h9 (by decide), fun h9 => absurd h9 (by decide)⟩ | (constructor <;> (intro h9; omega))) | refine q_Gr.udz ?_ (by omega) (by first | assumption | decide | omega) (by first | exact ⟨fun h9 => absurd h9 (by decide), fun h9 => absurd h9 (by decide)⟩ | (constructor <;> (intro h9; omega))) | refine q_Gr.tr ?_ (by assumption) (by intro k9 j9 hk9; omega))) (q_mu (by first | omega | exact ⟨q_rg1 _, q_rg2 _⟩))
  · intro u1_1 g1 f1
    exact r_vret c342_30 ⟨rfl, rfl, rfl⟩ ⟨rfl, (by repeat (first | exact q_Gr.rf | refine q_Gr.ud ?_ (by omega) (by first | assumption | rfl) rfl (by first | exact ⟨fun h9 => absurd h9 (by decide), fun h9 => absurd h9 (by decide)⟩ | (constructor <;> (intro h9; omega))) | refine q_Gr.udz ?_ (by omega) (by first | assumption | decide | omega) (by first | exact ⟨fun h9 => absurd h9 (by decide), fun h9 => absurd h9 (by decide)⟩ | (constructor <;> (intro h9; omega))) | refine q_Gr.tr ?_ (by assumption) (by intro k9 j9 hk9; omega)))⟩
theorem c240_0 : q_cat 240 0 (.iload_n 1) 1 1 0 (0) := ⟨rfl, rfl⟩
theorem c240_1 : q_cat 240 1 (.ifCond .ne 14) 3 15 0 (0) := ⟨rfl, rfl⟩
theorem c240_4 : q_cat 240 4 (.aload_n 0) 1 0 0 (0) := ⟨rfl, rfl⟩
theorem c240_5 : q_cat 240 5 (.bipush 47) 2 0 0 (0) := ⟨rfl, rfl⟩
theorem c240_7 : q_cat 240 7 (.iload_n 2) 1 2 0 (0) := ⟨rfl, rfl⟩
theorem c240_8 : q_cat 240 8 (.iadd) 1 0 0 (0) := ⟨rfl, rfl⟩
theorem c240_9 : q_cat 240 9 (.invokevirtual 82) 3 303 0 (0) := ⟨rfl, rfl⟩
theorem c240_12 : q_cat 240 12 (.goto 17) 3 29 0 (0) := ⟨rfl, rfl⟩
theorem c240_15 : q_cat 240 15 (.aload_n 0) 1 0 0 (0) := ⟨rfl, rfl⟩
theorem c240_16 : q_cat 240 16 (.bipush 74) 2 0 0 (0) := ⟨rfl, rfl⟩
theorem c240_18 : q_cat 240 18 (.iconst 3) 1 0 0 (0) := ⟨rfl, rfl⟩
theorem c240_19 : q_cat 240 19 (.iload_n 1) 1 1 0 (0) := ⟨rfl, rfl⟩
theorem c240_20 : q_cat 240 20 (.iconst 1) 1 0 0 (0) := ⟨rfl, rfl⟩
theorem c240_21 : q_cat 240 21 (.isub) 1 0 0 (0) := ⟨rfl, rfl⟩
theorem c240_22 : q_cat 240 22 (.imul) 1 0 0 (0) := ⟨rfl, rfl⟩
theorem c240_23 : q_cat 240 23 (.iadd) 1 0 0 (0) := ⟨rfl, rfl⟩
theorem c240_24 : q_cat 240 24 (.iload_n 2) 1 2 0 (0) := ⟨rfl, rfl⟩
theorem c240_25 : q_cat 240 25 (.iadd) 1 0 0 (0) := ⟨rfl, rfl⟩
theorem c240_26 : q_cat 240 26 (.invokevirtual 82) 3 303 0 (0) := ⟨rfl, rfl⟩
theorem c240_29 : q_cat 240 29 (.ireturn) 1 0 0 (0) := ⟨rfl, rfl⟩
theorem k240 {Γ : q_Γ} (hG : q_GG Γ) {h : q_F} (hZ : q_Bz h) (hR : q_Rb h) {v1 : Int} {v2 : Int} (hp0 : 0 ≤ v1 ∧ v1 ≤ 16 ∧ 0 ≤ v2 ∧ v2 < 3) :
    q_M Γ q_K 155 240 [(2, Int.ofNat 139), (0, v1), (0, v2)] h (fun t w h' => (t = 1 ∧ (∃ z, w = ((0, z) : q_V) ∧ (0 ≤ z ∧ z ≤ 2000)) ∧ h' = h)) := by
  refine q_M.of (by decide) (Nat.le_of_ble_eq_true rfl) hG ?_
  refine r_iload_n c240_0 rfl rfl ?_
  refine r_if_ne c240_1 rfl (by first | exact q_w32_id (by omega) (by omega) | exact q_w32w _ | exact rfl) ?_ ?_
  · intro b1
    refine r_aload_n c240_15 rfl rfl ?_
    refine r_bipush c240_16 rfl ?_
    refine r_iconst c240_18 rfl ?_
    refine r_iload_n c240_19 rfl rfl ?_
    refine r_iconst c240_20 rfl ?_
    refine r_isub c240_21 (by first | exact q_w32_id (by omega) (by omega) | exact q_w32w _ | exact rfl) rfl ?_
    refine r_imul c240_22 (by first | exact q_w32_id (by omega) (by omega) | exact q_w32w _ | exact rfl) rfl ?_
    refine r_iadd c240_23 (by first | exact q_w32_id (by omega) (by omega) | exact q_w32w _ | exact rfl) rfl ?_
    refine r_iload_n c240_24 rfl rfl ?_
    refine r_iadd c240_25 (by first | exact q_w32_id (by omega) (by omega) | exact q_w32w _ | exact rfl) rfl ?_
    refine r_vcG c240_26 (by first | assumption | omega) (by decide) (by first | assumption | rfl) rfl rfl rfl (k303 hG hZ hR (by first | assumption | omega)) ?_
    intro t2 w2 g2 p2
    obtain ⟨rfl, ⟨z2, rfl, hs2⟩, rfl⟩ := p2
    refine Or.inr (Or.inl ⟨rfl, ?_⟩)
    exact r_iret c240_29 ⟨rfl, rfl, rfl⟩ ⟨rfl, ⟨_, rfl, (by omega)⟩, rfl⟩
  · intro b1
    refine r_aload_n c240_4 rfl rfl ?_
    refine r_bipush c240_5 rfl ?_
    refine r_iload_n c240_7 rfl rfl ?_
    refine r_iadd c240_8 (by first | exact q_w32_id (by omega) (by omega) | exact q_w32w _ | exact rfl) rfl ?_
    refine r_vcG c240_9 (by first | assumption | omega) (by decide) (by first | assumption | rfl) rfl rfl rfl (k303 hG hZ hR (by first | assumption | omega)) ?_
    intro t3 w3 g3 p3
    obtain ⟨rfl, ⟨z3, rfl, hs3⟩, rfl⟩ := p3
    refine Or.inr (Or.inl ⟨rfl, ?_⟩)
    refine r_goto c240_12 ?_
    exact r_iret c240_29 ⟨rfl, rfl, rfl⟩ ⟨rfl, ⟨_, rfl, (by omega)⟩, rfl⟩
theorem c245_0 : q_cat 245 0 (.iload_n 1) 1 1 0 (0) := ⟨rfl, rfl⟩
theorem c245_1 : q_cat 245 1 (.aload_n 0) 1 0 0 (0) := ⟨rfl, rfl⟩
theorem c245_2 : q_cat 245 2 (.getfield 157) 3 9 14 (0) := ⟨rfl, rfl⟩
theorem c245_5 : q_cat 245 5 (.if_icmp .ge 12) 3 17 0 (0) := ⟨rfl, rfl⟩
theorem c245_8 : q_cat 245 8 (.aload_n 0) 1 0 0 (0) := ⟨rfl, rfl⟩
theorem c245_9 : q_cat 245 9 (.getfield 41) 3 9 13 (3) := ⟨rfl, rfl⟩
theorem c245_12 : q_cat 245 12 (.iload_n 1) 1 1 0 (0) := ⟨rfl, rfl⟩
theorem c245_13 : q_cat 245 13 (.iaload) 1 0 0 (0) := ⟨rfl, rfl⟩
theorem c245_14 : q_cat 245 14 (.goto 4) 3 18 0 (0) := ⟨rfl, rfl⟩
theorem c245_17 : q_cat 245 17 (.iconst (-1)) 1 0 0 (0) := ⟨rfl, rfl⟩
theorem c245_18 : q_cat 245 18 (.ireturn) 1 0 0 (0) := ⟨rfl, rfl⟩
theorem k245 {Γ : q_Γ} (hG : q_GG Γ) {h : q_F} (hZ : q_Bz h) (hR : q_Rb h) {v1 : Int} (hp0 : 0 ≤ v1 ∧ v1 ≤ 600) :
    q_M Γ q_K 155 245 [(2, Int.ofNat 139), (0, v1)] h (fun t w h' => (t = 1 ∧ (∃ z, w = ((0, z) : q_V) ∧ (z = -1 ∨ v1 < h 139 14)) ∧ h' = h)) := by
  refine q_M.of (by decide) (Nat.le_of_ble_eq_true rfl) hG ?_
  refine r_iload_n c245_0 rfl rfl ?_
  refine r_aload_n c245_1 rfl rfl ?_
  refine r_getf hR c245_2 rfl rfl ?_
  intro y1
  refine r_ic_ge c245_5 rfl (by first | exact q_w32_id (by omega) (by omega) | exact q_w32w _ | exact rfl) (by first | exact q_w32_id (by omega) (by omega) | exact q_w32w _ | exact rfl) ?_ ?_
  · intro b2
    refine r_iconst c245_17 rfl ?_
    exact r_iret c245_18 ⟨rfl, rfl, rfl⟩ ⟨rfl, ⟨_, rfl, (by omega)⟩, rfl⟩
  · intro b2
    refine r_aload_n c245_8 rfl rfl ?_
    refine r_getr c245_9 (by first | assumption | omega) (by decide) (by first | assumption | rfl) rfl rfl ?_
    refine r_iload_n c245_12 rfl rfl ?_
    refine r_iald c245_13 (by first | assumption | omega) (by decide) (by first | assumption | rfl) (by first | assumption | decide) (by first | exact q_w32_id (by omega) (by omega) | exact q_w32w _ | exact rfl) (by first | assumption | omega) (by first | assumption | omega) rfl ?_
    refine r_goto c245_14 ?_
    exact r_iret c245_18 ⟨rfl, rfl, rfl⟩ ⟨rfl, ⟨_, rfl, (by omega)⟩, rfl⟩
theorem c355_0 : q_cat 355 0 (.aload_n 0) 1 0 0 (0) := ⟨rfl, rfl⟩
theorem c355_1 : q_cat 355 1 (.getfield 167) 3 9 19 (0) := ⟨rfl, rfl⟩
theorem c355_4 : q_cat 355 4 (.aload_n 0) 1 0 0 (0) := ⟨rfl, rfl⟩
theorem c355_5 : q_cat 355 5 (.getfield 173) 3 9 20 (0) := ⟨rfl, rfl⟩
theorem c355_8 : q_cat 355 8 (.isub) 1 0 0 (0) := ⟨rfl, rfl⟩
theorem c355_9 : q_cat 355 9 (.ireturn) 1 0 0 (0) := ⟨rfl, rfl⟩
theorem k355 {Γ : q_Γ} (hG : q_GG Γ) {h : q_F} (hZ : q_Bz h) (hR : q_Rb h)   :
    q_M Γ q_K 155 355 [(2, Int.ofNat 139)] h (fun t w h' => (t = 1 ∧ (∃ z, w = ((0, z) : q_V)) ∧ h' = h)) := by
  refine q_M.of (by decide) (Nat.le_of_ble_eq_true rfl) hG ?_
  refine r_aload_n c355_0 rfl rfl ?_
  refine r_getf hR c355_1 rfl rfl ?_
  intro y1
  refine r_aload_n c355_4 rfl rfl ?_
  refine r_getf hR c355_5 rfl rfl ?_
  intro y2
  refine r_isub c355_8 (by first | exact q_w32_id (by omega) (by omega) | exact q_w32w _ | exact rfl) rfl ?_
  exact r_iret c355_9 ⟨rfl, rfl, rfl⟩ ⟨rfl, ⟨_, rfl⟩, rfl⟩
theorem c259_0 : q_cat 259 0 (.aload_n 0) 1 0 0 (0) := ⟨rfl, rfl⟩
theorem c259_1 : q_cat 259 1 (.getfield 190) 3 9 17 (0) := ⟨rfl, rfl⟩
theorem c259_4 : q_cat 259 4 (.ifCond .ne 16) 3 20 0 (0) := ⟨rfl, rfl⟩
theorem c259_7 : q_cat 259 7 (.aload_n 0) 1 0 0 (0) := ⟨rfl, rfl⟩
theorem c259_8 : q_cat 259 8 (.iload_n 1) 1 1 0 (0) := ⟨rfl, rfl⟩
theorem c259_9 : q_cat 259 9 (.putfield 190) 3 9 17 (0) := ⟨rfl, rfl⟩
theorem c259_12 : q_cat 259 12 (.aload_n 0) 1 0 0 (0) := ⟨rfl, rfl⟩
theorem c259_13 : q_cat 259 13 (.aload_n 0) 1 0 0 (0) := ⟨rfl, rfl⟩
theorem c259_14 : q_cat 259 14 (.getfield 173) 3 9 20 (0) := ⟨rfl, rfl⟩
theorem c259_17 : q_cat 259 17 (.putfield 193) 3 9 18 (0) := ⟨rfl, rfl⟩
theorem c259_20 : q_cat 259 20 (.iconst 0) 1 0 0 (0) := ⟨rfl, rfl⟩
theorem c259_21 : q_cat 259 21 (.ireturn) 1 0 0 (0) := ⟨rfl, rfl⟩
theorem k259 {Γ : q_Γ} (hG : q_GG Γ) {h : q_F} (hZ : q_Bz h) (hR : q_Rb h) {v1 : Int}  :
    q_M Γ q_K 155 259 [(2, Int.ofNat 139), (0, v1)] h (fun t w h' => (t = 1 ∧ (∃ z, w = ((0, z) : q_V) ∧ (z = 0 ∨ z = 1)) ∧ q_Gr (fun k j => k = 139 ∧ (j = 17 ∨ j = 18)) h h')) := by
  refine q_M.of (by decide) (Nat.le_of_ble_eq_true rfl) hG ?_
  refine r_aload_n c259_0 rfl rfl ?_
  refine r_geti c259_1 (by first | assumption | omega) (by decide) (by first | assumption | rfl) rfl rfl ?_
  refine r_if_ne c259_4 rfl (by first | exact q_w32_id (by omega) (by omega) | exact q_w32w _ | exact rfl) ?_ ?_
  · intro b1
    refine r_iconst c259_20 rfl ?_
    exact r_zret c259_21 ⟨rfl, rfl, rfl⟩ (by decide) ⟨rfl, ⟨_, rfl, (by decide)⟩, (by repeat (first | exact q_Gr.rf | refine q_Gr.ud ?_ (by omega) (by first | assumption | rfl) rfl (by first | exact ⟨fun h9 => absurd h9 (by decide), fun h9 => absurd h9 (by decide)⟩ | (constructor <;> (intro h9; omega))) | refine q_Gr.udz ?_ (by omega) (by first | assumption | decide | omega) (by first | exact ⟨fun h9 => absurd h9 (by decide), fun h9 => absurd h9 (by decide)⟩ | (constructor <;> (intro h9; omega))) | refine q_Gr.tr ?_ (by assumption) (by intro k9 j9 hk9; omega)))⟩
  · intro b1
    refine r_aload_n c259_7 rfl rfl ?_
    refine r_iload_n c259_8 rfl rfl ?_
    refine r_puti c259_9 (by first | assumption | omega) (by decide) (by first | assumption | rfl) rfl rfl rfl ?_
    refine r_aload_n c259_12 rfl rfl ?_
    refine r_aload_n c259_13 rfl rfl ?_
    refine r_getf (q_Gr.rb (S := fun k j => k = 139 ∧ (j = 17 ∨ j = 18)) hR (by repeat (first | exact q_Gr.rf | refine q_Gr.ud ?_ (by omega) (by first | assumption | rfl) rfl (by first | exact ⟨fun h9 => absurd h9 (by decide), fun h9 => absurd h9 (by decide)⟩ | (constructor <;> (intro h9; omega))) | refine q_Gr.udz ?_ (by omega) (by first | assumption | decide | omega) (by first | exact ⟨fun h9 => absurd h9 (by decide), fun h9 => absurd h9 (by decide)⟩ | (constructor <;> (intro h9; omega))) | refine q_Gr.tr ?_ (by assumption) (by intro k9 j9 hk9; omega)))) c259_14 rfl rfl ?_
    intro y2
    refine r_puti c259_17 (by first | assumption | omega) (by decide) (by first | assumption | rfl) rfl rfl rfl ?_
    refine r_iconst c259_20 rfl ?_
    exact r_zret c259_21 ⟨rfl, rfl, rfl⟩ (by decide) ⟨rfl, ⟨_, rfl, (by decide)⟩, (by repeat (first | exact q_Gr.rf | refine q_Gr.ud ?_ (by omega) (by first | assumption | rfl) rfl (by first | exact ⟨fun h9 => absurd h9 (by decide), fun h9 => absurd h9 (by decide)⟩ | (constructor <;> (intro h9; omega))) | refine q_Gr.udz ?_ (by omega) (by first | assumption | decide | omega) (by first | exact ⟨fun h9 => absurd h9 (by decide), fun h9 => absurd h9 (by decide)⟩ | (constructor <;> (intro h9; omega))) | refine q_Gr.tr ?_ (by assumption) (by intro k9 j9 hk9; omega)))⟩
theorem c298_0 : q_cat 298 0 (.aload_n 0) 1 0 0 (0) := ⟨rfl, rfl⟩
theorem c298_1 : q_cat 298 1 (.iconst 0) 1 0 0 (0) := ⟨rfl, rfl⟩
theorem c298_2 : q_cat 298 2 (.putfield 60) 3 9 7 (0) := ⟨rfl, rfl⟩
theorem c298_5 : q_cat 298 5 (.aload_n 0) 1 0 0 (0) := ⟨rfl, rfl⟩
theorem c298_6 : q_cat 298 6 (.iload_n 1) 1 1 0 (0) := ⟨rfl, rfl⟩
theorem c298_7 : q_cat 298 7 (.i2l) 1 0 0 (0) := ⟨rfl, rfl⟩
theorem c298_8 : q_cat 298 8 (.lconst 0) 1 0 0 (0) := ⟨rfl, rfl⟩
theorem c298_9 : q_cat 298 9 (.ldc2_w 71) 3 0 0 (2) := ⟨rfl, rfl⟩
theorem c298_12 : q_cat 298 12 (.invokestatic 163) 3 267 1 (0) := ⟨rfl, rfl⟩
theorem c298_15 : q_cat 298 15 (.ifCond .ne 7) 3 22 0 (0) := ⟨rfl, rfl⟩
theorem c298_18 : q_cat 298 18 (.iconst 1) 1 0 0 (0) := ⟨rfl, rfl⟩
theorem c298_19 : q_cat 298 19 (.goto 4) 3 23 0 (0) := ⟨rfl, rfl⟩
theorem c298_22 : q_cat 298 22 (.iconst 0) 1 0 0 (0) := ⟨rfl, rfl⟩
theorem c298_23 : q_cat 298 23 (.iconst 1) 1 0 0 (0) := ⟨rfl, rfl⟩
theorem c298_24 : q_cat 298 24 (.invokevirtual 273) 3 258 0 (0) := ⟨rfl, rfl⟩
theorem c298_27 : q_cat 298 27 (.ireturn) 1 0 0 (0) := ⟨rfl, rfl⟩
theorem k298 {Γ : q_Γ} (hG : q_GG Γ) {h : q_F} (hZ : q_Bz h) (hR : q_Rb h) {v1 : Int}  :
    q_M Γ q_K 155 298 [(2, Int.ofNat 139), (0, v1)] h (fun t w h' => (t = 1 ∧ (∃ z, w = ((0, z) : q_V) ∧ (z = 0 ∨ z = 1) ∧ (z = 1 ∨ (0 ≤ q_w32 v1 ∧ q_w32 v1 < 3))) ∧ q_Gr (fun k j => k = 139 ∧ j = 7) h h')) := by
  refine q_M.of (by decide) (Nat.le_of_ble_eq_true rfl) hG ?_
  refine r_aload_n c298_0 rfl rfl ?_
  refine r_iconst c298_1 rfl ?_
  refine r_puti c298_2 (by first | assumption | omega) (by decide) (by first | assumption | rfl) rfl rfl rfl ?_
  refine r_aload_n c298_5 rfl rfl ?_
  refine r_iload_n c298_6 rfl rfl ?_
  refine r_i2l c298_7 (by first | exact q_w32_id (by omega) (by omega) | exact q_w32w _ | exact rfl) rfl ?_
  refine r_lconst c298_8 rfl ?_
  refine r_ldc2 c298_9 rfl rfl ?_
  refine r_callG c298_12 (fun _ => rfl) rfl rfl rfl (k267 hG (q_Gr.bz (S := fun k j => k = 139 ∧ j = 7) hZ (by repeat (first | exact q_Gr.rf | refine q_Gr.ud ?_ (by omega) (by first | assumption | rfl) rfl (by first | exact ⟨fun h9 => absurd h9 (by decide), fun h9 => absurd h9 (by decide)⟩ | (constructor <;> (intro h9; omega))) | refine q_Gr.udz ?_ (by omega) (by first | assumption | decide | omega) (by first | exact ⟨fun h9 => absurd h9 (by decide), fun h9 => absurd h9 (by decide)⟩ | (constructor <;> (intro h9; omega))) | refine q_Gr.tr ?_ (by assumption) (by intro k9 j9 hk9; omega)))) (q_Gr.rb (S := fun k j => k = 139 ∧ j = 7) hR (by repeat (first | exact q_Gr.rf | refine q_Gr.ud ?_ (by omega) (by first | assumption | rfl) rfl (by first | exact ⟨fun h9 => absurd h9 (by decide), fun h9 => absurd h9 (by decide)⟩ | (constructor <;> (intro h9; omega))) | refine q_Gr.udz ?_ (by omega) (by first | assumption | decide | omega) (by first | exact ⟨fun h9 => absurd h9 (by decide), fun h9 => absurd h9 (by decide)⟩ | (constructor <;> (intro h9; omega))) | refine q_Gr.tr ?_ (by assumption) (by intro k9 j9 hk9; omega)))) (by first | exact q_w64_id (by omega) (by omega) | exact rfl) (by first | exact q_w64_id (by omega) (by omega) | exact rfl) (by first | exact q_w64_id (by omega) (by omega) | exact rfl)) ?_
  intro t1 w1 g1 p1
  obtain ⟨rfl, ⟨z1, rfl, hz1, hs1⟩, rfl⟩ := p1
  refine Or.inr (Or.inl ⟨rfl, ?_⟩)
  refine r_if_ne c298_15 rfl (by first | exact q_w32_id (by omega) (by omega) | exact q_w32w _ | exact rfl) ?_ ?_
  · intro b2
    refine r_iconst c298_22 rfl ?_
    refine r_iconst c298_23 rfl ?_
    refine r_vcG c298_24 (by first | assumption | omega) (by decide) (by first | assumption | rfl) rfl rfl rfl (k258 hG (q_Gr.bz (S := fun k j => k = 139 ∧ j = 7) hZ (by repeat (first | exact q_Gr.rf | refine q_Gr.ud ?_ (by omega) (by first | assumption | rfl) rfl (by first | exact ⟨fun h9 => absurd h9 (by decide), fun h9 => absurd h9 (by decide)⟩ | (constructor <;> (intro h9; omega))) | refine q_Gr.udz ?_ (by omega) (by first | assumption | decide | omega) (by first | exact ⟨fun h9 => absurd h9 (by decide), fun h9 => absurd h9 (by decide)⟩ | (constructor <;> (intro h9; omega))) | refine q_Gr.tr ?_ (by assumption) (by intro k9 j9 hk9; omega)))) (q_Gr.rb (S := fun k j => k = 139 ∧ j = 7) hR (by repeat (first | exact q_Gr.rf | refine q_Gr.ud ?_ (by omega) (by first | assumption | rfl) rfl (by first | exact ⟨fun h9 => absurd h9 (by decide), fun h9 => absurd h9 (by decide)⟩ | (constructor <;> (intro h9; omega))) | refine q_Gr.udz ?_ (by omega) (by first | assumption | decide | omega) (by first | exact ⟨fun h9 => absurd h9 (by decide), fun h9 => absurd h9 (by decide)⟩ | (constructor <;> (intro h9; omega))) | refine q_Gr.tr ?_ (by assumption) (by intro k9 j9 hk9; omega)))) (by first | assumption | decide | omega)) ?_
    intro t3 w3 g3 p3
    obtain ⟨rfl, ⟨z3, rfl, hz3, hs3⟩, e3⟩ := p3
    refine Or.inr (Or.inl ⟨rfl, ?_⟩)
    exact r_zret c298_27 ⟨rfl, rfl, rfl⟩ (by first | assumption | omega) ⟨rfl, ⟨_, rfl, (by first | assumption | omega), (by omega)⟩, (by repeat (first | exact q_Gr.rf | refine q_Gr.ud ?_ (by omega) (by first | assumption | rfl) rfl (by first | exact ⟨fun h9 => absurd h9 (by decide), fun h9 => absurd h9 (by decide)⟩ | (constructor <;> (intro h9; omega))) | refine q_Gr.udz ?_ (by omega) (by first | assumption | decide | omega) (by first | exact ⟨fun h9 => absurd h9 (by decide), fun h9 => absurd h9 (by decide)⟩ | (constructor <;> (intro h9; omega))) | refine q_Gr.tr ?_ (by assumption) (by intro k9 j9 hk9; omega)))⟩
  · intro b2
    refine r_iconst c298_18 rfl ?_
    refine r_goto c298_19 ?_
    refine r_iconst c298_23 rfl ?_
    refine r_vcG c298_24 (by first | assumption | omega) (by decide) (by first | assumption | rfl) rfl rfl rfl (k258 hG (q_Gr.bz (S := fun k j => k = 139 ∧ j = 7) hZ (by repeat (first | exact q_Gr.rf | refine q_Gr.ud ?_ (by omega) (by first | assumption | rfl) rfl (by first | exact ⟨fun h9 => absurd h9 (by decide), fun h9 => absurd h9 (by decide)⟩ | (constructor <;> (intro h9; omega))) | refine q_Gr.udz ?_ (by omega) (by first | assumption | decide | omega) (by first | exact ⟨fun h9 => absurd h9 (by decide), fun h9 => absurd h9 (by decide)⟩ | (constructor <;> (intro h9; omega))) | refine q_Gr.tr ?_ (by assumption) (by intro k9 j9 hk9; omega)))) (q_Gr.rb (S := fun k j => k = 139 ∧ j = 7) hR (by repeat (first | exact q_Gr.rf | refine q_Gr.ud ?_ (by omega) (by first | assumption | rfl) rfl (by first | exact ⟨fun h9 => absurd h9 (by decide), fun h9 => absurd h9 (by decide)⟩ | (constructor <;> (intro h9; omega))) | refine q_Gr.udz ?_ (by omega) (by first | assumption | decide | omega) (by first | exact ⟨fun h9 => absurd h9 (by decide), fun h9 => absurd h9 (by decide)⟩ | (constructor <;> (intro h9; omega))) | refine q_Gr.tr ?_ (by assumption) (by intro k9 j9 hk9; omega)))) (by first | assumption | decide | omega)) ?_
    intro t4 w4 g4 p4
    obtain ⟨rfl, ⟨z4, rfl, hz4, hs4⟩, e4⟩ := p4
    refine Or.inr (Or.inl ⟨rfl, ?_⟩)
    exact r_zret c298_27 ⟨rfl, rfl, rfl⟩ (by first | assumption | omega) ⟨rfl, ⟨_, rfl, (by first | assumption | omega), (by omega)⟩, (by repeat (first | exact q_Gr.rf | refine q_Gr.ud ?_ (by omega) (by first | assumption | rfl) rfl (by first | exact ⟨fun h9 => absurd h9 (by decide), fun h9 => absurd h9 (by decide)⟩ | (constructor <;> (intro h9; omega))) | refine q_Gr.udz ?_ (by omega) (by first | assumption | decide | omega) (by first | exact ⟨fun h9 => absurd h9 (by decide), fun h9 => absurd h9 (by decide)⟩ | (constructor <;> (intro h9; omega))) | refine q_Gr.tr ?_ (by assumption) (by intro k9 j9 hk9; omega)))⟩
theorem c302_0 : q_cat 302 0 (.aload_n 0) 1 0 0 (0) := ⟨rfl, rfl⟩
theorem c302_1 : q_cat 302 1 (.aload_n 0) 1 0 0 (0) := ⟨rfl, rfl⟩
theorem c302_2 : q_cat 302 2 (.getfield 7) 3 9 0 (3) := ⟨rfl, rfl⟩
theorem c302_5 : q_cat 302 5 (.bipush 41) 2 0 0 (0) := ⟨rfl, rfl⟩
theorem c302_7 : q_cat 302 7 (.iload_n 1) 1 1 0 (0) := ⟨rfl, rfl⟩
theorem c302_8 : q_cat 302 8 (.iadd) 1 0 0 (0) := ⟨rfl, rfl⟩
theorem c302_9 : q_cat 302 9 (.laload) 1 0 0 (0) := ⟨rfl, rfl⟩
theorem c302_10 : q_cat 302 10 (.lconst 0) 1 0 0 (0) := ⟨rfl, rfl⟩
theorem c302_11 : q_cat 302 11 (.lcmp) 1 0 0 (0) := ⟨rfl, rfl⟩
theorem c302_12 : q_cat 302 12 (.ifCond .ne 7) 3 19 0 (0) := ⟨rfl, rfl⟩
theorem c302_15 : q_cat 302 15 (.iconst 1) 1 0 0 (0) := ⟨rfl, rfl⟩
theorem c302_16 : q_cat 302 16 (.goto 4) 3 20 0 (0) := ⟨rfl, rfl⟩
theorem c302_19 : q_cat 302 19 (.iconst 0) 1 0 0 (0) := ⟨rfl, rfl⟩
theorem c302_20 : q_cat 302 20 (.iload_n 2) 1 2 0 (0) := ⟨rfl, rfl⟩
theorem c302_21 : q_cat 302 21 (.invokevirtual 273) 3 258 0 (0) := ⟨rfl, rfl⟩
theorem c302_24 : q_cat 302 24 (.ireturn) 1 0 0 (0) := ⟨rfl, rfl⟩
theorem k302 {Γ : q_Γ} (hG : q_GG Γ) {h : q_F} (hZ : q_Bz h) (hR : q_Rb h) {v1 : Int} {v2 : Int} (hp0 : 0 ≤ v1 ∧ v1 < 3) :
    q_M Γ q_K 155 302 [(2, Int.ofNat 139), (0, v1), (0, v2)] h (fun t w h' => (t = 1 ∧ (∃ z, w = ((0, z) : q_V) ∧ (z = 0 ∨ z = 1)) ∧ q_Gr (fun k j => k = 139 ∧ j = 7) h h')) := by
  refine q_M.of (by decide) (Nat.le_of_ble_eq_true rfl) hG ?_
  refine r_aload_n c302_0 rfl rfl ?_
  refine r_aload_n c302_1 rfl rfl ?_
  refine r_getr c302_2 (by first | assumption | omega) (by decide) (by first | assumption | rfl) rfl rfl ?_
  refine r_bipush c302_5 rfl ?_
  refine r_iload_n c302_7 rfl rfl ?_
  refine r_iadd c302_8 (by first | exact q_w32_id (by omega) (by omega) | exact q_w32w _ | exact rfl) rfl ?_
  refine r_laldw (q_Gr.rb (S := fun k j => k = 139 ∧ j = 7) hR (by repeat (first | exact q_Gr.rf | refine q_Gr.ud ?_ (by omega) (by first | assumption | rfl) rfl (by first | exact ⟨fun h9 => absurd h9 (by decide), fun h9 => absurd h9 (by decide)⟩ | (constructor <;> (intro h9; omega))) | refine q_Gr.udz ?_ (by omega) (by first | assumption | decide | omega) (by first | exact ⟨fun h9 => absurd h9 (by decide), fun h9 => absurd h9 (by decide)⟩ | (constructor <;> (intro h9; omega))) | refine q_Gr.tr ?_ (by assumption) (by intro k9 j9 hk9; omega)))) c302_9 (by first | exact q_w32_id (by omega) (by omega) | exact q_w32w _ | exact rfl) (by first | assumption | omega) (by first | assumption | omega) rfl ?_
  intro y1
  refine r_lconst c302_10 rfl ?_
  refine r_lcmpn c302_11 rfl (by first | exact q_w64_id (by omega) (by omega) | exact rfl) (show q_w64 (0) = 0 from rfl) ?_ ?_ ?_
  · intro b2
    refine r_if_ne c302_12 rfl (show q_w32 (-1) = -1 from rfl) ?_ ?_
    · intro b3
      refine r_iconst c302_19 rfl ?_
      refine r_iload_n c302_20 rfl rfl ?_
      refine r_vcG c302_21 (by first | assumption | omega) (by decide) (by first | assumption | rfl) rfl rfl rfl (k258 hG (q_Gr.bz (S := fun k j => k = 139 ∧ j = 7) hZ (by repeat (first | exact q_Gr.rf | refine q_Gr.ud ?_ (by omega) (by first | assumption | rfl) rfl (by first | exact ⟨fun h9 => absurd h9 (by decide), fun h9 => absurd h9 (by decide)⟩ | (constructor <;> (intro h9; omega))) | refine q_Gr.udz ?_ (by omega) (by first | assumption | decide | omega) (by first | exact ⟨fun h9 => absurd h9 (by decide), fun h9 => absurd h9 (by decide)⟩ | (constructor <;> (intro h9; omega))) | refine q_Gr.tr ?_ (by assumption) (by intro k9 j9 hk9; omega)))) (q_Gr.rb (S := fun k j => k = 139 ∧ j = 7) hR (by repeat (first | exact q_Gr.rf | refine q_Gr.ud ?_ (by omega) (by first | assumption | rfl) rfl (by first | exact ⟨fun h9 => absurd h9 (by decide), fun h9 => absurd h9 (by decide)⟩ | (constructor <;> (intro h9; omega))) | refine q_Gr.udz ?_ (by omega) (by first | assumption | decide | omega) (by first | exact ⟨fun h9 => absurd h9 (by decide), fun h9 => absurd h9 (by decide)⟩ | (constructor <;> (intro h9; omega))) | refine q_Gr.tr ?_ (by assumption) (by intro k9 j9 hk9; omega)))) (by first | assumption | decide | omega)) ?_
      intro t4 w4 g4 p4
      obtain ⟨rfl, ⟨z4, rfl, hz4, hs4⟩, e4⟩ := p4
      refine Or.inr (Or.inl ⟨rfl, ?_⟩)
      exact r_zret c302_24 ⟨rfl, rfl, rfl⟩ (by first | assumption | omega) ⟨rfl, ⟨_, rfl, (by first | assumption | omega)⟩, (by repeat (first | exact q_Gr.rf | refine q_Gr.ud ?_ (by omega) (by first | assumption | rfl) rfl (by first | exact ⟨fun h9 => absurd h9 (by decide), fun h9 => absurd h9 (by decide)⟩ | (constructor <;> (intro h9; omega))) | refine q_Gr.udz ?_ (by omega) (by first | assumption | decide | omega) (by first | exact ⟨fun h9 => absurd h9 (by decide), fun h9 => absurd h9 (by decide)⟩ | (constructor <;> (intro h9; omega))) | refine q_Gr.tr ?_ (by assumption) (by intro k9 j9 hk9; omega)))⟩
    · intro b3
      exact absurd b3.1 (by decide)
  · intro b2
    refine r_if_ne c302_12 rfl (show q_w32 (0) = 0 from rfl) ?_ ?_
    · intro b5
      exact absurd b5.1 (by decide)
    · intro b5
      refine r_iconst c302_15 rfl ?_
      refine r_goto c302_16 ?_
      refine r_iload_n c302_20 rfl rfl ?_
      refine r_vcG c302_21 (by first | assumption | omega) (by decide) (by first | assumption | rfl) rfl rfl rfl (k258 hG (q_Gr.bz (S := fun k j => k = 139 ∧ j = 7) hZ (by repeat (first | exact q_Gr.rf | refine q_Gr.ud ?_ (by omega) (by first | assumption | rfl) rfl (by first | exact ⟨fun h9 => absurd h9 (by decide), fun h9 => absurd h9 (by decide)⟩ | (constructor <;> (intro h9; omega))) | refine q_Gr.udz ?_ (by omega) (by first | assumption | decide | omega) (by first | exact ⟨fun h9 => absurd h9 (by decide), fun h9 => absurd h9 (by decide)⟩ | (constructor <;> (intro h9; omega))) | refine q_Gr.tr ?_ (by assumption) (by intro k9 j9 hk9; omega)))) (q_Gr.rb (S := fun k j => k = 139 ∧ j = 7) hR (by repeat (first | exact q_Gr.rf | refine q_Gr.ud ?_ (by omega) (by first | assumption | rfl) rfl (by first | exact ⟨fun h9 => absurd h9 (by decide), fun h9 => absurd h9 (by decide)⟩ | (constructor <;> (intro h9; omega))) | refine q_Gr.udz ?_ (by omega) (by first | assumption | decide | omega) (by first | exact ⟨fun h9 => absurd h9 (by decide), fun h9 => absurd h9 (by decide)⟩ | (constructor <;> (intro h9; omega))) | refine q_Gr.tr ?_ (by assumption) (by intro k9 j9 hk9; omega)))) (by first | assumption | decide | omega)) ?_
      intro t6 w6 g6 p6
      obtain ⟨rfl, ⟨z6, rfl, hz6, hs6⟩, e6⟩ := p6
      refine Or.inr (Or.inl ⟨rfl, ?_⟩)
      exact r_zret c302_24 ⟨rfl, rfl, rfl⟩ (by first | assumption | omega) ⟨rfl, ⟨_, rfl, (by first | assumption | omega)⟩, (by repeat (first | exact q_Gr.rf | refine q_Gr.ud ?_ (by omega) (by first | assumption | rfl) rfl (by first | exact ⟨fun h9 => absurd h9 (by decide), fun h9 => absurd h9 (by decide)⟩ | (constructor <;> (intro h9; omega))) | refine q_Gr.udz ?_ (by omega) (by first | assumption | decide | omega) (by first | exact ⟨fun h9 => absurd h9 (by decide), fun h9 => absurd h9 (by decide)⟩ | (constructor <;> (intro h9; omega))) | refine q_Gr.tr ?_ (by assumption) (by intro k9 j9 hk9; omega)))⟩
  · intro b2
    refine r_if_ne c302_12 rfl (show q_w32 (1) = 1 from rfl) ?_ ?_
    · intro b7
      refine r_iconst c302_19 rfl ?_
      refine r_iload_n c302_20 rfl rfl ?_
      refine r_vcG c302_21 (by first | assumption | omega) (by decide) (by first | assumption | rfl) rfl rfl rfl (k258 hG (q_Gr.bz (S := fun k j => k = 139 ∧ j = 7) hZ (by repeat (first | exact q_Gr.rf | refine q_Gr.ud ?_ (by omega) (by first | assumption | rfl) rfl (by first | exact ⟨fun h9 => absurd h9 (by decide), fun h9 => absurd h9 (by decide)⟩ | (constructor <;> (intro h9; omega))) | refine q_Gr.udz ?_ (by omega) (by first | assumption | decide | omega) (by first | exact ⟨fun h9 => absurd h9 (by decide), fun h9 => absurd h9 (by decide)⟩ | (constructor <;> (intro h9; omega))) | refine q_Gr.tr ?_ (by assumption) (by intro k9 j9 hk9; omega)))) (q_Gr.rb (S := fun k j => k = 139 ∧ j = 7) hR (by repeat (first | exact q_Gr.rf | refine q_Gr.ud ?_ (by omega) (by first | assumption | rfl) rfl (by first | exact ⟨fun h9 => absurd h9 (by decide), fun h9 => absurd h9 (by decide)⟩ | (constructor <;> (intro h9; omega))) | refine q_Gr.udz ?_ (by omega) (by first | assumption | decide | omega) (by first | exact ⟨fun h9 => absurd h9 (by decide), fun h9 => absurd h9 (by decide)⟩ | (constructor <;> (intro h9; omega))) | refine q_Gr.tr ?_ (by assumption) (by intro k9 j9 hk9; omega)))) (by first | assumption | decide | omega)) ?_
      intro t8 w8 g8 p8
      obtain ⟨rfl, ⟨z8, rfl, hz8, hs8⟩, e8⟩ := p8
      refine Or.inr (Or.inl ⟨rfl, ?_⟩)
      exact r_zret c302_24 ⟨rfl, rfl, rfl⟩ (by first | assumption | omega) ⟨rfl, ⟨_, rfl, (by first | assumption | omega)⟩, (by repeat (first | exact q_Gr.rf | refine q_Gr.ud ?_ (by omega) (by first | assumption | rfl) rfl (by first | exact ⟨fun h9 => absurd h9 (by decide), fun h9 => absurd h9 (by decide)⟩ | (constructor <;> (intro h9; omega))) | refine q_Gr.udz ?_ (by omega) (by first | assumption | decide | omega) (by first | exact ⟨fun h9 => absurd h9 (by decide), fun h9 => absurd h9 (by decide)⟩ | (constructor <;> (intro h9; omega))) | refine q_Gr.tr ?_ (by assumption) (by intro k9 j9 hk9; omega)))⟩
    · intro b7
      exact absurd b7.1 (by decide)
theorem c256_0 : q_cat 256 0 (.aload_n 0) 1 0 0 (0) := ⟨rfl, rfl⟩
theorem c256_1 : q_cat 256 1 (.bipush 26) 2 0 0 (0) := ⟨rfl, rfl⟩
theorem c256_3 : q_cat 256 3 (.iload_n 1) 1 1 0 (0) := ⟨rfl, rfl⟩
theorem c256_4 : q_cat 256 4 (.iadd) 1 0 0 (0) := ⟨rfl, rfl⟩
theorem c256_5 : q_cat 256 5 (.invokevirtual 82) 3 303 0 (0) := ⟨rfl, rfl⟩
theorem c256_8 : q_cat 256 8 (.aload_n 0) 1 0 0 (0) := ⟨rfl, rfl⟩
theorem c256_9 : q_cat 256 9 (.bipush 50) 2 0 0 (0) := ⟨rfl, rfl⟩
theorem c256_11 : q_cat 256 11 (.iload_n 1) 1 1 0 (0) := ⟨rfl, rfl⟩
theorem c256_12 : q_cat 256 12 (.iadd) 1 0 0 (0) := ⟨rfl, rfl⟩
theorem c256_13 : q_cat 256 13 (.invokevirtual 82) 3 303 0 (0) := ⟨rfl, rfl⟩
theorem c256_16 : q_cat 256 16 (.isub) 1 0 0 (0) := ⟨rfl, rfl⟩
theorem c256_17 : q_cat 256 17 (.aload_n 0) 1 0 0 (0) := ⟨rfl, rfl⟩
theorem c256_18 : q_cat 256 18 (.bipush 47) 2 0 0 (0) := ⟨rfl, rfl⟩
theorem c256_20 : q_cat 256 20 (.iload_n 1) 1 1 0 (0) := ⟨rfl, rfl⟩
theorem c256_21 : q_cat 256 21 (.iadd) 1 0 0 (0) := ⟨rfl, rfl⟩
theorem c256_22 : q_cat 256 22 (.invokevirtual 82) 3 303 0 (0) := ⟨rfl, rfl⟩
theorem c256_25 : q_cat 256 25 (.isub) 1 0 0 (0) := ⟨rfl, rfl⟩
theorem c256_26 : q_cat 256 26 (.ireturn) 1 0 0 (0) := ⟨rfl, rfl⟩
theorem k256 {Γ : q_Γ} (hG : q_GG Γ) {h : q_F} (hZ : q_Bz h) (hR : q_Rb h) {v1 : Int} (hp0 : 0 ≤ v1 ∧ v1 < 3) :
    q_M Γ q_K 155 256 [(2, Int.ofNat 139), (0, v1)] h (fun t w h' => (t = 1 ∧ (∃ z, w = ((0, z) : q_V)) ∧ h' = h)) := by
  refine q_M.of (by decide) (Nat.le_of_ble_eq_true rfl) hG ?_
  refine r_aload_n c256_0 rfl rfl ?_
  refine r_bipush c256_1 rfl ?_
  refine r_iload_n c256_3 rfl rfl ?_
  refine r_iadd c256_4 (by first | exact q_w32_id (by omega) (by omega) | exact q_w32w _ | exact rfl) rfl ?_
  refine r_vcG c256_5 (by first | assumption | omega) (by decide) (by first | assumption | rfl) rfl rfl rfl (k303 hG hZ hR (by first | assumption | omega)) ?_
  intro t1 w1 g1 p1
  obtain ⟨rfl, ⟨z1, rfl, hs1⟩, rfl⟩ := p1
  refine Or.inr (Or.inl ⟨rfl, ?_⟩)
  refine r_aload_n c256_8 rfl rfl ?_
  refine r_bipush c256_9 rfl ?_
  refine r_iload_n c256_11 rfl rfl ?_
  refine r_iadd c256_12 (by first | exact q_w32_id (by omega) (by omega) | exact q_w32w _ | exact rfl) rfl ?_
  refine r_vcG c256_13 (by first | assumption | omega) (by decide) (by first | assumption | rfl) rfl rfl rfl (k303 hG hZ hR (by first | assumption | omega)) ?_
  intro t2 w2 g2 p2
  obtain ⟨rfl, ⟨z2, rfl, hs2⟩, rfl⟩ := p2
  refine Or.inr (Or.inl ⟨rfl, ?_⟩)
  refine r_isub c256_16 (by first | exact q_w32_id (by omega) (by omega) | exact q_w32w _ | exact rfl) rfl ?_
  refine r_aload_n c256_17 rfl rfl ?_
  refine r_bipush c256_18 rfl ?_
  refine r_iload_n c256_20 rfl rfl ?_
  refine r_iadd c256_21 (by first | exact q_w32_id (by omega) (by omega) | exact q_w32w _ | exact rfl) rfl ?_
  refine r_vcG c256_22 (by first | assumption | omega) (by decide) (by first | assumption | rfl) rfl rfl rfl (k303 hG hZ hR (by first | assumption | omega)) ?_
  intro t3 w3 g3 p3
  obtain ⟨rfl, ⟨z3, rfl, hs3⟩, rfl⟩ := p3
  refine Or.inr (Or.inl ⟨rfl, ?_⟩)
  refine r_isub c256_25 (by first | exact q_w32_id (by omega) (by omega) | exact q_w32w _ | exact rfl) rfl ?_
  exact r_iret c256_26 ⟨rfl, rfl, rfl⟩ ⟨rfl, ⟨_, rfl⟩, rfl⟩
theorem c270_0 : q_cat 270 0 (.aload_n 0) 1 0 0 (0) := ⟨rfl, rfl⟩
theorem c270_1 : q_cat 270 1 (.getfield 7) 3 9 0 (3) := ⟨rfl, rfl⟩
theorem c270_4 : q_cat 270 4 (.iconst 3) 1 0 0 (0) := ⟨rfl, rfl⟩
theorem c270_5 : q_cat 270 5 (.laload) 1 0 0 (0) := ⟨rfl, rfl⟩
theorem c270_6 : q_cat 270 6 (.lconst 0) 1 0 0 (0) := ⟨rfl, rfl⟩
theorem c270_7 : q_cat 270 7 (.lcmp) 1 0 0 (0) := ⟨rfl, rfl⟩
theorem c270_8 : q_cat 270 8 (.ifCond .ne 14) 3 22 0 (0) := ⟨rfl, rfl⟩
theorem c270_11 : q_cat 270 11 (.aload_n 0) 1 0 0 (0) := ⟨rfl, rfl⟩
theorem c270_12 : q_cat 270 12 (.getfield 7) 3 9 0 (3) := ⟨rfl, rfl⟩
theorem c270_15 : q_cat 270 15 (.iconst 4) 1 0 0 (0) := ⟨rfl, rfl⟩
theorem c270_16 : q_cat 270 16 (.laload) 1 0 0 (0) := ⟨rfl, rfl⟩
theorem c270_17 : q_cat 270 17 (.lconst 0) 1 0 0 (0) := ⟨rfl, rfl⟩
theorem c270_18 : q_cat 270 18 (.lcmp) 1 0 0 (0) := ⟨rfl, rfl⟩
theorem c270_19 : q_cat 270 19 (.ifCond .eq 7) 3 26 0 (0) := ⟨rfl, rfl⟩
theorem c270_22 : q_cat 270 22 (.iconst 1) 1 0 0 (0) := ⟨rfl, rfl⟩
theorem c270_23 : q_cat 270 23 (.goto 4) 3 27 0 (0) := ⟨rfl, rfl⟩
theorem c270_26 : q_cat 270 26 (.iconst 0) 1 0 0 (0) := ⟨rfl, rfl⟩
theorem c270_27 : q_cat 270 27 (.ireturn) 1 0 0 (0) := ⟨rfl, rfl⟩
theorem k270 {Γ : q_Γ} (hG : q_GG Γ) {h : q_F} (hZ : q_Bz h) (hR : q_Rb h)   :
    q_M Γ q_K 155 270 [(2, Int.ofNat 139)] h (fun t w h' => (t = 1 ∧ (∃ z, w = ((0, z) : q_V) ∧ (z = 0 ∨ z = 1)) ∧ h' = h)) := by
  refine q_M.of (by decide) (Nat.le_of_ble_eq_true rfl) hG ?_
  refine r_aload_n c270_0 rfl rfl ?_
  refine r_getr c270_1 (by first | assumption | omega) (by decide) (by first | assumption | rfl) rfl rfl ?_
  refine r_iconst c270_4 rfl ?_
  refine r_laldw hR c270_5 (show q_w32 (3) = 3 from rfl) (by first | assumption | omega) (by first | assumption | omega) rfl ?_
  intro y1
  refine r_lconst c270_6 rfl ?_
  refine r_lcmpn c270_7 rfl (by first | exact q_w64_id (by omega) (by omega) | exact rfl) (show q_w64 (0) = 0 from rfl) ?_ ?_ ?_
  · intro b2
    refine r_if_ne c270_8 rfl (show q_w32 (-1) = -1 from rfl) ?_ ?_
    · intro b3
      refine r_iconst c270_22 rfl ?_
      refine r_goto c270_23 ?_
      exact r_zret c270_27 ⟨rfl, rfl, rfl⟩ (by decide) ⟨rfl, ⟨_, rfl, (by decide)⟩, rfl⟩
    · intro b3
      exact absurd b3.1 (by decide)
  · intro b2
    refine r_if_ne c270_8 rfl (show q_w32 (0) = 0 from rfl) ?_ ?_
    · intro b4
      exact absurd b4.1 (by decide)
    · intro b4
      refine r_aload_n c270_11 rfl rfl ?_
      refine r_getr c270_12 (by first | assumption | omega) (by decide) (by first | assumption | rfl) rfl rfl ?_
      refine r_iconst c270_15 rfl ?_
      refine r_laldw hR c270_16 (show q_w32 (4) = 4 from rfl) (by first | assumption | omega) (by first | assumption | omega) rfl ?_
      intro y5
      refine r_lconst c270_17 rfl ?_
      refine r_lcmpn c270_18 rfl (by first | exact q_w64_id (by omega) (by omega) | exact rfl) (show q_w64 (0) = 0 from rfl) ?_ ?_ ?_
      · intro b6
        refine r_if_eq c270_19 rfl (show q_w32 (-1) = -1 from rfl) ?_ ?_
        · intro b7
          exact absurd b7.1 (by decide)
        · intro b7
          refine r_iconst c270_22 rfl ?_
          refine r_goto c270_23 ?_
          exact r_zret c270_27 ⟨rfl, rfl, rfl⟩ (by decide) ⟨rfl, ⟨_, rfl, (by decide)⟩, rfl⟩
      · intro b6
        refine r_if_eq c270_19 rfl (show q_w32 (0) = 0 from rfl) ?_ ?_
        · intro b8
          refine r_iconst c270_26 rfl ?_
          exact r_zret c270_27 ⟨rfl, rfl, rfl⟩ (by decide) ⟨rfl, ⟨_, rfl, (by decide)⟩, rfl⟩
        · intro b8
          exact absurd b8.1 (by decide)
      · intro b6
        refine r_if_eq c270_19 rfl (show q_w32 (1) = 1 from rfl) ?_ ?_
        · intro b9
          exact absurd b9.1 (by decide)
        · intro b9
          refine r_iconst c270_22 rfl ?_
          refine r_goto c270_23 ?_
          exact r_zret c270_27 ⟨rfl, rfl, rfl⟩ (by decide) ⟨rfl, ⟨_, rfl, (by decide)⟩, rfl⟩
  · intro b2
    refine r_if_ne c270_8 rfl (show q_w32 (1) = 1 from rfl) ?_ ?_
    · intro b10
      refine r_iconst c270_22 rfl ?_
      refine r_goto c270_23 ?_
      exact r_zret c270_27 ⟨rfl, rfl, rfl⟩ (by decide) ⟨rfl, ⟨_, rfl, (by decide)⟩, rfl⟩
    · intro b10
      exact absurd b10.1 (by decide)
theorem c271_0 : q_cat 271 0 (.iload_n 1) 1 1 0 (0) := ⟨rfl, rfl⟩
theorem c271_1 : q_cat 271 1 (.i2l) 1 0 0 (0) := ⟨rfl, rfl⟩
theorem c271_2 : q_cat 271 2 (.lconst 0) 1 0 0 (0) := ⟨rfl, rfl⟩
theorem c271_3 : q_cat 271 3 (.aload_n 0) 1 0 0 (0) := ⟨rfl, rfl⟩
theorem c271_4 : q_cat 271 4 (.getfield 7) 3 9 0 (3) := ⟨rfl, rfl⟩
theorem c271_7 : q_cat 271 7 (.bipush 8) 2 0 0 (0) := ⟨rfl, rfl⟩
theorem c271_9 : q_cat 271 9 (.laload) 1 0 0 (0) := ⟨rfl, rfl⟩
theorem c271_10 : q_cat 271 10 (.invokestatic 163) 3 267 1 (0) := ⟨rfl, rfl⟩
theorem c271_13 : q_cat 271 13 (.ifCond .eq 39) 3 52 0 (0) := ⟨rfl, rfl⟩
theorem c271_16 : q_cat 271 16 (.iload_n 2) 1 2 0 (0) := ⟨rfl, rfl⟩
theorem c271_17 : q_cat 271 17 (.i2l) 1 0 0 (0) := ⟨rfl, rfl⟩
theorem c271_18 : q_cat 271 18 (.lconst 0) 1 0 0 (0) := ⟨rfl, rfl⟩
theorem c271_19 : q_cat 271 19 (.aload_n 0) 1 0 0 (0) := ⟨rfl, rfl⟩
theorem c271_20 : q_cat 271 20 (.getfield 7) 3 9 0 (3) := ⟨rfl, rfl⟩
theorem c271_23 : q_cat 271 23 (.bipush 9) 2 0 0 (0) := ⟨rfl, rfl⟩
theorem c271_25 : q_cat 271 25 (.laload) 1 0 0 (0) := ⟨rfl, rfl⟩
theorem c271_26 : q_cat 271 26 (.invokestatic 163) 3 267 1 (0) := ⟨rfl, rfl⟩
theorem c271_29 : q_cat 271 29 (.ifCond .eq 23) 3 52 0 (0) := ⟨rfl, rfl⟩
theorem c271_32 : q_cat 271 32 (.iload_n 3) 1 3 0 (0) := ⟨rfl, rfl⟩
theorem c271_33 : q_cat 271 33 (.i2l) 1 0 0 (0) := ⟨rfl, rfl⟩
theorem c271_34 : q_cat 271 34 (.lconst 0) 1 0 0 (0) := ⟨rfl, rfl⟩
theorem c271_35 : q_cat 271 35 (.aload_n 0) 1 0 0 (0) := ⟨rfl, rfl⟩
theorem c271_36 : q_cat 271 36 (.getfield 7) 3 9 0 (3) := ⟨rfl, rfl⟩
theorem c271_39 : q_cat 271 39 (.bipush 10) 2 0 0 (0) := ⟨rfl, rfl⟩
theorem c271_41 : q_cat 271 41 (.laload) 1 0 0 (0) := ⟨rfl, rfl⟩
theorem c271_42 : q_cat 271 42 (.invokestatic 163) 3 267 1 (0) := ⟨rfl, rfl⟩
theorem c271_45 : q_cat 271 45 (.ifCond .eq 7) 3 52 0 (0) := ⟨rfl, rfl⟩
theorem c271_48 : q_cat 271 48 (.iconst 1) 1 0 0 (0) := ⟨rfl, rfl⟩
theorem c271_49 : q_cat 271 49 (.goto 4) 3 53 0 (0) := ⟨rfl, rfl⟩
theorem c271_52 : q_cat 271 52 (.iconst 0) 1 0 0 (0) := ⟨rfl, rfl⟩
theorem c271_53 : q_cat 271 53 (.ireturn) 1 0 0 (0) := ⟨rfl, rfl⟩
theorem k271 {Γ : q_Γ} (hG : q_GG Γ) {h : q_F} (hZ : q_Bz h) (hR : q_Rb h) {v1 : Int} {v2 : Int} {v3 : Int}  :
    q_M Γ q_K 155 271 [(2, Int.ofNat 139), (0, v1), (0, v2), (0, v3)] h (fun t w h' => (t = 1 ∧ (∃ z, w = ((0, z) : q_V) ∧ (z = 0 ∨ z = 1)) ∧ h' = h)) := by
  refine q_M.of (by decide) (Nat.le_of_ble_eq_true rfl) hG ?_
  refine r_iload_n c271_0 rfl rfl ?_
  refine r_i2l c271_1 (by first | exact q_w32_id (by omega) (by omega) | exact q_w32w _ | exact rfl) rfl ?_
  refine r_lconst c271_2 rfl ?_
  refine r_aload_n c271_3 rfl rfl ?_
  refine r_getr c271_4 (by first | assumption | omega) (by decide) (by first | assumption | rfl) rfl rfl ?_
  refine r_bipush c271_7 rfl ?_
  refine r_laldw hR c271_9 (show q_w32 (8) = 8 from rfl) (by first | assumption | omega) (by first | assumption | omega) rfl ?_
  intro y1
  refine r_callG c271_10 (fun _ => rfl) rfl rfl rfl (k267 hG hZ hR (by first | exact q_w64_id (by omega) (by omega) | exact rfl) (by first | exact q_w64_id (by omega) (by omega) | exact rfl) (by first | exact q_w64_id (by omega) (by omega) | exact rfl)) ?_
  intro t2 w2 g2 p2
  obtain ⟨rfl, ⟨z2, rfl, hz2, hs2⟩, rfl⟩ := p2
  refine Or.inr (Or.inl ⟨rfl, ?_⟩)
  refine r_if_eq c271_13 rfl (by first | exact q_w32_id (by omega) (by omega) | exact q_w32w _ | exact rfl) ?_ ?_
  · intro b3
    refine r_iconst c271_52 rfl ?_
    exact r_zret c271_53 ⟨rfl, rfl, rfl⟩ (by decide) ⟨rfl, ⟨_, rfl, (by decide)⟩, rfl⟩
  · intro b3
    refine r_iload_n c271_16 rfl rfl ?_
    refine r_i2l c271_17 (by first | exact q_w32_id (by omega) (by omega) | exact q_w32w _ | exact rfl) rfl ?_
    refine r_lconst c271_18 rfl ?_
    refine r_aload_n c271_19 rfl rfl ?_
    refine r_getr c271_20 (by first | assumption | omega) (by decide) (by first | assumption | rfl) rfl rfl ?_
    refine r_bipush c271_23 rfl ?_
    refine r_laldw hR c271_25 (show q_w32 (9) = 9 from rfl) (by first | assumption | omega) (by first | assumption | omega) rfl ?_
    intro y4
    refine r_callG c271_26 (fun _ => rfl) rfl rfl rfl (k267 hG hZ hR (by first | exact q_w64_id (by omega) (by omega) | exact rfl) (by first | exact q_w64_id (by omega) (by omega) | exact rfl) (by first | exact q_w64_id (by omega) (by omega) | exact rfl)) ?_
    intro t5 w5 g5 p5
    obtain ⟨rfl, ⟨z5, rfl, hz5, hs5⟩, rfl⟩ := p5
    refine Or.inr (Or.inl ⟨rfl, ?_⟩)
    refine r_if_eq c271_29 rfl (by first | exact q_w32_id (by omega) (by omega) | exact q_w32w _ | exact rfl) ?_ ?_
    · intro b6
      refine r_iconst c271_52 rfl ?_
      exact r_zret c271_53 ⟨rfl, rfl, rfl⟩ (by decide) ⟨rfl, ⟨_, rfl, (by decide)⟩, rfl⟩
    · intro b6
      refine r_iload_n c271_32 rfl rfl ?_
      refine r_i2l c271_33 (by first | exact q_w32_id (by omega) (by omega) | exact q_w32w _ | exact rfl) rfl ?_
      refine r_lconst c271_34 rfl ?_
      refine r_aload_n c271_35 rfl rfl ?_
      refine r_getr c271_36 (by first | assumption | omega) (by decide) (by first | assumption | rfl) rfl rfl ?_
      refine r_bipush c271_39 rfl ?_
      refine r_laldw hR c271_41 (show q_w32 (10) = 10 from rfl) (by first | assumption | omega) (by first | assumption | omega) rfl ?_
      intro y7
      refine r_callG c271_42 (fun _ => rfl) rfl rfl rfl (k267 hG hZ hR (by first | exact q_w64_id (by omega) (by omega) | exact rfl) (by first | exact q_w64_id (by omega) (by omega) | exact rfl) (by first | exact q_w64_id (by omega) (by omega) | exact rfl)) ?_
      intro t8 w8 g8 p8
      obtain ⟨rfl, ⟨z8, rfl, hz8, hs8⟩, rfl⟩ := p8
      refine Or.inr (Or.inl ⟨rfl, ?_⟩)
      refine r_if_eq c271_45 rfl (by first | exact q_w32_id (by omega) (by omega) | exact q_w32w _ | exact rfl) ?_ ?_
      · intro b9
        refine r_iconst c271_52 rfl ?_
        exact r_zret c271_53 ⟨rfl, rfl, rfl⟩ (by decide) ⟨rfl, ⟨_, rfl, (by decide)⟩, rfl⟩
      · intro b9
        refine r_iconst c271_48 rfl ?_
        refine r_goto c271_49 ?_
        exact r_zret c271_53 ⟨rfl, rfl, rfl⟩ (by decide) ⟨rfl, ⟨_, rfl, (by decide)⟩, rfl⟩
theorem c291_0 : q_cat 291 0 (.aload_n 0) 1 0 0 (0) := ⟨rfl, rfl⟩
theorem c291_1 : q_cat 291 1 (.getfield 7) 3 9 0 (3) := ⟨rfl, rfl⟩
theorem c291_4 : q_cat 291 4 (.iconst 3) 1 0 0 (0) := ⟨rfl, rfl⟩
theorem c291_5 : q_cat 291 5 (.laload) 1 0 0 (0) := ⟨rfl, rfl⟩
theorem c291_6 : q_cat 291 6 (.lconst 0) 1 0 0 (0) := ⟨rfl, rfl⟩
theorem c291_7 : q_cat 291 7 (.lcmp) 1 0 0 (0) := ⟨rfl, rfl⟩
theorem c291_8 : q_cat 291 8 (.ifCond .ne 28) 3 36 0 (0) := ⟨rfl, rfl⟩
theorem c291_11 : q_cat 291 11 (.aload_n 0) 1 0 0 (0) := ⟨rfl, rfl⟩
theorem c291_12 : q_cat 291 12 (.invokevirtual 277) 3 265 0 (0) := ⟨rfl, rfl⟩
theorem c291_15 : q_cat 291 15 (.iconst 3) 1 0 0 (0) := ⟨rfl, rfl⟩
theorem c291_16 : q_cat 291 16 (.if_icmp .ne 20) 3 36 0 (0) := ⟨rfl, rfl⟩
theorem c291_19 : q_cat 291 19 (.aload_n 0) 1 0 0 (0) := ⟨rfl, rfl⟩
theorem c291_20 : q_cat 291 20 (.getfield 7) 3 9 0 (3) := ⟨rfl, rfl⟩
theorem c291_23 : q_cat 291 23 (.iconst 4) 1 0 0 (0) := ⟨rfl, rfl⟩
theorem c291_24 : q_cat 291 24 (.laload) 1 0 0 (0) := ⟨rfl, rfl⟩
theorem c291_25 : q_cat 291 25 (.ldc2_w 302) 3 0 0 (16) := ⟨rfl, rfl⟩
theorem c291_28 : q_cat 291 28 (.lcmp) 1 0 0 (0) := ⟨rfl, rfl⟩
theorem c291_29 : q_cat 291 29 (.ifCond .ge 7) 3 36 0 (0) := ⟨rfl, rfl⟩
theorem c291_32 : q_cat 291 32 (.iconst 1) 1 0 0 (0) := ⟨rfl, rfl⟩
theorem c291_33 : q_cat 291 33 (.goto 4) 3 37 0 (0) := ⟨rfl, rfl⟩
theorem c291_36 : q_cat 291 36 (.iconst 0) 1 0 0 (0) := ⟨rfl, rfl⟩
theorem c291_37 : q_cat 291 37 (.ireturn) 1 0 0 (0) := ⟨rfl, rfl⟩
theorem k291 {Γ : q_Γ} (hG : q_GG Γ) {h : q_F} (hZ : q_Bz h) (hR : q_Rb h)   :
    q_M Γ q_K 155 291 [(2, Int.ofNat 139)] h (fun t w h' => (t = 1 ∧ (∃ z, w = ((0, z) : q_V) ∧ (z = 0 ∨ z = 1)) ∧ h' = h)) := by
  refine q_M.of (by decide) (Nat.le_of_ble_eq_true rfl) hG ?_
  refine r_aload_n c291_0 rfl rfl ?_
  refine r_getr c291_1 (by first | assumption | omega) (by decide) (by first | assumption | rfl) rfl rfl ?_
  refine r_iconst c291_4 rfl ?_
  refine r_laldw hR c291_5 (show q_w32 (3) = 3 from rfl) (by first | assumption | omega) (by first | assumption | omega) rfl ?_
  intro y1
  refine r_lconst c291_6 rfl ?_
  refine r_lcmpn c291_7 rfl (by first | exact q_w64_id (by omega) (by omega) | exact rfl) (show q_w64 (0) = 0 from rfl) ?_ ?_ ?_
  · intro b2
    refine r_if_ne c291_8 rfl (show q_w32 (-1) = -1 from rfl) ?_ ?_
    · intro b3
      refine r_iconst c291_36 rfl ?_
      exact r_zret c291_37 ⟨rfl, rfl, rfl⟩ (by decide) ⟨rfl, ⟨_, rfl, (by decide)⟩, rfl⟩
    · intro b3
      exact absurd b3.1 (by decide)
  · intro b2
    refine r_if_ne c291_8 rfl (show q_w32 (0) = 0 from rfl) ?_ ?_
    · intro b4
      exact absurd b4.1 (by decide)
    · intro b4
      refine r_aload_n c291_11 rfl rfl ?_
      refine r_vcG c291_12 (by first | assumption | omega) (by decide) (by first | assumption | rfl) rfl rfl rfl (k265 hG hZ hR) ?_
      intro t5 w5 g5 p5
      obtain ⟨rfl, ⟨z5, rfl⟩, rfl⟩ := p5
      refine Or.inr (Or.inl ⟨rfl, ?_⟩)
      refine r_iconst c291_15 rfl ?_
      refine r_ic_ne c291_16 rfl (by first | exact q_w32_id (by omega) (by omega) | exact q_w32w _ | exact rfl) (show q_w32 (3) = 3 from rfl) ?_ ?_
      · intro b6
        refine r_iconst c291_36 rfl ?_
        exact r_zret c291_37 ⟨rfl, rfl, rfl⟩ (by decide) ⟨rfl, ⟨_, rfl, (by decide)⟩, rfl⟩
      · intro b6
        refine r_aload_n c291_19 rfl rfl ?_
        refine r_getr c291_20 (by first | assumption | omega) (by decide) (by first | assumption | rfl) rfl rfl ?_
        refine r_iconst c291_23 rfl ?_
        refine r_laldw hR c291_24 (show q_w32 (4) = 4 from rfl) (by first | assumption | omega) (by first | assumption | omega) rfl ?_
        intro y7
        refine r_ldc2 c291_25 rfl rfl ?_
        refine r_lcmpn c291_28 rfl (by first | exact q_w64_id (by omega) (by omega) | exact rfl) (show q_w64 (16) = 16 from rfl) ?_ ?_ ?_
        · intro b8
          refine r_if_ge c291_29 rfl (show q_w32 (-1) = -1 from rfl) ?_ ?_
          · intro b9
            exact absurd b9.1 (by decide)
          · intro b9
            refine r_iconst c291_32 rfl ?_
            refine r_goto c291_33 ?_
            exact r_zret c291_37 ⟨rfl, rfl, rfl⟩ (by decide) ⟨rfl, ⟨_, rfl, (by decide)⟩, rfl⟩
        · intro b8
          refine r_if_ge c291_29 rfl (show q_w32 (0) = 0 from rfl) ?_ ?_
          · intro b10
            refine r_iconst c291_36 rfl ?_
            exact r_zret c291_37 ⟨rfl, rfl, rfl⟩ (by decide) ⟨rfl, ⟨_, rfl, (by decide)⟩, rfl⟩
          · intro b10
            exact absurd b10.1 (by decide)
        · intro b8
          refine r_if_ge c291_29 rfl (show q_w32 (1) = 1 from rfl) ?_ ?_
          · intro b11
            refine r_iconst c291_36 rfl ?_
            exact r_zret c291_37 ⟨rfl, rfl, rfl⟩ (by decide) ⟨rfl, ⟨_, rfl, (by decide)⟩, rfl⟩
          · intro b11
            exact absurd b11.1 (by decide)
  · intro b2
    refine r_if_ne c291_8 rfl (show q_w32 (1) = 1 from rfl) ?_ ?_
    · intro b12
      refine r_iconst c291_36 rfl ?_
      exact r_zret c291_37 ⟨rfl, rfl, rfl⟩ (by decide) ⟨rfl, ⟨_, rfl, (by decide)⟩, rfl⟩
    · intro b12
      exact absurd b12.1 (by decide)
theorem c299_0 : q_cat 299 0 (.aload_n 0) 1 0 0 (0) := ⟨rfl, rfl⟩
theorem c299_1 : q_cat 299 1 (.iconst 0) 1 0 0 (0) := ⟨rfl, rfl⟩
theorem c299_2 : q_cat 299 2 (.putfield 60) 3 9 7 (0) := ⟨rfl, rfl⟩
theorem c299_5 : q_cat 299 5 (.aload_n 0) 1 0 0 (0) := ⟨rfl, rfl⟩
theorem c299_6 : q_cat 299 6 (.iload_n 1) 1 1 0 (0) := ⟨rfl, rfl⟩
theorem c299_7 : q_cat 299 7 (.i2l) 1 0 0 (0) := ⟨rfl, rfl⟩
theorem c299_8 : q_cat 299 8 (.lconst 0) 1 0 0 (0) := ⟨rfl, rfl⟩
theorem c299_9 : q_cat 299 9 (.aload_n 0) 1 0 0 (0) := ⟨rfl, rfl⟩
theorem c299_10 : q_cat 299 10 (.getfield 7) 3 9 0 (3) := ⟨rfl, rfl⟩
theorem c299_13 : q_cat 299 13 (.iconst 4) 1 0 0 (0) := ⟨rfl, rfl⟩
theorem c299_14 : q_cat 299 14 (.laload) 1 0 0 (0) := ⟨rfl, rfl⟩
theorem c299_15 : q_cat 299 15 (.lconst 1) 1 0 0 (1) := ⟨rfl, rfl⟩
theorem c299_16 : q_cat 299 16 (.lsub) 1 0 0 (0) := ⟨rfl, rfl⟩
theorem c299_17 : q_cat 299 17 (.invokestatic 163) 3 267 1 (0) := ⟨rfl, rfl⟩
theorem c299_20 : q_cat 299 20 (.ifCond .ne 7) 3 27 0 (0) := ⟨rfl, rfl⟩
theorem c299_23 : q_cat 299 23 (.iconst 1) 1 0 0 (0) := ⟨rfl, rfl⟩
theorem c299_24 : q_cat 299 24 (.goto 4) 3 28 0 (0) := ⟨rfl, rfl⟩
theorem c299_27 : q_cat 299 27 (.iconst 0) 1 0 0 (0) := ⟨rfl, rfl⟩
theorem c299_28 : q_cat 299 28 (.iconst 1) 1 0 0 (0) := ⟨rfl, rfl⟩
theorem c299_29 : q_cat 299 29 (.invokevirtual 273) 3 258 0 (0) := ⟨rfl, rfl⟩
theorem c299_32 : q_cat 299 32 (.ireturn) 1 0 0 (0) := ⟨rfl, rfl⟩
theorem k299 {Γ : q_Γ} (hG : q_GG Γ) {h : q_F} (hZ : q_Bz h) (hR : q_Rb h) {v1 : Int}  :
    q_M Γ q_K 155 299 [(2, Int.ofNat 139), (0, v1)] h (fun t w h' => (t = 1 ∧ (∃ z, w = ((0, z) : q_V) ∧ (z = 0 ∨ z = 1) ∧ (z = 1 ∨ (0 ≤ q_w32 v1 ∧ q_w32 v1 < h 140 4))) ∧ q_Gr (fun k j => k = 139 ∧ j = 7) h h')) := by
  refine q_M.of (by decide) (Nat.le_of_ble_eq_true rfl) hG ?_
  refine r_aload_n c299_0 rfl rfl ?_
  refine r_iconst c299_1 rfl ?_
  refine r_puti c299_2 (by first | assumption | omega) (by decide) (by first | assumption | rfl) rfl rfl rfl ?_
  refine r_aload_n c299_5 rfl rfl ?_
  refine r_iload_n c299_6 rfl rfl ?_
  refine r_i2l c299_7 (by first | exact q_w32_id (by omega) (by omega) | exact q_w32w _ | exact rfl) rfl ?_
  refine r_lconst c299_8 rfl ?_
  refine r_aload_n c299_9 rfl rfl ?_
  refine r_getr c299_10 (by first | assumption | omega) (by decide) (by first | assumption | rfl) rfl rfl ?_
  refine r_iconst c299_13 rfl ?_
  refine r_laldw (q_Gr.rb (S := fun k j => k = 139 ∧ j = 7) hR (by repeat (first | exact q_Gr.rf | refine q_Gr.ud ?_ (by omega) (by first | assumption | rfl) rfl (by first | exact ⟨fun h9 => absurd h9 (by decide), fun h9 => absurd h9 (by decide)⟩ | (constructor <;> (intro h9; omega))) | refine q_Gr.udz ?_ (by omega) (by first | assumption | decide | omega) (by first | exact ⟨fun h9 => absurd h9 (by decide), fun h9 => absurd h9 (by decide)⟩ | (constructor <;> (intro h9; omega))) | refine q_Gr.tr ?_ (by assumption) (by intro k9 j9 hk9; omega)))) c299_14 (show q_w32 (4) = 4 from rfl) (by first | assumption | omega) (by first | assumption | omega) rfl ?_
  intro y1
  refine r_lconst c299_15 rfl ?_
  refine r_lsub c299_16 rfl rfl ?_
  refine r_callG c299_17 (fun _ => rfl) rfl rfl rfl (k267 hG (q_Gr.bz (S := fun k j => k = 139 ∧ j = 7) hZ (by repeat (first | exact q_Gr.rf | refine q_Gr.ud ?_ (by omega) (by first | assumption | rfl) rfl (by first | exact ⟨fun h9 => absurd h9 (by decide), fun h9 => absurd h9 (by decide)⟩ | (constructor <;> (intro h9; omega))) | refine q_Gr.udz ?_ (by omega) (by first | assumption | decide | omega) (by first | exact ⟨fun h9 => absurd h9 (by decide), fun h9 => absurd h9 (by decide)⟩ | (constructor <;> (intro h9; omega))) | refine q_Gr.tr ?_ (by assumption) (by intro k9 j9 hk9; omega)))) (q_Gr.rb (S := fun k j => k = 139 ∧ j = 7) hR (by repeat (first | exact q_Gr.rf | refine q_Gr.ud ?_ (by omega) (by first | assumption | rfl) rfl (by first | exact ⟨fun h9 => absurd h9 (by decide), fun h9 => absurd h9 (by decide)⟩ | (constructor <;> (intro h9; omega))) | refine q_Gr.udz ?_ (by omega) (by first | assumption | decide | omega) (by first | exact ⟨fun h9 => absurd h9 (by decide), fun h9 => absurd h9 (by decide)⟩ | (constructor <;> (intro h9; omega))) | refine q_Gr.tr ?_ (by assumption) (by intro k9 j9 hk9; omega)))) (by first | exact q_w64_id (by omega) (by omega) | exact rfl) (by first | exact q_w64_id (by omega) (by omega) | exact rfl) (by first | exact q_w64_id (by omega) (by omega) | exact rfl)) ?_
  intro t2 w2 g2 p2
  obtain ⟨rfl, ⟨z2, rfl, hz2, hs2⟩, rfl⟩ := p2
  refine Or.inr (Or.inl ⟨rfl, ?_⟩)
  refine r_if_ne c299_20 rfl (by first | exact q_w32_id (by omega) (by omega) | exact q_w32w _ | exact rfl) ?_ ?_
  · intro b3
    refine r_iconst c299_27 rfl ?_
    refine r_iconst c299_28 rfl ?_
    refine r_vcG c299_29 (by first | assumption | omega) (by decide) (by first | assumption | rfl) rfl rfl rfl (k258 hG (q_Gr.bz (S := fun k j => k = 139 ∧ j = 7) hZ (by repeat (first | exact q_Gr.rf | refine q_Gr.ud ?_ (by omega) (by first | assumption | rfl) rfl (by first | exact ⟨fun h9 => absurd h9 (by decide), fun h9 => absurd h9 (by decide)⟩ | (constructor <;> (intro h9; omega))) | refine q_Gr.udz ?_ (by omega) (by first | assumption | decide | omega) (by first | exact ⟨fun h9 => absurd h9 (by decide), fun h9 => absurd h9 (by decide)⟩ | (constructor <;> (intro h9; omega))) | refine q_Gr.tr ?_ (by assumption) (by intro k9 j9 hk9; omega)))) (q_Gr.rb (S := fun k j => k = 139 ∧ j = 7) hR (by repeat (first | exact q_Gr.rf | refine q_Gr.ud ?_ (by omega) (by first | assumption | rfl) rfl (by first | exact ⟨fun h9 => absurd h9 (by decide), fun h9 => absurd h9 (by decide)⟩ | (constructor <;> (intro h9; omega))) | refine q_Gr.udz ?_ (by omega) (by first | assumption | decide | omega) (by first | exact ⟨fun h9 => absurd h9 (by decide), fun h9 => absurd h9 (by decide)⟩ | (constructor <;> (intro h9; omega))) | refine q_Gr.tr ?_ (by assumption) (by intro k9 j9 hk9; omega)))) (by first | assumption | decide | omega)) ?_
    intro t4 w4 g4 p4
    obtain ⟨rfl, ⟨z4, rfl, hz4, hs4⟩, e4⟩ := p4
    refine Or.inr (Or.inl ⟨rfl, ?_⟩)
    exact r_zret c299_32 ⟨rfl, rfl, rfl⟩ (by first | assumption | omega) ⟨rfl, ⟨_, rfl, (by first | assumption | omega), (by omega)⟩, (by repeat (first | exact q_Gr.rf | refine q_Gr.ud ?_ (by omega) (by first | assumption | rfl) rfl (by first | exact ⟨fun h9 => absurd h9 (by decide), fun h9 => absurd h9 (by decide)⟩ | (constructor <;> (intro h9; omega))) | refine q_Gr.udz ?_ (by omega) (by first | assumption | decide | omega) (by first | exact ⟨fun h9 => absurd h9 (by decide), fun h9 => absurd h9 (by decide)⟩ | (constructor <;> (intro h9; omega))) | refine q_Gr.tr ?_ (by assumption) (by intro k9 j9 hk9; omega)))⟩
  · intro b3
    refine r_iconst c299_23 rfl ?_
    refine r_goto c299_24 ?_
    refine r_iconst c299_28 rfl ?_
    refine r_vcG c299_29 (by first | assumption | omega) (by decide) (by first | assumption | rfl) rfl rfl rfl (k258 hG (q_Gr.bz (S := fun k j => k = 139 ∧ j = 7) hZ (by repeat (first | exact q_Gr.rf | refine q_Gr.ud ?_ (by omega) (by first | assumption | rfl) rfl (by first | exact ⟨fun h9 => absurd h9 (by decide), fun h9 => absurd h9 (by decide)⟩ | (constructor <;> (intro h9; omega))) | refine q_Gr.udz ?_ (by omega) (by first | assumption | decide | omega) (by first | exact ⟨fun h9 => absurd h9 (by decide), fun h9 => absurd h9 (by decide)⟩ | (constructor <;> (intro h9; omega))) | refine q_Gr.tr ?_ (by assumption) (by intro k9 j9 hk9; omega)))) (q_Gr.rb (S := fun k j => k = 139 ∧ j = 7) hR (by repeat (first | exact q_Gr.rf | refine q_Gr.ud ?_ (by omega) (by first | assumption | rfl) rfl (by first | exact ⟨fun h9 => absurd h9 (by decide), fun h9 => absurd h9 (by decide)⟩ | (constructor <;> (intro h9; omega))) | refine q_Gr.udz ?_ (by omega) (by first | assumption | decide | omega) (by first | exact ⟨fun h9 => absurd h9 (by decide), fun h9 => absurd h9 (by decide)⟩ | (constructor <;> (intro h9; omega))) | refine q_Gr.tr ?_ (by assumption) (by intro k9 j9 hk9; omega)))) (by first | assumption | decide | omega)) ?_
    intro t5 w5 g5 p5
    obtain ⟨rfl, ⟨z5, rfl, hz5, hs5⟩, e5⟩ := p5
    refine Or.inr (Or.inl ⟨rfl, ?_⟩)
    exact r_zret c299_32 ⟨rfl, rfl, rfl⟩ (by first | assumption | omega) ⟨rfl, ⟨_, rfl, (by first | assumption | omega), (by omega)⟩, (by repeat (first | exact q_Gr.rf | refine q_Gr.ud ?_ (by omega) (by first | assumption | rfl) rfl (by first | exact ⟨fun h9 => absurd h9 (by decide), fun h9 => absurd h9 (by decide)⟩ | (constructor <;> (intro h9; omega))) | refine q_Gr.udz ?_ (by omega) (by first | assumption | decide | omega) (by first | exact ⟨fun h9 => absurd h9 (by decide), fun h9 => absurd h9 (by decide)⟩ | (constructor <;> (intro h9; omega))) | refine q_Gr.tr ?_ (by assumption) (by intro k9 j9 hk9; omega)))⟩
theorem c300_0 : q_cat 300 0 (.aload_n 0) 1 0 0 (0) := ⟨rfl, rfl⟩
theorem c300_1 : q_cat 300 1 (.iload_n 1) 1 1 0 (0) := ⟨rfl, rfl⟩
theorem c300_2 : q_cat 300 2 (.invokevirtual 328) 3 299 0 (0) := ⟨rfl, rfl⟩
theorem c300_5 : q_cat 300 5 (.ifCond .ne 11) 3 16 0 (0) := ⟨rfl, rfl⟩
theorem c300_8 : q_cat 300 8 (.aload_n 0) 1 0 0 (0) := ⟨rfl, rfl⟩
theorem c300_9 : q_cat 300 9 (.iload_n 2) 1 2 0 (0) := ⟨rfl, rfl⟩
theorem c300_10 : q_cat 300 10 (.invokevirtual 280) 3 298 0 (0) := ⟨rfl, rfl⟩
theorem c300_13 : q_cat 300 13 (.ifCond .eq 7) 3 20 0 (0) := ⟨rfl, rfl⟩
theorem c300_16 : q_cat 300 16 (.iconst 1) 1 0 0 (0) := ⟨rfl, rfl⟩
theorem c300_17 : q_cat 300 17 (.goto 4) 3 21 0 (0) := ⟨rfl, rfl⟩
theorem c300_20 : q_cat 300 20 (.iconst 0) 1 0 0 (0) := ⟨rfl, rfl⟩
theorem c300_21 : q_cat 300 21 (.ireturn) 1 0 0 (0) := ⟨rfl, rfl⟩
theorem k300 {Γ : q_Γ} (hG : q_GG Γ) {h : q_F} (hZ : q_Bz h) (hR : q_Rb h) {v1 : Int} {v2 : Int}  :
    q_M Γ q_K 155 300 [(2, Int.ofNat 139), (0, v1), (0, v2)] h (fun t w h' => (t = 1 ∧ (∃ z, w = ((0, z) : q_V) ∧ (z = 0 ∨ z = 1) ∧ (z = 1 ∨ (0 ≤ q_w32 v1 ∧ q_w32 v1 < h 140 4 ∧ 0 ≤ q_w32 v2 ∧ q_w32 v2 < 3))) ∧ q_Gr (fun k j => k = 139 ∧ j = 7) h h')) := by
  refine q_M.of (by decide) (Nat.le_of_ble_eq_true rfl) hG ?_
  refine r_aload_n c300_0 rfl rfl ?_
  refine r_iload_n c300_1 rfl rfl ?_
  refine r_vcG c300_2 (by first | assumption | omega) (by decide) (by first | assumption | rfl) rfl rfl rfl (k299 hG (q_Gr.bz (S := fun k j => k = 139 ∧ j = 7) hZ (by repeat (first | exact q_Gr.rf | refine q_Gr.ud ?_ (by omega) (by first | assumption | rfl) rfl (by first | exact ⟨fun h9 => absurd h9 (by decide), fun h9 => absurd h9 (by decide)⟩ | (constructor <;> (intro h9; omega))) | refine q_Gr.udz ?_ (by omega) (by first | assumption | decide | omega) (by first | exact ⟨fun h9 => absurd h9 (by decide), fun h9 => absurd h9 (by decide)⟩ | (constructor <;> (intro h9; omega))) | refine q_Gr.tr ?_ (by assumption) (by intro k9 j9 hk9; omega)))) (q_Gr.rb (S := fun k j => k = 139 ∧ j = 7) hR (by repeat (first | exact q_Gr.rf | refine q_Gr.ud ?_ (by omega) (by first | assumption | rfl) rfl (by first | exact ⟨fun h9 => absurd h9 (by decide), fun h9 => absurd h9 (by decide)⟩ | (constructor <;> (intro h9; omega))) | refine q_Gr.udz ?_ (by omega) (by first | assumption | decide | omega) (by first | exact ⟨fun h9 => absurd h9 (by decide), fun h9 => absurd h9 (by decide)⟩ | (constructor <;> (intro h9; omega))) | refine q_Gr.tr ?_ (by assumption) (by intro k9 j9 hk9; omega))))) ?_
  intro t1 w1 g1 p1
  obtain ⟨rfl, ⟨z1, rfl, hz1, hs1⟩, e1⟩ := p1
  refine Or.inr (Or.inl ⟨rfl, ?_⟩)
  refine r_if_ne c300_5 rfl (by first | exact q_w32_id (by omega) (by omega) | exact q_w32w _ | exact rfl) ?_ ?_
  · intro b2
    refine r_iconst c300_16 rfl ?_
    refine r_goto c300_17 ?_
    exact r_zret c300_21 ⟨rfl, rfl, rfl⟩ (by decide) ⟨rfl, ⟨_, rfl, (by decide), (by omega)⟩, (by repeat (first | exact q_Gr.rf | refine q_Gr.ud ?_ (by omega) (by first | assumption | rfl) rfl (by first | exact ⟨fun h9 => absurd h9 (by decide), fun h9 => absurd h9 (by decide)⟩ | (constructor <;> (intro h9; omega))) | refine q_Gr.udz ?_ (by omega) (by first | assumption | decide | omega) (by first | exact ⟨fun h9 => absurd h9 (by decide), fun h9 => absurd h9 (by decide)⟩ | (constructor <;> (intro h9; omega))) | refine q_Gr.tr ?_ (by assumption) (by intro k9 j9 hk9; omega)))⟩
  · intro b2
    refine r_aload_n c300_8 rfl rfl ?_
    refine r_iload_n c300_9 rfl rfl ?_
    refine r_vcG c300_10 (by first | assumption | omega) (by decide) (by first | assumption | rfl) rfl rfl rfl (k298 hG (q_Gr.bz (S := fun k j => k = 139 ∧ j = 7) hZ (by repeat (first | exact q_Gr.rf | refine q_Gr.ud ?_ (by omega) (by first | assumption | rfl) rfl (by first | exact ⟨fun h9 => absurd h9 (by decide), fun h9 => absurd h9 (by decide)⟩ | (constructor <;> (intro h9; omega))) | refine q_Gr.udz ?_ (by omega) (by first | assumption | decide | omega) (by first | exact ⟨fun h9 => absurd h9 (by decide), fun h9 => absurd h9 (by decide)⟩ | (constructor <;> (intro h9; omega))) | refine q_Gr.tr ?_ (by assumption) (by intro k9 j9 hk9; omega)))) (q_Gr.rb (S := fun k j => k = 139 ∧ j = 7) hR (by repeat (first | exact q_Gr.rf | refine q_Gr.ud ?_ (by omega) (by first | assumption | rfl) rfl (by first | exact ⟨fun h9 => absurd h9 (by decide), fun h9 => absurd h9 (by decide)⟩ | (constructor <;> (intro h9; omega))) | refine q_Gr.udz ?_ (by omega) (by first | assumption | decide | omega) (by first | exact ⟨fun h9 => absurd h9 (by decide), fun h9 => absurd h9 (by decide)⟩ | (constructor <;> (intro h9; omega))) | refine q_Gr.tr ?_ (by assumption) (by intro k9 j9 hk9; omega))))) ?_
    intro t3 w3 g3 p3
    obtain ⟨rfl, ⟨z3, rfl, hz3, hs3⟩, e3⟩ := p3
    refine Or.inr (Or.inl ⟨rfl, ?_⟩)
    refine r_if_eq c300_13 rfl (by first | exact q_w32_id (by omega) (by omega) | exact q_w32w _ | exact rfl) ?_ ?_
    · intro b4
      refine r_iconst c300_20 rfl ?_
      exact r_zret c300_21 ⟨rfl, rfl, rfl⟩ (by decide) ⟨rfl, ⟨_, rfl, (by decide), (by omega)⟩, (by repeat (first | exact q_Gr.rf | refine q_Gr.ud ?_ (by omega) (by first | assumption | rfl) rfl (by first | exact ⟨fun h9 => absurd h9 (by decide), fun h9 => absurd h9 (by decide)⟩ | (constructor <;> (intro h9; omega))) | refine q_Gr.udz ?_ (by omega) (by first | assumption | decide | omega) (by first | exact ⟨fun h9 => absurd h9 (by decide), fun h9 => absurd h9 (by decide)⟩ | (constructor <;> (intro h9; omega))) | refine q_Gr.tr ?_ (by assumption) (by intro k9 j9 hk9; omega)))⟩
    · intro b4
      refine r_iconst c300_16 rfl ?_
      refine r_goto c300_17 ?_
      exact r_zret c300_21 ⟨rfl, rfl, rfl⟩ (by decide) ⟨rfl, ⟨_, rfl, (by decide), (by omega)⟩, (by repeat (first | exact q_Gr.rf | refine q_Gr.ud ?_ (by omega) (by first | assumption | rfl) rfl (by first | exact ⟨fun h9 => absurd h9 (by decide), fun h9 => absurd h9 (by decide)⟩ | (constructor <;> (intro h9; omega))) | refine q_Gr.udz ?_ (by omega) (by first | assumption | decide | omega) (by first | exact ⟨fun h9 => absurd h9 (by decide), fun h9 => absurd h9 (by decide)⟩ | (constructor <;> (intro h9; omega))) | refine q_Gr.tr ?_ (by assumption) (by intro k9 j9 hk9; omega)))⟩
theorem c255_0 : q_cat 255 0 (.aload_n 0) 1 0 0 (0) := ⟨rfl, rfl⟩
theorem c255_1 : q_cat 255 1 (.iconst 0) 1 0 0 (0) := ⟨rfl, rfl⟩
theorem c255_2 : q_cat 255 2 (.putfield 60) 3 9 7 (0) := ⟨rfl, rfl⟩
theorem c255_5 : q_cat 255 5 (.aload_n 0) 1 0 0 (0) := ⟨rfl, rfl⟩
theorem c255_6 : q_cat 255 6 (.getfield 264) 3 9 15 (0) := ⟨rfl, rfl⟩
theorem c255_9 : q_cat 255 9 (.ireturn) 1 0 0 (0) := ⟨rfl, rfl⟩
theorem k255 {Γ : q_Γ} (hG : q_GG Γ) {h : q_F} (hZ : q_Bz h) (hR : q_Rb h)   :
    q_M Γ q_K 155 255 [(2, Int.ofNat 139)] h (fun t w h' => (t = 1 ∧ (∃ z, w = ((0, z) : q_V)) ∧ q_Gr (fun k j => k = 139 ∧ j = 7) h h')) := by
  refine q_M.of (by decide) (Nat.le_of_ble_eq_true rfl) hG ?_
  refine r_aload_n c255_0 rfl rfl ?_
  refine r_iconst c255_1 rfl ?_
  refine r_puti c255_2 (by first | assumption | omega) (by decide) (by first | assumption | rfl) rfl rfl rfl ?_
  refine r_aload_n c255_5 rfl rfl ?_
  refine r_geti c255_6 (by first | assumption | omega) (by decide) (by first | assumption | rfl) rfl rfl ?_
  exact r_iret c255_9 ⟨rfl, rfl, rfl⟩ ⟨rfl, ⟨_, rfl⟩, (by repeat (first | exact q_Gr.rf | refine q_Gr.ud ?_ (by omega) (by first | assumption | rfl) rfl (by first | exact ⟨fun h9 => absurd h9 (by decide), fun h9 => absurd h9 (by decide)⟩ | (constructor <;> (intro h9; omega))) | refine q_Gr.udz ?_ (by omega) (by first | assumption | decide | omega) (by first | exact ⟨fun h9 => absurd h9 (by decide), fun h9 => absurd h9 (by decide)⟩ | (constructor <;> (intro h9; omega))) | refine q_Gr.tr ?_ (by assumption) (by intro k9 j9 hk9; omega)))⟩
theorem c257_0 : q_cat 257 0 (.aload_n 0) 1 0 0 (0) := ⟨rfl, rfl⟩
theorem c257_1 : q_cat 257 1 (.iconst 0) 1 0 0 (0) := ⟨rfl, rfl⟩
theorem c257_2 : q_cat 257 2 (.putfield 60) 3 9 7 (0) := ⟨rfl, rfl⟩
theorem c257_5 : q_cat 257 5 (.aload_n 0) 1 0 0 (0) := ⟨rfl, rfl⟩
theorem c257_6 : q_cat 257 6 (.getfield 44) 3 9 16 (0) := ⟨rfl, rfl⟩
theorem c257_9 : q_cat 257 9 (.ireturn) 1 0 0 (0) := ⟨rfl, rfl⟩
theorem k257 {Γ : q_Γ} (hG : q_GG Γ) {h : q_F} (hZ : q_Bz h) (hR : q_Rb h)   :
    q_M Γ q_K 155 257 [(2, Int.ofNat 139)] h (fun t w h' => (t = 1 ∧ (∃ z, w = ((0, z) : q_V)) ∧ q_Gr (fun k j => k = 139 ∧ j = 7) h h')) := by
  refine q_M.of (by decide) (Nat.le_of_ble_eq_true rfl) hG ?_
  refine r_aload_n c257_0 rfl rfl ?_
  refine r_iconst c257_1 rfl ?_
  refine r_puti c257_2 (by first | assumption | omega) (by decide) (by first | assumption | rfl) rfl rfl rfl ?_
  refine r_aload_n c257_5 rfl rfl ?_
  refine r_geti c257_6 (by first | assumption | omega) (by decide) (by first | assumption | rfl) rfl rfl ?_
  exact r_iret c257_9 ⟨rfl, rfl, rfl⟩ ⟨rfl, ⟨_, rfl⟩, (by repeat (first | exact q_Gr.rf | refine q_Gr.ud ?_ (by omega) (by first | assumption | rfl) rfl (by first | exact ⟨fun h9 => absurd h9 (by decide), fun h9 => absurd h9 (by decide)⟩ | (constructor <;> (intro h9; omega))) | refine q_Gr.udz ?_ (by omega) (by first | assumption | decide | omega) (by first | exact ⟨fun h9 => absurd h9 (by decide), fun h9 => absurd h9 (by decide)⟩ | (constructor <;> (intro h9; omega))) | refine q_Gr.tr ?_ (by assumption) (by intro k9 j9 hk9; omega)))⟩
theorem c250_0 : q_cat 250 0 (.aload_n 0) 1 0 0 (0) := ⟨rfl, rfl⟩
theorem c250_1 : q_cat 250 1 (.iconst 0) 1 0 0 (0) := ⟨rfl, rfl⟩
theorem c250_2 : q_cat 250 2 (.putfield 60) 3 9 7 (0) := ⟨rfl, rfl⟩
theorem c250_5 : q_cat 250 5 (.aload_n 0) 1 0 0 (0) := ⟨rfl, rfl⟩
theorem c250_6 : q_cat 250 6 (.iload_n 1) 1 1 0 (0) := ⟨rfl, rfl⟩
theorem c250_7 : q_cat 250 7 (.i2l) 1 0 0 (0) := ⟨rfl, rfl⟩
theorem c250_8 : q_cat 250 8 (.lconst 0) 1 0 0 (0) := ⟨rfl, rfl⟩
theorem c250_9 : q_cat 250 9 (.ldc2_w 271) 3 0 0 (6) := ⟨rfl, rfl⟩
theorem c250_12 : q_cat 250 12 (.invokestatic 163) 3 267 1 (0) := ⟨rfl, rfl⟩
theorem c250_15 : q_cat 250 15 (.ifCond .ne 7) 3 22 0 (0) := ⟨rfl, rfl⟩
theorem c250_18 : q_cat 250 18 (.iconst 1) 1 0 0 (0) := ⟨rfl, rfl⟩
theorem c250_19 : q_cat 250 19 (.goto 4) 3 23 0 (0) := ⟨rfl, rfl⟩
theorem c250_22 : q_cat 250 22 (.iconst 0) 1 0 0 (0) := ⟨rfl, rfl⟩
theorem c250_23 : q_cat 250 23 (.iconst 1) 1 0 0 (0) := ⟨rfl, rfl⟩
theorem c250_24 : q_cat 250 24 (.invokevirtual 273) 3 258 0 (0) := ⟨rfl, rfl⟩
theorem c250_27 : q_cat 250 27 (.ifCond .eq 5) 3 32 0 (0) := ⟨rfl, rfl⟩
theorem c250_30 : q_cat 250 30 (.iconst 0) 1 0 0 (0) := ⟨rfl, rfl⟩
theorem c250_31 : q_cat 250 31 (.ireturn) 1 0 0 (0) := ⟨rfl, rfl⟩
theorem c250_32 : q_cat 250 32 (.iload_n 1) 1 1 0 (0) := ⟨rfl, rfl⟩
theorem c250_33 : q_cat 250 33 (.iconst 5) 1 0 0 (0) := ⟨rfl, rfl⟩
theorem c250_34 : q_cat 250 34 (.if_icmp .ne 10) 3 44 0 (0) := ⟨rfl, rfl⟩
theorem c250_37 : q_cat 250 37 (.aload_n 0) 1 0 0 (0) := ⟨rfl, rfl⟩
theorem c250_38 : q_cat 250 38 (.invokevirtual 277) 3 265 0 (0) := ⟨rfl, rfl⟩
theorem c250_41 : q_cat 250 41 (.goto 21) 3 62 0 (0) := ⟨rfl, rfl⟩
theorem c250_44 : q_cat 250 44 (.iload_n 1) 1 1 0 (0) := ⟨rfl, rfl⟩
theorem c250_45 : q_cat 250 45 (.bipush 6) 2 0 0 (0) := ⟨rfl, rfl⟩
theorem c250_47 : q_cat 250 47 (.if_icmp .ne 10) 3 57 0 (0) := ⟨rfl, rfl⟩
theorem c250_50 : q_cat 250 50 (.aload_n 0) 1 0 0 (0) := ⟨rfl, rfl⟩
theorem c250_51 : q_cat 250 51 (.getfield 73) 3 9 5 (0) := ⟨rfl, rfl⟩
theorem c250_54 : q_cat 250 54 (.goto 8) 3 62 0 (0) := ⟨rfl, rfl⟩
theorem c250_57 : q_cat 250 57 (.aload_n 0) 1 0 0 (0) := ⟨rfl, rfl⟩
theorem c250_58 : q_cat 250 58 (.iload_n 1) 1 1 0 (0) := ⟨rfl, rfl⟩
theorem c250_59 : q_cat 250 59 (.invokevirtual 82) 3 303 0 (0) := ⟨rfl, rfl⟩
theorem c250_62 : q_cat 250 62 (.ireturn) 1 0 0 (0) := ⟨rfl, rfl⟩
theorem k250 {Γ : q_Γ} (hG : q_GG Γ) {h : q_F} (hZ : q_Bz h) (hR : q_Rb h) {v1 : Int}  :
    q_M Γ q_K 155 250 [(2, Int.ofNat 139), (0, v1)] h (fun t w h' => (t = 1 ∧ (∃ z, w = ((0, z) : q_V)) ∧ q_Gr (fun k j => k = 139 ∧ j = 7) h h')) := by
  refine q_M.of (by decide) (Nat.le_of_ble_eq_true rfl) hG ?_
  refine r_aload_n c250_0 rfl rfl ?_
  refine r_iconst c250_1 rfl ?_
  refine r_puti c250_2 (by first | assumption | omega) (by decide) (by first | assumption | rfl) rfl rfl rfl ?_
  refine r_aload_n c250_5 rfl rfl ?_
  refine r_iload_n c250_6 rfl rfl ?_
  refine r_i2l c250_7 (by first | exact q_w32_id (by omega) (by omega) | exact q_w32w _ | exact rfl) rfl ?_
  refine r_lconst c250_8 rfl ?_
  refine r_ldc2 c250_9 rfl rfl ?_
  refine r_callG c250_12 (fun _ => rfl) rfl rfl rfl (k267 hG (q_Gr.bz (S := fun k j => k = 139 ∧ j = 7) hZ (by repeat (first | exact q_Gr.rf | refine q_Gr.ud ?_ (by omega) (by first | assumption | rfl) rfl (by first | exact ⟨fun h9 => absurd h9 (by decide), fun h9 => absurd h9 (by decide)⟩ | (constructor <;> (intro h9; omega))) | refine q_Gr.udz ?_ (by omega) (by first | assumption | decide | omega) (by first | exact ⟨fun h9 => absurd h9 (by decide), fun h9 => absurd h9 (by decide)⟩ | (constructor <;> (intro h9; omega))) | refine q_Gr.tr ?_ (by assumption) (by intro k9 j9 hk9; omega)))) (q_Gr.rb (S := fun k j => k = 139 ∧ j = 7) hR (by repeat (first | exact q_Gr.rf | refine q_Gr.ud ?_ (by omega) (by first | assumption | rfl) rfl (by first | exact ⟨fun h9 => absurd h9 (by decide), fun h9 => absurd h9 (by decide)⟩ | (constructor <;> (intro h9; omega))) | refine q_Gr.udz ?_ (by omega) (by first | assumption | decide | omega) (by first | exact ⟨fun h9 => absurd h9 (by decide), fun h9 => absurd h9 (by decide)⟩ | (constructor <;> (intro h9; omega))) | refine q_Gr.tr ?_ (by assumption) (by intro k9 j9 hk9; omega)))) (by first | exact q_w64_id (by omega) (by omega) | exact rfl) (by first | exact q_w64_id (by omega) (by omega) | exact rfl) (by first | exact q_w64_id (by omega) (by omega) | exact rfl)) ?_
  intro t1 w1 g1 p1
  obtain ⟨rfl, ⟨z1, rfl, hz1, hs1⟩, rfl⟩ := p1
  refine Or.inr (Or.inl ⟨rfl, ?_⟩)
  refine r_if_ne c250_15 rfl (by first | exact q_w32_id (by omega) (by omega) | exact q_w32w _ | exact rfl) ?_ ?_
  · intro b2
    refine r_iconst c250_22 rfl ?_
    refine r_iconst c250_23 rfl ?_
    refine r_vcG c250_24 (by first | assumption | omega) (by decide) (by first | assumption | rfl) rfl rfl rfl (k258 hG (q_Gr.bz (S := fun k j => k = 139 ∧ j = 7) hZ (by repeat (first | exact q_Gr.rf | refine q_Gr.ud ?_ (by omega) (by first | assumption | rfl) rfl (by first | exact ⟨fun h9 => absurd h9 (by decide), fun h9 => absurd h9 (by decide)⟩ | (constructor <;> (intro h9; omega))) | refine q_Gr.udz ?_ (by omega) (by first | assumption | decide | omega) (by first | exact ⟨fun h9 => absurd h9 (by decide), fun h9 => absurd h9 (by decide)⟩ | (constructor <;> (intro h9; omega))) | refine q_Gr.tr ?_ (by assumption) (by intro k9 j9 hk9; omega)))) (q_Gr.rb (S := fun k j => k = 139 ∧ j = 7) hR (by repeat (first | exact q_Gr.rf | refine q_Gr.ud ?_ (by omega) (by first | assumption | rfl) rfl (by first | exact ⟨fun h9 => absurd h9 (by decide), fun h9 => absurd h9 (by decide)⟩ | (constructor <;> (intro h9; omega))) | refine q_Gr.udz ?_ (by omega) (by first | assumption | decide | omega) (by first | exact ⟨fun h9 => absurd h9 (by decide), fun h9 => absurd h9 (by decide)⟩ | (constructor <;> (intro h9; omega))) | refine q_Gr.tr ?_ (by assumption) (by intro k9 j9 hk9; omega)))) (by first | assumption | decide | omega)) ?_
    intro t3 w3 g3 p3
    obtain ⟨rfl, ⟨z3, rfl, hz3, hs3⟩, e3⟩ := p3
    refine Or.inr (Or.inl ⟨rfl, ?_⟩)
    refine r_if_eq c250_27 rfl (by first | exact q_w32_id (by omega) (by omega) | exact q_w32w _ | exact rfl) ?_ ?_
    · intro b4
      refine r_iload_n c250_32 rfl rfl ?_
      refine r_iconst c250_33 rfl ?_
      refine r_ic_ne c250_34 rfl (by first | exact q_w32_id (by omega) (by omega) | exact q_w32w _ | exact rfl) (show q_w32 (5) = 5 from rfl) ?_ ?_
      · intro b5
        refine r_iload_n c250_44 rfl rfl ?_
        refine r_bipush c250_45 rfl ?_
        refine r_ic_ne c250_47 rfl (by first | exact q_w32_id (by omega) (by omega) | exact q_w32w _ | exact rfl) (show q_w32 (6) = 6 from rfl) ?_ ?_
        · intro b6
          refine r_aload_n c250_57 rfl rfl ?_
          refine r_iload_n c250_58 rfl rfl ?_
          refine r_vcG c250_59 (by first | assumption | omega) (by decide) (by first | assumption | rfl) rfl rfl rfl (k303 hG (q_Gr.bz (S := fun k j => k = 139 ∧ j = 7) hZ (by repeat (first | exact q_Gr.rf | refine q_Gr.ud ?_ (by omega) (by first | assumption | rfl) rfl (by first | exact ⟨fun h9 => absurd h9 (by decide), fun h9 => absurd h9 (by decide)⟩ | (constructor <;> (intro h9; omega))) | refine q_Gr.udz ?_ (by omega) (by first | assumption | decide | omega) (by first | exact ⟨fun h9 => absurd h9 (by decide), fun h9 => absurd h9 (by decide)⟩ | (constructor <;> (intro h9; omega))) | refine q_Gr.tr ?_ (by assumption) (by intro k9 j9 hk9; omega)))) (q_Gr.rb (S := fun k j => k = 139 ∧ j = 7) hR (by repeat (first | exact q_Gr.rf | refine q_Gr.ud ?_ (by omega) (by first | assumption | rfl) rfl (by first | exact ⟨fun h9 => absurd h9 (by decide), fun h9 => absurd h9 (by decide)⟩ | (constructor <;> (intro h9; omega))) | refine q_Gr.udz ?_ (by omega) (by first | assumption | decide | omega) (by first | exact ⟨fun h9 => absurd h9 (by decide), fun h9 => absurd h9 (by decide)⟩ | (constructor <;> (intro h9; omega))) | refine q_Gr.tr ?_ (by assumption) (by intro k9 j9 hk9; omega)))) (by first | assumption | omega)) ?_
          intro t7 w7 g7 p7
          obtain ⟨rfl, ⟨z7, rfl, hs7⟩, rfl⟩ := p7
          refine Or.inr (Or.inl ⟨rfl, ?_⟩)
          exact r_iret c250_62 ⟨rfl, rfl, rfl⟩ ⟨rfl, ⟨_, rfl⟩, (by repeat (first | exact q_Gr.rf | refine q_Gr.ud ?_ (by omega) (by first | assumption | rfl) rfl (by first | exact ⟨fun h9 => absurd h9 (by decide), fun h9 => absurd h9 (by decide)⟩ | (constructor <;> (intro h9; omega))) | refine q_Gr.udz ?_ (by omega) (by first | assumption | decide | omega) (by first | exact ⟨fun h9 => absurd h9 (by decide), fun h9 => absurd h9 (by decide)⟩ | (constructor <;> (intro h9; omega))) | refine q_Gr.tr ?_ (by assumption) (by intro k9 j9 hk9; omega)))⟩
        · intro b6
          refine r_aload_n c250_50 rfl rfl ?_
          refine r_getf (q_Gr.rb (S := fun k j => k = 139 ∧ j = 7) hR (by repeat (first | exact q_Gr.rf | refine q_Gr.ud ?_ (by omega) (by first | assumption | rfl) rfl (by first | exact ⟨fun h9 => absurd h9 (by decide), fun h9 => absurd h9 (by decide)⟩ | (constructor <;> (intro h9; omega))) | refine q_Gr.udz ?_ (by omega) (by first | assumption | decide | omega) (by first | exact ⟨fun h9 => absurd h9 (by decide), fun h9 => absurd h9 (by decide)⟩ | (constructor <;> (intro h9; omega))) | refine q_Gr.tr ?_ (by assumption) (by intro k9 j9 hk9; omega)))) c250_51 rfl rfl ?_
          intro y8
          refine r_goto c250_54 ?_
          exact r_iret c250_62 ⟨rfl, rfl, rfl⟩ ⟨rfl, ⟨_, rfl⟩, (by repeat (first | exact q_Gr.rf | refine q_Gr.ud ?_ (by omega) (by first | assumption | rfl) rfl (by first | exact ⟨fun h9 => absurd h9 (by decide), fun h9 => absurd h9 (by decide)⟩ | (constructor <;> (intro h9; omega))) | refine q_Gr.udz ?_ (by omega) (by first | assumption | decide | omega) (by first | exact ⟨fun h9 => absurd h9 (by decide), fun h9 => absurd h9 (by decide)⟩ | (constructor <;> (intro h9; omega))) | refine q_Gr.tr ?_ (by assumption) (by intro k9 j9 hk9; omega)))⟩
      · intro b5
        refine r_aload_n c250_37 rfl rfl ?_
        refine r_vcG c250_38 (by first | assumption | omega) (by decide) (by first | assumption | rfl) rfl rfl rfl (k265 hG (q_Gr.bz (S := fun k j => k = 139 ∧ j = 7) hZ (by repeat (first | exact q_Gr.rf | refine q_Gr.ud ?_ (by omega) (by first | assumption | rfl) rfl (by first | exact ⟨fun h9 => absurd h9 (by decide), fun h9 => absurd h9 (by decide)⟩ | (constructor <;> (intro h9; omega))) | refine q_Gr.udz ?_ (by omega) (by first | assumption | decide | omega) (by first | exact ⟨fun h9 => absurd h9 (by decide), fun h9 => absurd h9 (by decide)⟩ | (constructor <;> (intro h9; omega))) | refine q_Gr.tr ?_ (by assumption) (by intro k9 j9 hk9; omega)))) (q_Gr.rb (S := fun k j => k = 139 ∧ j = 7) hR (by repeat (first | exact q_Gr.rf | refine q_Gr.ud ?_ (by omega) (by first | assumption | rfl) rfl (by first | exact ⟨fun h9 => absurd h9 (by decide), fun h9 => absurd h9 (by decide)⟩ | (constructor <;> (intro h9; omega))) | refine q_Gr.udz ?_ (by omega) (by first | assumption | decide | omega) (by first | exact ⟨fun h9 => absurd h9 (by decide), fun h9 => absurd h9 (by decide)⟩ | (constructor <;> (intro h9; omega))) | refine q_Gr.tr ?_ (by assumption) (by intro k9 j9 hk9; omega))))) ?_
        intro t9 w9 g9 p9
        obtain ⟨rfl, ⟨z9, rfl⟩, rfl⟩ := p9
        refine Or.inr (Or.inl ⟨rfl, ?_⟩)
        refine r_goto c250_41 ?_
        exact r_iret c250_62 ⟨rfl, rfl, rfl⟩ ⟨rfl, ⟨_, rfl⟩, (by repeat (first | exact q_Gr.rf | refine q_Gr.ud ?_ (by omega) (by first | assumption | rfl) rfl (by first | exact ⟨fun h9 => absurd h9 (by decide), fun h9 => absurd h9 (by decide)⟩ | (constructor <;> (intro h9; omega))) | refine q_Gr.udz ?_ (by omega) (by first | assumption | decide | omega) (by first | exact ⟨fun h9 => absurd h9 (by decide), fun h9 => absurd h9 (by decide)⟩ | (constructor <;> (intro h9; omega))) | refine q_Gr.tr ?_ (by assumption) (by intro k9 j9 hk9; omega)))⟩
    · intro b4
      refine r_iconst c250_30 rfl ?_
      exact r_iret c250_31 ⟨rfl, rfl, rfl⟩ ⟨rfl, ⟨_, rfl⟩, (by repeat (first | exact q_Gr.rf | refine q_Gr.ud ?_ (by omega) (by first | assumption | rfl) rfl (by first | exact ⟨fun h9 => absurd h9 (by decide), fun h9 => absurd h9 (by decide)⟩ | (constructor <;> (intro h9; omega))) | refine q_Gr.udz ?_ (by omega) (by first | assumption | decide | omega) (by first | exact ⟨fun h9 => absurd h9 (by decide), fun h9 => absurd h9 (by decide)⟩ | (constructor <;> (intro h9; omega))) | refine q_Gr.tr ?_ (by assumption) (by intro k9 j9 hk9; omega)))⟩
  · intro b2
    refine r_iconst c250_18 rfl ?_
    refine r_goto c250_19 ?_
    refine r_iconst c250_23 rfl ?_
    refine r_vcG c250_24 (by first | assumption | omega) (by decide) (by first | assumption | rfl) rfl rfl rfl (k258 hG (q_Gr.bz (S := fun k j => k = 139 ∧ j = 7) hZ (by repeat (first | exact q_Gr.rf | refine q_Gr.ud ?_ (by omega) (by first | assumption | rfl) rfl (by first | exact ⟨fun h9 => absurd h9 (by decide), fun h9 => absurd h9 (by decide)⟩ | (constructor <;> (intro h9; omega))) | refine q_Gr.udz ?_ (by omega) (by first | assumption | decide | omega) (by first | exact ⟨fun h9 => absurd h9 (by decide), fun h9 => absurd h9 (by decide)⟩ | (constructor <;> (intro h9; omega))) | refine q_Gr.tr ?_ (by assumption) (by intro k9 j9 hk9; omega)))) (q_Gr.rb (S := fun k j => k = 139 ∧ j = 7) hR (by repeat (first | exact q_Gr.rf | refine q_Gr.ud ?_ (by omega) (by first | assumption | rfl) rfl (by first | exact ⟨fun h9 => absurd h9 (by decide), fun h9 => absurd h9 (by decide)⟩ | (constructor <;> (intro h9; omega))) | refine q_Gr.udz ?_ (by omega) (by first | assumption | decide | omega) (by first | exact ⟨fun h9 => absurd h9 (by decide), fun h9 => absurd h9 (by decide)⟩ | (constructor <;> (intro h9; omega))) | refine q_Gr.tr ?_ (by assumption) (by intro k9 j9 hk9; omega)))) (by first | assumption | decide | omega)) ?_
    intro t10 w10 g10 p10
    obtain ⟨rfl, ⟨z10, rfl, hz10, hs10⟩, e10⟩ := p10
    refine Or.inr (Or.inl ⟨rfl, ?_⟩)
    refine r_if_eq c250_27 rfl (by first | exact q_w32_id (by omega) (by omega) | exact q_w32w _ | exact rfl) ?_ ?_
    · intro b11
      refine r_iload_n c250_32 rfl rfl ?_
      refine r_iconst c250_33 rfl ?_
      refine r_ic_ne c250_34 rfl (by first | exact q_w32_id (by omega) (by omega) | exact q_w32w _ | exact rfl) (show q_w32 (5) = 5 from rfl) ?_ ?_
      · intro b12
        refine r_iload_n c250_44 rfl rfl ?_
        refine r_bipush c250_45 rfl ?_
        refine r_ic_ne c250_47 rfl (by first | exact q_w32_id (by omega) (by omega) | exact q_w32w _ | exact rfl) (show q_w32 (6) = 6 from rfl) ?_ ?_
        · intro b13
          refine r_aload_n c250_57 rfl rfl ?_
          refine r_iload_n c250_58 rfl rfl ?_
          refine r_vcG c250_59 (by first | assumption | omega) (by decide) (by first | assumption | rfl) rfl rfl rfl (k303 hG (q_Gr.bz (S := fun k j => k = 139 ∧ j = 7) hZ (by repeat (first | exact q_Gr.rf | refine q_Gr.ud ?_ (by omega) (by first | assumption | rfl) rfl (by first | exact ⟨fun h9 => absurd h9 (by decide), fun h9 => absurd h9 (by decide)⟩ | (constructor <;> (intro h9; omega))) | refine q_Gr.udz ?_ (by omega) (by first | assumption | decide | omega) (by first | exact ⟨fun h9 => absurd h9 (by decide), fun h9 => absurd h9 (by decide)⟩ | (constructor <;> (intro h9; omega))) | refine q_Gr.tr ?_ (by assumption) (by intro k9 j9 hk9; omega)))) (q_Gr.rb (S := fun k j => k = 139 ∧ j = 7) hR (by repeat (first | exact q_Gr.rf | refine q_Gr.ud ?_ (by omega) (by first | assumption | rfl) rfl (by first | exact ⟨fun h9 => absurd h9 (by decide), fun h9 => absurd h9 (by decide)⟩ | (constructor <;> (intro h9; omega))) | refine q_Gr.udz ?_ (by omega) (by first | assumption | decide | omega) (by first | exact ⟨fun h9 => absurd h9 (by decide), fun h9 => absurd h9 (by decide)⟩ | (constructor <;> (intro h9; omega))) | refine q_Gr.tr ?_ (by assumption) (by intro k9 j9 hk9; omega)))) (by first | assumption | omega)) ?_
          intro t14 w14 g14 p14
          obtain ⟨rfl, ⟨z14, rfl, hs14⟩, rfl⟩ := p14
          refine Or.inr (Or.inl ⟨rfl, ?_⟩)
          exact r_iret c250_62 ⟨rfl, rfl, rfl⟩ ⟨rfl, ⟨_, rfl⟩, (by repeat (first | exact q_Gr.rf | refine q_Gr.ud ?_ (by omega) (by first | assumption | rfl) rfl (by first | exact ⟨fun h9 => absurd h9 (by decide), fun h9 => absurd h9 (by decide)⟩ | (constructor <;> (intro h9; omega))) | refine q_Gr.udz ?_ (by omega) (by first | assumption | decide | omega) (by first | exact ⟨fun h9 => absurd h9 (by decide), fun h9 => absurd h9 (by decide)⟩ | (constructor <;> (intro h9; omega))) | refine q_Gr.tr ?_ (by assumption) (by intro k9 j9 hk9; omega)))⟩
        · intro b13
          refine r_aload_n c250_50 rfl rfl ?_
          refine r_getf (q_Gr.rb (S := fun k j => k = 139 ∧ j = 7) hR (by repeat (first | exact q_Gr.rf | refine q_Gr.ud ?_ (by omega) (by first | assumption | rfl) rfl (by first | exact ⟨fun h9 => absurd h9 (by decide), fun h9 => absurd h9 (by decide)⟩ | (constructor <;> (intro h9; omega))) | refine q_Gr.udz ?_ (by omega) (by first | assumption | decide | omega) (by first | exact ⟨fun h9 => absurd h9 (by decide), fun h9 => absurd h9 (by decide)⟩ | (constructor <;> (intro h9; omega))) | refine q_Gr.tr ?_ (by assumption) (by intro k9 j9 hk9; omega)))) c250_51 rfl rfl ?_
          intro y15
          refine r_goto c250_54 ?_
          exact r_iret c250_62 ⟨rfl, rfl, rfl⟩ ⟨rfl, ⟨_, rfl⟩, (by repeat (first | exact q_Gr.rf | refine q_Gr.ud ?_ (by omega) (by first | assumption | rfl) rfl (by first | exact ⟨fun h9 => absurd h9 (by decide), fun h9 => absurd h9 (by decide)⟩ | (constructor <;> (intro h9; omega))) | refine q_Gr.udz ?_ (by omega) (by first | assumption | decide | omega) (by first | exact ⟨fun h9 => absurd h9 (by decide), fun h9 => absurd h9 (by decide)⟩ | (constructor <;> (intro h9; omega))) | refine q_Gr.tr ?_ (by assumption) (by intro k9 j9 hk9; omega)))⟩
      · intro b12
        refine r_aload_n c250_37 rfl rfl ?_
        refine r_vcG c250_38 (by first | assumption | omega) (by decide) (by first | assumption | rfl) rfl rfl rfl (k265 hG (q_Gr.bz (S := fun k j => k = 139 ∧ j = 7) hZ (by repeat (first | exact q_Gr.rf | refine q_Gr.ud ?_ (by omega) (by first | assumption | rfl) rfl (by first | exact ⟨fun h9 => absurd h9 (by decide), fun h9 => absurd h9 (by decide)⟩ | (constructor <;> (intro h9; omega))) | refine q_Gr.udz ?_ (by omega) (by first | assumption | decide | omega) (by first | exact ⟨fun h9 => absurd h9 (by decide), fun h9 => absurd h9 (by decide)⟩ | (constructor <;> (intro h9; omega))) | refine q_Gr.tr ?_ (by assumption) (by intro k9 j9 hk9; omega)))) (q_Gr.rb (S := fun k j => k = 139 ∧ j = 7) hR (by repeat (first | exact q_Gr.rf | refine q_Gr.ud ?_ (by omega) (by first | assumption | rfl) rfl (by first | exact ⟨fun h9 => absurd h9 (by decide), fun h9 => absurd h9 (by decide)⟩ | (constructor <;> (intro h9; omega))) | refine q_Gr.udz ?_ (by omega) (by first | assumption | decide | omega) (by first | exact ⟨fun h9 => absurd h9 (by decide), fun h9 => absurd h9 (by decide)⟩ | (constructor <;> (intro h9; omega))) | refine q_Gr.tr ?_ (by assumption) (by intro k9 j9 hk9; omega))))) ?_
        intro t16 w16 g16 p16
        obtain ⟨rfl, ⟨z16, rfl⟩, rfl⟩ := p16
        refine Or.inr (Or.inl ⟨rfl, ?_⟩)
        refine r_goto c250_41 ?_
        exact r_iret c250_62 ⟨rfl, rfl, rfl⟩ ⟨rfl, ⟨_, rfl⟩, (by repeat (first | exact q_Gr.rf | refine q_Gr.ud ?_ (by omega) (by first | assumption | rfl) rfl (by first | exact ⟨fun h9 => absurd h9 (by decide), fun h9 => absurd h9 (by decide)⟩ | (constructor <;> (intro h9; omega))) | refine q_Gr.udz ?_ (by omega) (by first | assumption | decide | omega) (by first | exact ⟨fun h9 => absurd h9 (by decide), fun h9 => absurd h9 (by decide)⟩ | (constructor <;> (intro h9; omega))) | refine q_Gr.tr ?_ (by assumption) (by intro k9 j9 hk9; omega)))⟩
    · intro b11
      refine r_iconst c250_30 rfl ?_
      exact r_iret c250_31 ⟨rfl, rfl, rfl⟩ ⟨rfl, ⟨_, rfl⟩, (by repeat (first | exact q_Gr.rf | refine q_Gr.ud ?_ (by omega) (by first | assumption | rfl) rfl (by first | exact ⟨fun h9 => absurd h9 (by decide), fun h9 => absurd h9 (by decide)⟩ | (constructor <;> (intro h9; omega))) | refine q_Gr.udz ?_ (by omega) (by first | assumption | decide | omega) (by first | exact ⟨fun h9 => absurd h9 (by decide), fun h9 => absurd h9 (by decide)⟩ | (constructor <;> (intro h9; omega))) | refine q_Gr.tr ?_ (by assumption) (by intro k9 j9 hk9; omega)))⟩
theorem c239_0 : q_cat 239 0 (.aload_n 0) 1 0 0 (0) := ⟨rfl, rfl⟩
theorem c239_1 : q_cat 239 1 (.iload_n 1) 1 1 0 (0) := ⟨rfl, rfl⟩
theorem c239_2 : q_cat 239 2 (.invokevirtual 280) 3 298 0 (0) := ⟨rfl, rfl⟩
theorem c239_5 : q_cat 239 5 (.ifCond .ne 28) 3 33 0 (0) := ⟨rfl, rfl⟩
theorem c239_8 : q_cat 239 8 (.aload_n 0) 1 0 0 (0) := ⟨rfl, rfl⟩
theorem c239_9 : q_cat 239 9 (.iload_n 2) 1 2 0 (0) := ⟨rfl, rfl⟩
theorem c239_10 : q_cat 239 10 (.i2l) 1 0 0 (0) := ⟨rfl, rfl⟩
theorem c239_11 : q_cat 239 11 (.lconst 0) 1 0 0 (0) := ⟨rfl, rfl⟩
theorem c239_12 : q_cat 239 12 (.ldc2_w 283) 3 0 0 (12) := ⟨rfl, rfl⟩
theorem c239_15 : q_cat 239 15 (.invokestatic 163) 3 267 1 (0) := ⟨rfl, rfl⟩
theorem c239_18 : q_cat 239 18 (.ifCond .ne 7) 3 25 0 (0) := ⟨rfl, rfl⟩
theorem c239_21 : q_cat 239 21 (.iconst 1) 1 0 0 (0) := ⟨rfl, rfl⟩
theorem c239_22 : q_cat 239 22 (.goto 4) 3 26 0 (0) := ⟨rfl, rfl⟩
theorem c239_25 : q_cat 239 25 (.iconst 0) 1 0 0 (0) := ⟨rfl, rfl⟩
theorem c239_26 : q_cat 239 26 (.iconst 2) 1 0 0 (0) := ⟨rfl, rfl⟩
theorem c239_27 : q_cat 239 27 (.invokevirtual 273) 3 258 0 (0) := ⟨rfl, rfl⟩
theorem c239_30 : q_cat 239 30 (.ifCond .eq 5) 3 35 0 (0) := ⟨rfl, rfl⟩
theorem c239_33 : q_cat 239 33 (.iconst 0) 1 0 0 (0) := ⟨rfl, rfl⟩
theorem c239_34 : q_cat 239 34 (.ireturn) 1 0 0 (0) := ⟨rfl, rfl⟩
theorem c239_35 : q_cat 239 35 (.aload_n 0) 1 0 0 (0) := ⟨rfl, rfl⟩
theorem c239_36 : q_cat 239 36 (.bipush 8) 2 0 0 (0) := ⟨rfl, rfl⟩
theorem c239_38 : q_cat 239 38 (.iconst 3) 1 0 0 (0) := ⟨rfl, rfl⟩
theorem c239_39 : q_cat 239 39 (.iload_n 2) 1 2 0 (0) := ⟨rfl, rfl⟩
theorem c239_40 : q_cat 239 40 (.imul) 1 0 0 (0) := ⟨rfl, rfl⟩
theorem c239_41 : q_cat 239 41 (.iadd) 1 0 0 (0) := ⟨rfl, rfl⟩
theorem c239_42 : q_cat 239 42 (.iload_n 1) 1 1 0 (0) := ⟨rfl, rfl⟩
theorem c239_43 : q_cat 239 43 (.iadd) 1 0 0 (0) := ⟨rfl, rfl⟩
theorem c239_44 : q_cat 239 44 (.invokevirtual 82) 3 303 0 (0) := ⟨rfl, rfl⟩
theorem c239_47 : q_cat 239 47 (.ireturn) 1 0 0 (0) := ⟨rfl, rfl⟩
theorem k239 {Γ : q_Γ} (hG : q_GG Γ) {h : q_F} (hZ : q_Bz h) (hR : q_Rb h) {v1 : Int} {v2 : Int}  :
    q_M Γ q_K 155 239 [(2, Int.ofNat 139), (0, v1), (0, v2)] h (fun t w h' => (t = 1 ∧ (∃ z, w = ((0, z) : q_V)) ∧ q_Gr (fun k j => k = 139 ∧ j = 7) h h')) := by
  refine q_M.of (by decide) (Nat.le_of_ble_eq_true rfl) hG ?_
  refine r_aload_n c239_0 rfl rfl ?_
  refine r_iload_n c239_1 rfl rfl ?_
  refine r_vcG c239_2 (by first | assumption | omega) (by decide) (by first | assumption | rfl) rfl rfl rfl (k298 hG (q_Gr.bz (S := fun k j => k = 139 ∧ j = 7) hZ (by repeat (first | exact q_Gr.rf | refine q_Gr.ud ?_ (by omega) (by first | assumption | rfl) rfl (by first | exact ⟨fun h9 => absurd h9 (by decide), fun h9 => absurd h9 (by decide)⟩ | (constructor <;> (intro h9; omega))) | refine q_Gr.udz ?_ (by omega) (by first | assumption | decide | omega) (by first | exact ⟨fun h9 => absurd h9 (by decide), fun h9 => absurd h9 (by decide)⟩ | (constructor <;> (intro h9; omega))) | refine q_Gr.tr ?_ (by assumption) (by intro k9 j9 hk9; omega)))) (q_Gr.rb (S := fun k j => k = 139 ∧ j = 7) hR (by repeat (first | exact q_Gr.rf | refine q_Gr.ud ?_ (by omega) (by first | assumption | rfl) rfl (by first | exact ⟨fun h9 => absurd h9 (by decide), fun h9 => absurd h9 (by decide)⟩ | (constructor <;> (intro h9; omega))) | refine q_Gr.udz ?_ (by omega) (by first | assumption | decide | omega) (by first | exact ⟨fun h9 => absurd h9 (by decide), fun h9 => absurd h9 (by decide)⟩ | (constructor <;> (intro h9; omega))) | refine q_Gr.tr ?_ (by assumption) (by intro k9 j9 hk9; omega))))) ?_
  intro t1 w1 g1 p1
  obtain ⟨rfl, ⟨z1, rfl, hz1, hs1⟩, e1⟩ := p1
  refine Or.inr (Or.inl ⟨rfl, ?_⟩)
  refine r_if_ne c239_5 rfl (by first | exact q_w32_id (by omega) (by omega) | exact q_w32w _ | exact rfl) ?_ ?_
  · intro b2
    refine r_iconst c239_33 rfl ?_
    exact r_iret c239_34 ⟨rfl, rfl, rfl⟩ ⟨rfl, ⟨_, rfl⟩, (by repeat (first | exact q_Gr.rf | refine q_Gr.ud ?_ (by omega) (by first | assumption | rfl) rfl (by first | exact ⟨fun h9 => absurd h9 (by decide), fun h9 => absurd h9 (by decide)⟩ | (constructor <;> (intro h9; omega))) | refine q_Gr.udz ?_ (by omega) (by first | assumption | decide | omega) (by first | exact ⟨fun h9 => absurd h9 (by decide), fun h9 => absurd h9 (by decide)⟩ | (constructor <;> (intro h9; omega))) | refine q_Gr.tr ?_ (by assumption) (by intro k9 j9 hk9; omega)))⟩
  · intro b2
    refine r_aload_n c239_8 rfl rfl ?_
    refine r_iload_n c239_9 rfl rfl ?_
    refine r_i2l c239_10 (by first | exact q_w32_id (by omega) (by omega) | exact q_w32w _ | exact rfl) rfl ?_
    refine r_lconst c239_11 rfl ?_
    refine r_ldc2 c239_12 rfl rfl ?_
    refine r_callG c239_15 (fun _ => rfl) rfl rfl rfl (k267 hG (q_Gr.bz (S := fun k j => k = 139 ∧ j = 7) hZ (by repeat (first | exact q_Gr.rf | refine q_Gr.ud ?_ (by omega) (by first | assumption | rfl) rfl (by first | exact ⟨fun h9 => absurd h9 (by decide), fun h9 => absurd h9 (by decide)⟩ | (constructor <;> (intro h9; omega))) | refine q_Gr.udz ?_ (by omega) (by first | assumption | decide | omega) (by first | exact ⟨fun h9 => absurd h9 (by decide), fun h9 => absurd h9 (by decide)⟩ | (constructor <;> (intro h9; omega))) | refine q_Gr.tr ?_ (by assumption) (by intro k9 j9 hk9; omega)))) (q_Gr.rb (S := fun k j => k = 139 ∧ j = 7) hR (by repeat (first | exact q_Gr.rf | refine q_Gr.ud ?_ (by omega) (by first | assumption | rfl) rfl (by first | exact ⟨fun h9 => absurd h9 (by decide), fun h9 => absurd h9 (by decide)⟩ | (constructor <;> (intro h9; omega))) | refine q_Gr.udz ?_ (by omega) (by first | assumption | decide | omega) (by first | exact ⟨fun h9 => absurd h9 (by decide), fun h9 => absurd h9 (by decide)⟩ | (constructor <;> (intro h9; omega))) | refine q_Gr.tr ?_ (by assumption) (by intro k9 j9 hk9; omega)))) (by first | exact q_w64_id (by omega) (by omega) | exact rfl) (by first | exact q_w64_id (by omega) (by omega) | exact rfl) (by first | exact q_w64_id (by omega) (by omega) | exact rfl)) ?_
    intro t3 w3 g3 p3
    obtain ⟨rfl, ⟨z3, rfl, hz3, hs3⟩, rfl⟩ := p3
    refine Or.inr (Or.inl ⟨rfl, ?_⟩)
    refine r_if_ne c239_18 rfl (by first | exact q_w32_id (by omega) (by omega) | exact q_w32w _ | exact rfl) ?_ ?_
    · intro b4
      refine r_iconst c239_25 rfl ?_
      refine r_iconst c239_26 rfl ?_
      refine r_vcG c239_27 (by first | assumption | omega) (by decide) (by first | assumption | rfl) rfl rfl rfl (k258 hG (q_Gr.bz (S := fun k j => k = 139 ∧ j = 7) hZ (by repeat (first | exact q_Gr.rf | refine q_Gr.ud ?_ (by omega) (by first | assumption | rfl) rfl (by first | exact ⟨fun h9 => absurd h9 (by decide), fun h9 => absurd h9 (by decide)⟩ | (constructor <;> (intro h9; omega))) | refine q_Gr.udz ?_ (by omega) (by first | assumption | decide | omega) (by first | exact ⟨fun h9 => absurd h9 (by decide), fun h9 => absurd h9 (by decide)⟩ | (constructor <;> (intro h9; omega))) | refine q_Gr.tr ?_ (by assumption) (by intro k9 j9 hk9; omega)))) (q_Gr.rb (S := fun k j => k = 139 ∧ j = 7) hR (by repeat (first | exact q_Gr.rf | refine q_Gr.ud ?_ (by omega) (by first | assumption | rfl) rfl (by first | exact ⟨fun h9 => absurd h9 (by decide), fun h9 => absurd h9 (by decide)⟩ | (constructor <;> (intro h9; omega))) | refine q_Gr.udz ?_ (by omega) (by first | assumption | decide | omega) (by first | exact ⟨fun h9 => absurd h9 (by decide), fun h9 => absurd h9 (by decide)⟩ | (constructor <;> (intro h9; omega))) | refine q_Gr.tr ?_ (by assumption) (by intro k9 j9 hk9; omega)))) (by first | assumption | decide | omega)) ?_
      intro t5 w5 g5 p5
      obtain ⟨rfl, ⟨z5, rfl, hz5, hs5⟩, e5⟩ := p5
      refine Or.inr (Or.inl ⟨rfl, ?_⟩)
      refine r_if_eq c239_30 rfl (by first | exact q_w32_id (by omega) (by omega) | exact q_w32w _ | exact rfl) ?_ ?_
      · intro b6
        refine r_aload_n c239_35 rfl rfl ?_
        refine r_bipush c239_36 rfl ?_
        refine r_iconst c239_38 rfl ?_
        refine r_iload_n c239_39 rfl rfl ?_
        refine r_imul c239_40 (by first | exact q_w32_id (by omega) (by omega) | exact q_w32w _ | exact rfl) rfl ?_
        refine r_iadd c239_41 (by first | exact q_w32_id (by omega) (by omega) | exact q_w32w _ | exact rfl) rfl ?_
        refine r_iload_n c239_42 rfl rfl ?_
        refine r_iadd c239_43 (by first | exact q_w32_id (by omega) (by omega) | exact q_w32w _ | exact rfl) rfl ?_
        refine r_vcG c239_44 (by first | assumption | omega) (by decide) (by first | assumption | rfl) rfl rfl rfl (k303 hG (q_Gr.bz (S := fun k j => k = 139 ∧ j = 7) hZ (by repeat (first | exact q_Gr.rf | refine q_Gr.ud ?_ (by omega) (by first | assumption | rfl) rfl (by first | exact ⟨fun h9 => absurd h9 (by decide), fun h9 => absurd h9 (by decide)⟩ | (constructor <;> (intro h9; omega))) | refine q_Gr.udz ?_ (by omega) (by first | assumption | decide | omega) (by first | exact ⟨fun h9 => absurd h9 (by decide), fun h9 => absurd h9 (by decide)⟩ | (constructor <;> (intro h9; omega))) | refine q_Gr.tr ?_ (by assumption) (by intro k9 j9 hk9; omega)))) (q_Gr.rb (S := fun k j => k = 139 ∧ j = 7) hR (by repeat (first | exact q_Gr.rf | refine q_Gr.ud ?_ (by omega) (by first | assumption | rfl) rfl (by first | exact ⟨fun h9 => absurd h9 (by decide), fun h9 => absurd h9 (by decide)⟩ | (constructor <;> (intro h9; omega))) | refine q_Gr.udz ?_ (by omega) (by first | assumption | decide | omega) (by first | exact ⟨fun h9 => absurd h9 (by decide), fun h9 => absurd h9 (by decide)⟩ | (constructor <;> (intro h9; omega))) | refine q_Gr.tr ?_ (by assumption) (by intro k9 j9 hk9; omega)))) (by first | assumption | omega)) ?_
        intro t7 w7 g7 p7
        obtain ⟨rfl, ⟨z7, rfl, hs7⟩, rfl⟩ := p7
        refine Or.inr (Or.inl ⟨rfl, ?_⟩)
        exact r_iret c239_47 ⟨rfl, rfl, rfl⟩ ⟨rfl, ⟨_, rfl⟩, (by repeat (first | exact q_Gr.rf | refine q_Gr.ud ?_ (by omega) (by first | assumption | rfl) rfl (by first | exact ⟨fun h9 => absurd h9 (by decide), fun h9 => absurd h9 (by decide)⟩ | (constructor <;> (intro h9; omega))) | refine q_Gr.udz ?_ (by omega) (by first | assumption | decide | omega) (by first | exact ⟨fun h9 => absurd h9 (by decide), fun h9 => absurd h9 (by decide)⟩ | (constructor <;> (intro h9; omega))) | refine q_Gr.tr ?_ (by assumption) (by intro k9 j9 hk9; omega)))⟩
      · intro b6
        refine r_iconst c239_33 rfl ?_
        exact r_iret c239_34 ⟨rfl, rfl, rfl⟩ ⟨rfl, ⟨_, rfl⟩, (by repeat (first | exact q_Gr.rf | refine q_Gr.ud ?_ (by omega) (by first | assumption | rfl) rfl (by first | exact ⟨fun h9 => absurd h9 (by decide), fun h9 => absurd h9 (by decide)⟩ | (constructor <;> (intro h9; omega))) | refine q_Gr.udz ?_ (by omega) (by first | assumption | decide | omega) (by first | exact ⟨fun h9 => absurd h9 (by decide), fun h9 => absurd h9 (by decide)⟩ | (constructor <;> (intro h9; omega))) | refine q_Gr.tr ?_ (by assumption) (by intro k9 j9 hk9; omega)))⟩
    · intro b4
      refine r_iconst c239_21 rfl ?_
      refine r_goto c239_22 ?_
      refine r_iconst c239_26 rfl ?_
      refine r_vcG c239_27 (by first | assumption | omega) (by decide) (by first | assumption | rfl) rfl rfl rfl (k258 hG (q_Gr.bz (S := fun k j => k = 139 ∧ j = 7) hZ (by repeat (first | exact q_Gr.rf | refine q_Gr.ud ?_ (by omega) (by first | assumption | rfl) rfl (by first | exact ⟨fun h9 => absurd h9 (by decide), fun h9 => absurd h9 (by decide)⟩ | (constructor <;> (intro h9; omega))) | refine q_Gr.udz ?_ (by omega) (by first | assumption | decide | omega) (by first | exact ⟨fun h9 => absurd h9 (by decide), fun h9 => absurd h9 (by decide)⟩ | (constructor <;> (intro h9; omega))) | refine q_Gr.tr ?_ (by assumption) (by intro k9 j9 hk9; omega)))) (q_Gr.rb (S := fun k j => k = 139 ∧ j = 7) hR (by repeat (first | exact q_Gr.rf | refine q_Gr.ud ?_ (by omega) (by first | assumption | rfl) rfl (by first | exact ⟨fun h9 => absurd h9 (by decide), fun h9 => absurd h9 (by decide)⟩ | (constructor <;> (intro h9; omega))) | refine q_Gr.udz ?_ (by omega) (by first | assumption | decide | omega) (by first | exact ⟨fun h9 => absurd h9 (by decide), fun h9 => absurd h9 (by decide)⟩ | (constructor <;> (intro h9; omega))) | refine q_Gr.tr ?_ (by assumption) (by intro k9 j9 hk9; omega)))) (by first | assumption | decide | omega)) ?_
      intro t8 w8 g8 p8
      obtain ⟨rfl, ⟨z8, rfl, hz8, hs8⟩, e8⟩ := p8
      refine Or.inr (Or.inl ⟨rfl, ?_⟩)
      refine r_if_eq c239_30 rfl (by first | exact q_w32_id (by omega) (by omega) | exact q_w32w _ | exact rfl) ?_ ?_
      · intro b9
        refine r_aload_n c239_35 rfl rfl ?_
        refine r_bipush c239_36 rfl ?_
        refine r_iconst c239_38 rfl ?_
        refine r_iload_n c239_39 rfl rfl ?_
        refine r_imul c239_40 (by first | exact q_w32_id (by omega) (by omega) | exact q_w32w _ | exact rfl) rfl ?_
        refine r_iadd c239_41 (by first | exact q_w32_id (by omega) (by omega) | exact q_w32w _ | exact rfl) rfl ?_
        refine r_iload_n c239_42 rfl rfl ?_
        refine r_iadd c239_43 (by first | exact q_w32_id (by omega) (by omega) | exact q_w32w _ | exact rfl) rfl ?_
        refine r_vcG c239_44 (by first | assumption | omega) (by decide) (by first | assumption | rfl) rfl rfl rfl (k303 hG (q_Gr.bz (S := fun k j => k = 139 ∧ j = 7) hZ (by repeat (first | exact q_Gr.rf | refine q_Gr.ud ?_ (by omega) (by first | assumption | rfl) rfl (by first | exact ⟨fun h9 => absurd h9 (by decide), fun h9 => absurd h9 (by decide)⟩ | (constructor <;> (intro h9; omega))) | refine q_Gr.udz ?_ (by omega) (by first | assumption | decide | omega) (by first | exact ⟨fun h9 => absurd h9 (by decide), fun h9 => absurd h9 (by decide)⟩ | (constructor <;> (intro h9; omega))) | refine q_Gr.tr ?_ (by assumption) (by intro k9 j9 hk9; omega)))) (q_Gr.rb (S := fun k j => k = 139 ∧ j = 7) hR (by repeat (first | exact q_Gr.rf | refine q_Gr.ud ?_ (by omega) (by first | assumption | rfl) rfl (by first | exact ⟨fun h9 => absurd h9 (by decide), fun h9 => absurd h9 (by decide)⟩ | (constructor <;> (intro h9; omega))) | refine q_Gr.udz ?_ (by omega) (by first | assumption | decide | omega) (by first | exact ⟨fun h9 => absurd h9 (by decide), fun h9 => absurd h9 (by decide)⟩ | (constructor <;> (intro h9; omega))) | refine q_Gr.tr ?_ (by assumption) (by intro k9 j9 hk9; omega)))) (by first | assumption | omega)) ?_
        intro t10 w10 g10 p10
        obtain ⟨rfl, ⟨z10, rfl, hs10⟩, rfl⟩ := p10
        refine Or.inr (Or.inl ⟨rfl, ?_⟩)
        exact r_iret c239_47 ⟨rfl, rfl, rfl⟩ ⟨rfl, ⟨_, rfl⟩, (by repeat (first | exact q_Gr.rf | refine q_Gr.ud ?_ (by omega) (by first | assumption | rfl) rfl (by first | exact ⟨fun h9 => absurd h9 (by decide), fun h9 => absurd h9 (by decide)⟩ | (constructor <;> (intro h9; omega))) | refine q_Gr.udz ?_ (by omega) (by first | assumption | decide | omega) (by first | exact ⟨fun h9 => absurd h9 (by decide), fun h9 => absurd h9 (by decide)⟩ | (constructor <;> (intro h9; omega))) | refine q_Gr.tr ?_ (by assumption) (by intro k9 j9 hk9; omega)))⟩
      · intro b9
        refine r_iconst c239_33 rfl ?_
        exact r_iret c239_34 ⟨rfl, rfl, rfl⟩ ⟨rfl, ⟨_, rfl⟩, (by repeat (first | exact q_Gr.rf | refine q_Gr.ud ?_ (by omega) (by first | assumption | rfl) rfl (by first | exact ⟨fun h9 => absurd h9 (by decide), fun h9 => absurd h9 (by decide)⟩ | (constructor <;> (intro h9; omega))) | refine q_Gr.udz ?_ (by omega) (by first | assumption | decide | omega) (by first | exact ⟨fun h9 => absurd h9 (by decide), fun h9 => absurd h9 (by decide)⟩ | (constructor <;> (intro h9; omega))) | refine q_Gr.tr ?_ (by assumption) (by intro k9 j9 hk9; omega)))⟩
theorem c248_0 : q_cat 248 0 (.aload_n 0) 1 0 0 (0) := ⟨rfl, rfl⟩
theorem c248_1 : q_cat 248 1 (.iload_n 1) 1 1 0 (0) := ⟨rfl, rfl⟩
theorem c248_2 : q_cat 248 2 (.invokevirtual 280) 3 298 0 (0) := ⟨rfl, rfl⟩
theorem c248_5 : q_cat 248 5 (.ifCond .ne 12) 3 17 0 (0) := ⟨rfl, rfl⟩
theorem c248_8 : q_cat 248 8 (.aload_n 0) 1 0 0 (0) := ⟨rfl, rfl⟩
theorem c248_9 : q_cat 248 9 (.iload_n 1) 1 1 0 (0) := ⟨rfl, rfl⟩
theorem c248_10 : q_cat 248 10 (.iconst 2) 1 0 0 (0) := ⟨rfl, rfl⟩
theorem c248_11 : q_cat 248 11 (.invokevirtual 285) 3 302 0 (0) := ⟨rfl, rfl⟩
theorem c248_14 : q_cat 248 14 (.ifCond .eq 7) 3 21 0 (0) := ⟨rfl, rfl⟩
theorem c248_17 : q_cat 248 17 (.iconst 0) 1 0 0 (0) := ⟨rfl, rfl⟩
theorem c248_18 : q_cat 248 18 (.goto 11) 3 29 0 (0) := ⟨rfl, rfl⟩
theorem c248_21 : q_cat 248 21 (.aload_n 0) 1 0 0 (0) := ⟨rfl, rfl⟩
theorem c248_22 : q_cat 248 22 (.bipush 47) 2 0 0 (0) := ⟨rfl, rfl⟩
theorem c248_24 : q_cat 248 24 (.iload_n 1) 1 1 0 (0) := ⟨rfl, rfl⟩
theorem c248_25 : q_cat 248 25 (.iadd) 1 0 0 (0) := ⟨rfl, rfl⟩
theorem c248_26 : q_cat 248 26 (.invokevirtual 82) 3 303 0 (0) := ⟨rfl, rfl⟩
theorem c248_29 : q_cat 248 29 (.ireturn) 1 0 0 (0) := ⟨rfl, rfl⟩
theorem k248 {Γ : q_Γ} (hG : q_GG Γ) {h : q_F} (hZ : q_Bz h) (hR : q_Rb h) {v1 : Int}  :
    q_M Γ q_K 155 248 [(2, Int.ofNat 139), (0, v1)] h (fun t w h' => (t = 1 ∧ (∃ z, w = ((0, z) : q_V)) ∧ q_Gr (fun k j => k = 139 ∧ j = 7) h h')) := by
  refine q_M.of (by decide) (Nat.le_of_ble_eq_true rfl) hG ?_
  refine r_aload_n c248_0 rfl rfl ?_
  refine r_iload_n c248_1 rfl rfl ?_
  refine r_vcG c248_2 (by first | assumption | omega) (by decide) (by first | assumption | rfl) rfl rfl rfl (k298 hG (q_Gr.bz (S := fun k j => k = 139 ∧ j = 7) hZ (by repeat (first | exact q_Gr.rf | refine q_Gr.ud ?_ (by omega) (by first | assumption | rfl) rfl (by first | exact ⟨fun h9 => absurd h9 (by decide), fun h9 => absurd h9 (by decide)⟩ | (constructor <;> (intro h9; omega))) | refine q_Gr.udz ?_ (by omega) (by first | assumption | decide | omega) (by first | exact ⟨fun h9 => absurd h9 (by decide), fun h9 => absurd h9 (by decide)⟩ | (constructor <;> (intro h9; omega))) | refine q_Gr.tr ?_ (by assumption) (by intro k9 j9 hk9; omega)))) (q_Gr.rb (S := fun k j => k = 139 ∧ j = 7) hR (by repeat (first | exact q_Gr.rf | refine q_Gr.ud ?_ (by omega) (by first | assumption | rfl) rfl (by first | exact ⟨fun h9 => absurd h9 (by decide), fun h9 => absurd h9 (by decide)⟩ | (constructor <;> (intro h9; omega))) | refine q_Gr.udz ?_ (by omega) (by first | assumption | decide | omega) (by first | exact ⟨fun h9 => absurd h9 (by decide), fun h9 => absurd h9 (by decide)⟩ | (constructor <;> (intro h9; omega))) | refine q_Gr.tr ?_ (by assumption) (by intro k9 j9 hk9; omega))))) ?_
  intro t1 w1 g1 p1
  obtain ⟨rfl, ⟨z1, rfl, hz1, hs1⟩, e1⟩ := p1
  refine Or.inr (Or.inl ⟨rfl, ?_⟩)
  refine r_if_ne c248_5 rfl (by first | exact q_w32_id (by omega) (by omega) | exact q_w32w _ | exact rfl) ?_ ?_
  · intro b2
    refine r_iconst c248_17 rfl ?_
    refine r_goto c248_18 ?_
    exact r_iret c248_29 ⟨rfl, rfl, rfl⟩ ⟨rfl, ⟨_, rfl⟩, (by repeat (first | exact q_Gr.rf | refine q_Gr.ud ?_ (by omega) (by first | assumption | rfl) rfl (by first | exact ⟨fun h9 => absurd h9 (by decide), fun h9 => absurd h9 (by decide)⟩ | (constructor <;> (intro h9; omega))) | refine q_Gr.udz ?_ (by omega) (by first | assumption | decide | omega) (by first | exact ⟨fun h9 => absurd h9 (by decide), fun h9 => absurd h9 (by decide)⟩ | (constructor <;> (intro h9; omega))) | refine q_Gr.tr ?_ (by assumption) (by intro k9 j9 hk9; omega)))⟩
  · intro b2
    refine r_aload_n c248_8 rfl rfl ?_
    refine r_iload_n c248_9 rfl rfl ?_
    refine r_iconst c248_10 rfl ?_
    refine r_vcG c248_11 (by first | assumption | omega) (by decide) (by first | assumption | rfl) rfl rfl rfl (k302 hG (q_Gr.bz (S := fun k j => k = 139 ∧ j = 7) hZ (by repeat (first | exact q_Gr.rf | refine q_Gr.ud ?_ (by omega) (by first | assumption | rfl) rfl (by first | exact ⟨fun h9 => absurd h9 (by decide), fun h9 => absurd h9 (by decide)⟩ | (constructor <;> (intro h9; omega))) | refine q_Gr.udz ?_ (by omega) (by first | assumption | decide | omega) (by first | exact ⟨fun h9 => absurd h9 (by decide), fun h9 => absurd h9 (by decide)⟩ | (constructor <;> (intro h9; omega))) | refine q_Gr.tr ?_ (by assumption) (by intro k9 j9 hk9; omega)))) (q_Gr.rb (S := fun k j => k = 139 ∧ j = 7) hR (by repeat (first | exact q_Gr.rf | refine q_Gr.ud ?_ (by omega) (by first | assumption | rfl) rfl (by first | exact ⟨fun h9 => absurd h9 (by decide), fun h9 => absurd h9 (by decide)⟩ | (constructor <;> (intro h9; omega))) | refine q_Gr.udz ?_ (by omega) (by first | assumption | decide | omega) (by first | exact ⟨fun h9 => absurd h9 (by decide), fun h9 => absurd h9 (by decide)⟩ | (constructor <;> (intro h9; omega))) | refine q_Gr.tr ?_ (by assumption) (by intro k9 j9 hk9; omega)))) (by first | assumption | omega)) ?_
    intro t3 w3 g3 p3
    obtain ⟨rfl, ⟨z3, rfl, hz3⟩, e3⟩ := p3
    refine Or.inr (Or.inl ⟨rfl, ?_⟩)
    refine r_if_eq c248_14 rfl (by first | exact q_w32_id (by omega) (by omega) | exact q_w32w _ | exact rfl) ?_ ?_
    · intro b4
      refine r_aload_n c248_21 rfl rfl ?_
      refine r_bipush c248_22 rfl ?_
      refine r_iload_n c248_24 rfl rfl ?_
      refine r_iadd c248_25 (by first | exact q_w32_id (by omega) (by omega) | exact q_w32w _ | exact rfl) rfl ?_
      refine r_vcG c248_26 (by first | assumption | omega) (by decide) (by first | assumption | rfl) rfl rfl rfl (k303 hG (q_Gr.bz (S := fun k j => k = 139 ∧ j = 7) hZ (by repeat (first | exact q_Gr.rf | refine q_Gr.ud ?_ (by omega) (by first | assumption | rfl) rfl (by first | exact ⟨fun h9 => absurd h9 (by decide), fun h9 => absurd h9 (by decide)⟩ | (constructor <;> (intro h9; omega))) | refine q_Gr.udz ?_ (by omega) (by first | assumption | decide | omega) (by first | exact ⟨fun h9 => absurd h9 (by decide), fun h9 => absurd h9 (by decide)⟩ | (constructor <;> (intro h9; omega))) | refine q_Gr.tr ?_ (by assumption) (by intro k9 j9 hk9; omega)))) (q_Gr.rb (S := fun k j => k = 139 ∧ j = 7) hR (by repeat (first | exact q_Gr.rf | refine q_Gr.ud ?_ (by omega) (by first | assumption | rfl) rfl (by first | exact ⟨fun h9 => absurd h9 (by decide), fun h9 => absurd h9 (by decide)⟩ | (constructor <;> (intro h9; omega))) | refine q_Gr.udz ?_ (by omega) (by first | assumption | decide | omega) (by first | exact ⟨fun h9 => absurd h9 (by decide), fun h9 => absurd h9 (by decide)⟩ | (constructor <;> (intro h9; omega))) | refine q_Gr.tr ?_ (by assumption) (by intro k9 j9 hk9; omega)))) (by first | assumption | omega)) ?_
      intro t5 w5 g5 p5
      obtain ⟨rfl, ⟨z5, rfl, hs5⟩, rfl⟩ := p5
      refine Or.inr (Or.inl ⟨rfl, ?_⟩)
      exact r_iret c248_29 ⟨rfl, rfl, rfl⟩ ⟨rfl, ⟨_, rfl⟩, (by repeat (first | exact q_Gr.rf | refine q_Gr.ud ?_ (by omega) (by first | assumption | rfl) rfl (by first | exact ⟨fun h9 => absurd h9 (by decide), fun h9 => absurd h9 (by decide)⟩ | (constructor <;> (intro h9; omega))) | refine q_Gr.udz ?_ (by omega) (by first | assumption | decide | omega) (by first | exact ⟨fun h9 => absurd h9 (by decide), fun h9 => absurd h9 (by decide)⟩ | (constructor <;> (intro h9; omega))) | refine q_Gr.tr ?_ (by assumption) (by intro k9 j9 hk9; omega)))⟩
    · intro b4
      refine r_iconst c248_17 rfl ?_
      refine r_goto c248_18 ?_
      exact r_iret c248_29 ⟨rfl, rfl, rfl⟩ ⟨rfl, ⟨_, rfl⟩, (by repeat (first | exact q_Gr.rf | refine q_Gr.ud ?_ (by omega) (by first | assumption | rfl) rfl (by first | exact ⟨fun h9 => absurd h9 (by decide), fun h9 => absurd h9 (by decide)⟩ | (constructor <;> (intro h9; omega))) | refine q_Gr.udz ?_ (by omega) (by first | assumption | decide | omega) (by first | exact ⟨fun h9 => absurd h9 (by decide), fun h9 => absurd h9 (by decide)⟩ | (constructor <;> (intro h9; omega))) | refine q_Gr.tr ?_ (by assumption) (by intro k9 j9 hk9; omega)))⟩
theorem c254_0 : q_cat 254 0 (.aload_n 0) 1 0 0 (0) := ⟨rfl, rfl⟩
theorem c254_1 : q_cat 254 1 (.iload_n 1) 1 1 0 (0) := ⟨rfl, rfl⟩
theorem c254_2 : q_cat 254 2 (.invokevirtual 280) 3 298 0 (0) := ⟨rfl, rfl⟩
theorem c254_5 : q_cat 254 5 (.ifCond .ne 12) 3 17 0 (0) := ⟨rfl, rfl⟩
theorem c254_8 : q_cat 254 8 (.aload_n 0) 1 0 0 (0) := ⟨rfl, rfl⟩
theorem c254_9 : q_cat 254 9 (.iload_n 1) 1 1 0 (0) := ⟨rfl, rfl⟩
theorem c254_10 : q_cat 254 10 (.iconst 2) 1 0 0 (0) := ⟨rfl, rfl⟩
theorem c254_11 : q_cat 254 11 (.invokevirtual 285) 3 302 0 (0) := ⟨rfl, rfl⟩
theorem c254_14 : q_cat 254 14 (.ifCond .eq 7) 3 21 0 (0) := ⟨rfl, rfl⟩
theorem c254_17 : q_cat 254 17 (.iconst 0) 1 0 0 (0) := ⟨rfl, rfl⟩
theorem c254_18 : q_cat 254 18 (.goto 8) 3 26 0 (0) := ⟨rfl, rfl⟩
theorem c254_21 : q_cat 254 21 (.aload_n 0) 1 0 0 (0) := ⟨rfl, rfl⟩
theorem c254_22 : q_cat 254 22 (.iload_n 1) 1 1 0 (0) := ⟨rfl, rfl⟩
theorem c254_23 : q_cat 254 23 (.invokevirtual 288) 3 256 0 (0) := ⟨rfl, rfl⟩
theorem c254_26 : q_cat 254 26 (.ireturn) 1 0 0 (0) := ⟨rfl, rfl⟩
theorem k254 {Γ : q_Γ} (hG : q_GG Γ) {h : q_F} (hZ : q_Bz h) (hR : q_Rb h) {v1 : Int}  :
    q_M Γ q_K 155 254 [(2, Int.ofNat 139), (0, v1)] h (fun t w h' => (t = 1 ∧ (∃ z, w = ((0, z) : q_V)) ∧ q_Gr (fun k j => k = 139 ∧ j = 7) h h')) := by
  refine q_M.of (by decide) (Nat.le_of_ble_eq_true rfl) hG ?_
  refine r_aload_n c254_0 rfl rfl ?_
  refine r_iload_n c254_1 rfl rfl ?_
  refine r_vcG c254_2 (by first | assumption | omega) (by decide) (by first | assumption | rfl) rfl rfl rfl (k298 hG (q_Gr.bz (S := fun k j => k = 139 ∧ j = 7) hZ (by repeat (first | exact q_Gr.rf | refine q_Gr.ud ?_ (by omega) (by first | assumption | rfl) rfl (by first | exact ⟨fun h9 => absurd h9 (by decide), fun h9 => absurd h9 (by decide)⟩ | (constructor <;> (intro h9; omega))) | refine q_Gr.udz ?_ (by omega) (by first | assumption | decide | omega) (by first | exact ⟨fun h9 => absurd h9 (by decide), fun h9 => absurd h9 (by decide)⟩ | (constructor <;> (intro h9; omega))) | refine q_Gr.tr ?_ (by assumption) (by intro k9 j9 hk9; omega)))) (q_Gr.rb (S := fun k j => k = 139 ∧ j = 7) hR (by repeat (first | exact q_Gr.rf | refine q_Gr.ud ?_ (by omega) (by first | assumption | rfl) rfl (by first | exact ⟨fun h9 => absurd h9 (by decide), fun h9 => absurd h9 (by decide)⟩ | (constructor <;> (intro h9; omega))) | refine q_Gr.udz ?_ (by omega) (by first | assumption | decide | omega) (by first | exact ⟨fun h9 => absurd h9 (by decide), fun h9 => absurd h9 (by decide)⟩ | (constructor <;> (intro h9; omega))) | refine q_Gr.tr ?_ (by assumption) (by intro k9 j9 hk9; omega))))) ?_
  intro t1 w1 g1 p1
  obtain ⟨rfl, ⟨z1, rfl, hz1, hs1⟩, e1⟩ := p1
  refine Or.inr (Or.inl ⟨rfl, ?_⟩)
  refine r_if_ne c254_5 rfl (by first | exact q_w32_id (by omega) (by omega) | exact q_w32w _ | exact rfl) ?_ ?_
  · intro b2
    refine r_iconst c254_17 rfl ?_
    refine r_goto c254_18 ?_
    exact r_iret c254_26 ⟨rfl, rfl, rfl⟩ ⟨rfl, ⟨_, rfl⟩, (by repeat (first | exact q_Gr.rf | refine q_Gr.ud ?_ (by omega) (by first | assumption | rfl) rfl (by first | exact ⟨fun h9 => absurd h9 (by decide), fun h9 => absurd h9 (by decide)⟩ | (constructor <;> (intro h9; omega))) | refine q_Gr.udz ?_ (by omega) (by first | assumption | decide | omega) (by first | exact ⟨fun h9 => absurd h9 (by decide), fun h9 => absurd h9 (by decide)⟩ | (constructor <;> (intro h9; omega))) | refine q_Gr.tr ?_ (by assumption) (by intro k9 j9 hk9; omega)))⟩
  · intro b2
    refine r_aload_n c254_8 rfl rfl ?_
    refine r_iload_n c254_9 rfl rfl ?_
    refine r_iconst c254_10 rfl ?_
    refine r_vcG c254_11 (by first | assumption | omega) (by decide) (by first | assumption | rfl) rfl rfl rfl (k302 hG (q_Gr.bz (S := fun k j => k = 139 ∧ j = 7) hZ (by repeat (first | exact q_Gr.rf | refine q_Gr.ud ?_ (by omega) (by first | assumption | rfl) rfl (by first | exact ⟨fun h9 => absurd h9 (by decide), fun h9 => absurd h9 (by decide)⟩ | (constructor <;> (intro h9; omega))) | refine q_Gr.udz ?_ (by omega) (by first | assumption | decide | omega) (by first | exact ⟨fun h9 => absurd h9 (by decide), fun h9 => absurd h9 (by decide)⟩ | (constructor <;> (intro h9; omega))) | refine q_Gr.tr ?_ (by assumption) (by intro k9 j9 hk9; omega)))) (q_Gr.rb (S := fun k j => k = 139 ∧ j = 7) hR (by repeat (first | exact q_Gr.rf | refine q_Gr.ud ?_ (by omega) (by first | assumption | rfl) rfl (by first | exact ⟨fun h9 => absurd h9 (by decide), fun h9 => absurd h9 (by decide)⟩ | (constructor <;> (intro h9; omega))) | refine q_Gr.udz ?_ (by omega) (by first | assumption | decide | omega) (by first | exact ⟨fun h9 => absurd h9 (by decide), fun h9 => absurd h9 (by decide)⟩ | (constructor <;> (intro h9; omega))) | refine q_Gr.tr ?_ (by assumption) (by intro k9 j9 hk9; omega)))) (by first | assumption | omega)) ?_
    intro t3 w3 g3 p3
    obtain ⟨rfl, ⟨z3, rfl, hz3⟩, e3⟩ := p3
    refine Or.inr (Or.inl ⟨rfl, ?_⟩)
    refine r_if_eq c254_14 rfl (by first | exact q_w32_id (by omega) (by omega) | exact q_w32w _ | exact rfl) ?_ ?_
    · intro b4
      refine r_aload_n c254_21 rfl rfl ?_
      refine r_iload_n c254_22 rfl rfl ?_
      refine r_vcG c254_23 (by first | assumption | omega) (by decide) (by first | assumption | rfl) rfl rfl rfl (k256 hG (q_Gr.bz (S := fun k j => k = 139 ∧ j = 7) hZ (by repeat (first | exact q_Gr.rf | refine q_Gr.ud ?_ (by omega) (by first | assumption | rfl) rfl (by first | exact ⟨fun h9 => absurd h9 (by decide), fun h9 => absurd h9 (by decide)⟩ | (constructor <;> (intro h9; omega))) | refine q_Gr.udz ?_ (by omega) (by first | assumption | decide | omega) (by first | exact ⟨fun h9 => absurd h9 (by decide), fun h9 => absurd h9 (by decide)⟩ | (constructor <;> (intro h9; omega))) | refine q_Gr.tr ?_ (by assumption) (by intro k9 j9 hk9; omega)))) (q_Gr.rb (S := fun k j => k = 139 ∧ j = 7) hR (by repeat (first | exact q_Gr.rf | refine q_Gr.ud ?_ (by omega) (by first | assumption | rfl) rfl (by first | exact ⟨fun h9 => absurd h9 (by decide), fun h9 => absurd h9 (by decide)⟩ | (constructor <;> (intro h9; omega))) | refine q_Gr.udz ?_ (by omega) (by first | assumption | decide | omega) (by first | exact ⟨fun h9 => absurd h9 (by decide), fun h9 => absurd h9 (by decide)⟩ | (constructor <;> (intro h9; omega))) | refine q_Gr.tr ?_ (by assumption) (by intro k9 j9 hk9; omega)))) (by first | assumption | omega)) ?_
      intro t5 w5 g5 p5
      obtain ⟨rfl, ⟨z5, rfl⟩, rfl⟩ := p5
      refine Or.inr (Or.inl ⟨rfl, ?_⟩)
      exact r_iret c254_26 ⟨rfl, rfl, rfl⟩ ⟨rfl, ⟨_, rfl⟩, (by repeat (first | exact q_Gr.rf | refine q_Gr.ud ?_ (by omega) (by first | assumption | rfl) rfl (by first | exact ⟨fun h9 => absurd h9 (by decide), fun h9 => absurd h9 (by decide)⟩ | (constructor <;> (intro h9; omega))) | refine q_Gr.udz ?_ (by omega) (by first | assumption | decide | omega) (by first | exact ⟨fun h9 => absurd h9 (by decide), fun h9 => absurd h9 (by decide)⟩ | (constructor <;> (intro h9; omega))) | refine q_Gr.tr ?_ (by assumption) (by intro k9 j9 hk9; omega)))⟩
    · intro b4
      refine r_iconst c254_17 rfl ?_
      refine r_goto c254_18 ?_
      exact r_iret c254_26 ⟨rfl, rfl, rfl⟩ ⟨rfl, ⟨_, rfl⟩, (by repeat (first | exact q_Gr.rf | refine q_Gr.ud ?_ (by omega) (by first | assumption | rfl) rfl (by first | exact ⟨fun h9 => absurd h9 (by decide), fun h9 => absurd h9 (by decide)⟩ | (constructor <;> (intro h9; omega))) | refine q_Gr.udz ?_ (by omega) (by first | assumption | decide | omega) (by first | exact ⟨fun h9 => absurd h9 (by decide), fun h9 => absurd h9 (by decide)⟩ | (constructor <;> (intro h9; omega))) | refine q_Gr.tr ?_ (by assumption) (by intro k9 j9 hk9; omega)))⟩
theorem c319_0 : q_cat 319 0 (.aload_n 0) 1 0 0 (0) := ⟨rfl, rfl⟩
theorem c319_1 : q_cat 319 1 (.iload_n 1) 1 1 0 (0) := ⟨rfl, rfl⟩
theorem c319_2 : q_cat 319 2 (.invokevirtual 280) 3 298 0 (0) := ⟨rfl, rfl⟩
theorem c319_5 : q_cat 319 5 (.ifCond .ne 15) 3 20 0 (0) := ⟨rfl, rfl⟩
theorem c319_8 : q_cat 319 8 (.aload_n 0) 1 0 0 (0) := ⟨rfl, rfl⟩
theorem c319_9 : q_cat 319 9 (.iload_n 1) 1 1 0 (0) := ⟨rfl, rfl⟩
theorem c319_10 : q_cat 319 10 (.invokevirtual 86) 3 318 0 (0) := ⟨rfl, rfl⟩
theorem c319_13 : q_cat 319 13 (.ifCond .eq 7) 3 20 0 (0) := ⟨rfl, rfl⟩
theorem c319_16 : q_cat 319 16 (.iconst 1) 1 0 0 (0) := ⟨rfl, rfl⟩
theorem c319_17 : q_cat 319 17 (.goto 4) 3 21 0 (0) := ⟨rfl, rfl⟩
theorem c319_20 : q_cat 319 20 (.iconst 0) 1 0 0 (0) := ⟨rfl, rfl⟩
theorem c319_21 : q_cat 319 21 (.ireturn) 1 0 0 (0) := ⟨rfl, rfl⟩
theorem k319 {Γ : q_Γ} (hG : q_GG Γ) {h : q_F} (hZ : q_Bz h) (hR : q_Rb h) {v1 : Int}  :
    q_M Γ q_K 155 319 [(2, Int.ofNat 139), (0, v1)] h (fun t w h' => (t = 1 ∧ (∃ z, w = ((0, z) : q_V) ∧ (z = 0 ∨ z = 1)) ∧ q_Gr (fun k j => k = 139 ∧ j = 7) h h')) := by
  refine q_M.of (by decide) (Nat.le_of_ble_eq_true rfl) hG ?_
  refine r_aload_n c319_0 rfl rfl ?_
  refine r_iload_n c319_1 rfl rfl ?_
  refine r_vcG c319_2 (by first | assumption | omega) (by decide) (by first | assumption | rfl) rfl rfl rfl (k298 hG (q_Gr.bz (S := fun k j => k = 139 ∧ j = 7) hZ (by repeat (first | exact q_Gr.rf | refine q_Gr.ud ?_ (by omega) (by first | assumption | rfl) rfl (by first | exact ⟨fun h9 => absurd h9 (by decide), fun h9 => absurd h9 (by decide)⟩ | (constructor <;> (intro h9; omega))) | refine q_Gr.udz ?_ (by omega) (by first | assumption | decide | omega) (by first | exact ⟨fun h9 => absurd h9 (by decide), fun h9 => absurd h9 (by decide)⟩ | (constructor <;> (intro h9; omega))) | refine q_Gr.tr ?_ (by assumption) (by intro k9 j9 hk9; omega)))) (q_Gr.rb (S := fun k j => k = 139 ∧ j = 7) hR (by repeat (first | exact q_Gr.rf | refine q_Gr.ud ?_ (by omega) (by first | assumption | rfl) rfl (by first | exact ⟨fun h9 => absurd h9 (by decide), fun h9 => absurd h9 (by decide)⟩ | (constructor <;> (intro h9; omega))) | refine q_Gr.udz ?_ (by omega) (by first | assumption | decide | omega) (by first | exact ⟨fun h9 => absurd h9 (by decide), fun h9 => absurd h9 (by decide)⟩ | (constructor <;> (intro h9; omega))) | refine q_Gr.tr ?_ (by assumption) (by intro k9 j9 hk9; omega))))) ?_
  intro t1 w1 g1 p1
  obtain ⟨rfl, ⟨z1, rfl, hz1, hs1⟩, e1⟩ := p1
  refine Or.inr (Or.inl ⟨rfl, ?_⟩)
  refine r_if_ne c319_5 rfl (by first | exact q_w32_id (by omega) (by omega) | exact q_w32w _ | exact rfl) ?_ ?_
  · intro b2
    refine r_iconst c319_20 rfl ?_
    exact r_zret c319_21 ⟨rfl, rfl, rfl⟩ (by decide) ⟨rfl, ⟨_, rfl, (by decide)⟩, (by repeat (first | exact q_Gr.rf | refine q_Gr.ud ?_ (by omega) (by first | assumption | rfl) rfl (by first | exact ⟨fun h9 => absurd h9 (by decide), fun h9 => absurd h9 (by decide)⟩ | (constructor <;> (intro h9; omega))) | refine q_Gr.udz ?_ (by omega) (by first | assumption | decide | omega) (by first | exact ⟨fun h9 => absurd h9 (by decide), fun h9 => absurd h9 (by decide)⟩ | (constructor <;> (intro h9; omega))) | refine q_Gr.tr ?_ (by assumption) (by intro k9 j9 hk9; omega)))⟩
  · intro b2
    refine r_aload_n c319_8 rfl rfl ?_
    refine r_iload_n c319_9 rfl rfl ?_
    refine r_vcG c319_10 (by first | assumption | omega) (by decide) (by first | assumption | rfl) rfl rfl rfl (k318 hG (q_Gr.bz (S := fun k j => k = 139 ∧ j = 7) hZ (by repeat (first | exact q_Gr.rf | refine q_Gr.ud ?_ (by omega) (by first | assumption | rfl) rfl (by first | exact ⟨fun h9 => absurd h9 (by decide), fun h9 => absurd h9 (by decide)⟩ | (constructor <;> (intro h9; omega))) | refine q_Gr.udz ?_ (by omega) (by first | assumption | decide | omega) (by first | exact ⟨fun h9 => absurd h9 (by decide), fun h9 => absurd h9 (by decide)⟩ | (constructor <;> (intro h9; omega))) | refine q_Gr.tr ?_ (by assumption) (by intro k9 j9 hk9; omega)))) (q_Gr.rb (S := fun k j => k = 139 ∧ j = 7) hR (by repeat (first | exact q_Gr.rf | refine q_Gr.ud ?_ (by omega) (by first | assumption | rfl) rfl (by first | exact ⟨fun h9 => absurd h9 (by decide), fun h9 => absurd h9 (by decide)⟩ | (constructor <;> (intro h9; omega))) | refine q_Gr.udz ?_ (by omega) (by first | assumption | decide | omega) (by first | exact ⟨fun h9 => absurd h9 (by decide), fun h9 => absurd h9 (by decide)⟩ | (constructor <;> (intro h9; omega))) | refine q_Gr.tr ?_ (by assumption) (by intro k9 j9 hk9; omega)))) (by first | assumption | omega)) ?_
    intro t3 w3 g3 p3
    obtain ⟨rfl, ⟨z3, rfl, hz3⟩, rfl⟩ := p3
    refine Or.inr (Or.inl ⟨rfl, ?_⟩)
    refine r_if_eq c319_13 rfl (by first | exact q_w32_id (by omega) (by omega) | exact q_w32w _ | exact rfl) ?_ ?_
    · intro b4
      refine r_iconst c319_20 rfl ?_
      exact r_zret c319_21 ⟨rfl, rfl, rfl⟩ (by decide) ⟨rfl, ⟨_, rfl, (by decide)⟩, (by repeat (first | exact q_Gr.rf | refine q_Gr.ud ?_ (by omega) (by first | assumption | rfl) rfl (by first | exact ⟨fun h9 => absurd h9 (by decide), fun h9 => absurd h9 (by decide)⟩ | (constructor <;> (intro h9; omega))) | refine q_Gr.udz ?_ (by omega) (by first | assumption | decide | omega) (by first | exact ⟨fun h9 => absurd h9 (by decide), fun h9 => absurd h9 (by decide)⟩ | (constructor <;> (intro h9; omega))) | refine q_Gr.tr ?_ (by assumption) (by intro k9 j9 hk9; omega)))⟩
    · intro b4
      refine r_iconst c319_16 rfl ?_
      refine r_goto c319_17 ?_
      exact r_zret c319_21 ⟨rfl, rfl, rfl⟩ (by decide) ⟨rfl, ⟨_, rfl, (by decide)⟩, (by repeat (first | exact q_Gr.rf | refine q_Gr.ud ?_ (by omega) (by first | assumption | rfl) rfl (by first | exact ⟨fun h9 => absurd h9 (by decide), fun h9 => absurd h9 (by decide)⟩ | (constructor <;> (intro h9; omega))) | refine q_Gr.udz ?_ (by omega) (by first | assumption | decide | omega) (by first | exact ⟨fun h9 => absurd h9 (by decide), fun h9 => absurd h9 (by decide)⟩ | (constructor <;> (intro h9; omega))) | refine q_Gr.tr ?_ (by assumption) (by intro k9 j9 hk9; omega)))⟩
theorem c352_0 : q_cat 352 0 (.aload_n 0) 1 0 0 (0) := ⟨rfl, rfl⟩
theorem c352_1 : q_cat 352 1 (.iconst 0) 1 0 0 (0) := ⟨rfl, rfl⟩
theorem c352_2 : q_cat 352 2 (.putfield 60) 3 9 7 (0) := ⟨rfl, rfl⟩
theorem c352_5 : q_cat 352 5 (.aload_n 0) 1 0 0 (0) := ⟨rfl, rfl⟩
theorem c352_6 : q_cat 352 6 (.getfield 7) 3 9 0 (3) := ⟨rfl, rfl⟩
theorem c352_9 : q_cat 352 9 (.iconst 5) 1 0 0 (0) := ⟨rfl, rfl⟩
theorem c352_10 : q_cat 352 10 (.laload) 1 0 0 (0) := ⟨rfl, rfl⟩
theorem c352_11 : q_cat 352 11 (.lreturn) 1 0 0 (0) := ⟨rfl, rfl⟩
theorem k352 {Γ : q_Γ} (hG : q_GG Γ) {h : q_F} (hZ : q_Bz h) (hR : q_Rb h)   :
    q_M Γ q_K 155 352 [(2, Int.ofNat 139)] h (fun t w h' => (t = 1 ∧ (∃ z, w = ((1, z) : q_V)) ∧ q_Gr (fun k j => k = 139 ∧ j = 7) h h')) := by
  refine q_M.of (by decide) (Nat.le_of_ble_eq_true rfl) hG ?_
  refine r_aload_n c352_0 rfl rfl ?_
  refine r_iconst c352_1 rfl ?_
  refine r_puti c352_2 (by first | assumption | omega) (by decide) (by first | assumption | rfl) rfl rfl rfl ?_
  refine r_aload_n c352_5 rfl rfl ?_
  refine r_getr c352_6 (by first | assumption | omega) (by decide) (by first | assumption | rfl) rfl rfl ?_
  refine r_iconst c352_9 rfl ?_
  refine r_laldw (q_Gr.rb (S := fun k j => k = 139 ∧ j = 7) hR (by repeat (first | exact q_Gr.rf | refine q_Gr.ud ?_ (by omega) (by first | assumption | rfl) rfl (by first | exact ⟨fun h9 => absurd h9 (by decide), fun h9 => absurd h9 (by decide)⟩ | (constructor <;> (intro h9; omega))) | refine q_Gr.udz ?_ (by omega) (by first | assumption | decide | omega) (by first | exact ⟨fun h9 => absurd h9 (by decide), fun h9 => absurd h9 (by decide)⟩ | (constructor <;> (intro h9; omega))) | refine q_Gr.tr ?_ (by assumption) (by intro k9 j9 hk9; omega)))) c352_10 (show q_w32 (5) = 5 from rfl) (by first | assumption | omega) (by first | assumption | omega) rfl ?_
  intro y1
  exact r_lret c352_11 ⟨rfl, rfl, rfl⟩ ⟨rfl, ⟨_, rfl⟩, (by repeat (first | exact q_Gr.rf | refine q_Gr.ud ?_ (by omega) (by first | assumption | rfl) rfl (by first | exact ⟨fun h9 => absurd h9 (by decide), fun h9 => absurd h9 (by decide)⟩ | (constructor <;> (intro h9; omega))) | refine q_Gr.udz ?_ (by omega) (by first | assumption | decide | omega) (by first | exact ⟨fun h9 => absurd h9 (by decide), fun h9 => absurd h9 (by decide)⟩ | (constructor <;> (intro h9; omega))) | refine q_Gr.tr ?_ (by assumption) (by intro k9 j9 hk9; omega)))⟩
theorem c284_0 : q_cat 284 0 (.aload_n 0) 1 0 0 (0) := ⟨rfl, rfl⟩
theorem c284_1 : q_cat 284 1 (.bipush 35) 2 0 0 (0) := ⟨rfl, rfl⟩
theorem c284_3 : q_cat 284 3 (.invokevirtual 82) 3 303 0 (0) := ⟨rfl, rfl⟩
theorem c284_6 : q_cat 284 6 (.aload_n 0) 1 0 0 (0) := ⟨rfl, rfl⟩
theorem c284_7 : q_cat 284 7 (.bipush 36) 2 0 0 (0) := ⟨rfl, rfl⟩
theorem c284_9 : q_cat 284 9 (.invokevirtual 82) 3 303 0 (0) := ⟨rfl, rfl⟩
theorem c284_12 : q_cat 284 12 (.iadd) 1 0 0 (0) := ⟨rfl, rfl⟩
theorem c284_13 : q_cat 284 13 (.aload_n 0) 1 0 0 (0) := ⟨rfl, rfl⟩
theorem c284_14 : q_cat 284 14 (.bipush 37) 2 0 0 (0) := ⟨rfl, rfl⟩
theorem c284_16 : q_cat 284 16 (.invokevirtual 82) 3 303 0 (0) := ⟨rfl, rfl⟩
theorem c284_19 : q_cat 284 19 (.iadd) 1 0 0 (0) := ⟨rfl, rfl⟩
theorem c284_20 : q_cat 284 20 (.ireturn) 1 0 0 (0) := ⟨rfl, rfl⟩
theorem k284 {Γ : q_Γ} (hG : q_GG Γ) {h : q_F} (hZ : q_Bz h) (hR : q_Rb h)   :
    q_M Γ q_K 155 284 [(2, Int.ofNat 139)] h (fun t w h' => (t = 1 ∧ (∃ z, w = ((0, z) : q_V)) ∧ h' = h)) := by
  refine q_M.of (by decide) (Nat.le_of_ble_eq_true rfl) hG ?_
  refine r_aload_n c284_0 rfl rfl ?_
  refine r_bipush c284_1 rfl ?_
  refine r_vcG c284_3 (by first | assumption | omega) (by decide) (by first | assumption | rfl) rfl rfl rfl (k303 hG hZ hR (by first | assumption | omega)) ?_
  intro t1 w1 g1 p1
  obtain ⟨rfl, ⟨z1, rfl, hs1⟩, rfl⟩ := p1
  refine Or.inr (Or.inl ⟨rfl, ?_⟩)
  refine r_aload_n c284_6 rfl rfl ?_
  refine r_bipush c284_7 rfl ?_
  refine r_vcG c284_9 (by first | assumption | omega) (by decide) (by first | assumption | rfl) rfl rfl rfl (k303 hG hZ hR (by first | assumption | omega)) ?_
  intro t2 w2 g2 p2
  obtain ⟨rfl, ⟨z2, rfl, hs2⟩, rfl⟩ := p2
  refine Or.inr (Or.inl ⟨rfl, ?_⟩)
  refine r_iadd c284_12 (by first | exact q_w32_id (by omega) (by omega) | exact q_w32w _ | exact rfl) rfl ?_
  refine r_aload_n c284_13 rfl rfl ?_
  refine r_bipush c284_14 rfl ?_
  refine r_vcG c284_16 (by first | assumption | omega) (by decide) (by first | assumption | rfl) rfl rfl rfl (k303 hG hZ hR (by first | assumption | omega)) ?_
  intro t3 w3 g3 p3
  obtain ⟨rfl, ⟨z3, rfl, hs3⟩, rfl⟩ := p3
  refine Or.inr (Or.inl ⟨rfl, ?_⟩)
  refine r_iadd c284_19 (by first | exact q_w32_id (by omega) (by omega) | exact q_w32w _ | exact rfl) rfl ?_
  exact r_iret c284_20 ⟨rfl, rfl, rfl⟩ ⟨rfl, ⟨_, rfl⟩, rfl⟩
theorem c334_0 : q_cat 334 0 (.aload_n 0) 1 0 0 (0) := ⟨rfl, rfl⟩
theorem c334_1 : q_cat 334 1 (.iload_n 1) 1 1 0 (0) := ⟨rfl, rfl⟩
theorem c334_2 : q_cat 334 2 (.invokevirtual 280) 3 298 0 (0) := ⟨rfl, rfl⟩
theorem c334_5 : q_cat 334 5 (.ifCond .eq 5) 3 10 0 (0) := ⟨rfl, rfl⟩
theorem c334_8 : q_cat 334 8 (.iconst 0) 1 0 0 (0) := ⟨rfl, rfl⟩
theorem c334_9 : q_cat 334 9 (.ireturn) 1 0 0 (0) := ⟨rfl, rfl⟩
theorem c334_10 : q_cat 334 10 (.aload_n 0) 1 0 0 (0) := ⟨rfl, rfl⟩
theorem c334_11 : q_cat 334 11 (.getfield 7) 3 9 0 (3) := ⟨rfl, rfl⟩
theorem c334_14 : q_cat 334 14 (.bipush 26) 2 0 0 (0) := ⟨rfl, rfl⟩
theorem c334_16 : q_cat 334 16 (.iload_n 1) 1 1 0 (0) := ⟨rfl, rfl⟩
theorem c334_17 : q_cat 334 17 (.iadd) 1 0 0 (0) := ⟨rfl, rfl⟩
theorem c334_18 : q_cat 334 18 (.laload) 1 0 0 (0) := ⟨rfl, rfl⟩
theorem c334_19 : q_cat 334 19 (.iload_n 2) 1 2 0 (0) := ⟨rfl, rfl⟩
theorem c334_20 : q_cat 334 20 (.ifCond .eq 15) 3 35 0 (0) := ⟨rfl, rfl⟩
theorem c334_23 : q_cat 334 23 (.aload_n 0) 1 0 0 (0) := ⟨rfl, rfl⟩
theorem c334_24 : q_cat 334 24 (.getfield 7) 3 9 0 (3) := ⟨rfl, rfl⟩
theorem c334_27 : q_cat 334 27 (.bipush 8) 2 0 0 (0) := ⟨rfl, rfl⟩
theorem c334_29 : q_cat 334 29 (.iload_n 1) 1 1 0 (0) := ⟨rfl, rfl⟩
theorem c334_30 : q_cat 334 30 (.iadd) 1 0 0 (0) := ⟨rfl, rfl⟩
theorem c334_31 : q_cat 334 31 (.laload) 1 0 0 (0) := ⟨rfl, rfl⟩
theorem c334_32 : q_cat 334 32 (.goto 4) 3 36 0 (0) := ⟨rfl, rfl⟩
theorem c334_35 : q_cat 334 35 (.lconst 0) 1 0 0 (0) := ⟨rfl, rfl⟩
theorem c334_36 : q_cat 334 36 (.lcmp) 1 0 0 (0) := ⟨rfl, rfl⟩
theorem c334_37 : q_cat 334 37 (.ifCond .ne 5) 3 42 0 (0) := ⟨rfl, rfl⟩
theorem c334_40 : q_cat 334 40 (.iconst (-1)) 1 0 0 (0) := ⟨rfl, rfl⟩
theorem c334_41 : q_cat 334 41 (.ireturn) 1 0 0 (0) := ⟨rfl, rfl⟩
theorem c334_42 : q_cat 334 42 (.iload_n 2) 1 2 0 (0) := ⟨rfl, rfl⟩
theorem c334_43 : q_cat 334 43 (.ifCond .eq 25) 3 68 0 (0) := ⟨rfl, rfl⟩
theorem c334_46 : q_cat 334 46 (.aload_n 0) 1 0 0 (0) := ⟨rfl, rfl⟩
theorem c334_47 : q_cat 334 47 (.bipush 11) 2 0 0 (0) := ⟨rfl, rfl⟩
theorem c334_49 : q_cat 334 49 (.iload_n 1) 1 1 0 (0) := ⟨rfl, rfl⟩
theorem c334_50 : q_cat 334 50 (.iadd) 1 0 0 (0) := ⟨rfl, rfl⟩
theorem c334_51 : q_cat 334 51 (.invokevirtual 82) 3 303 0 (0) := ⟨rfl, rfl⟩
theorem c334_54 : q_cat 334 54 (.aload_n 0) 1 0 0 (0) := ⟨rfl, rfl⟩
theorem c334_55 : q_cat 334 55 (.bipush 29) 2 0 0 (0) := ⟨rfl, rfl⟩
theorem c334_57 : q_cat 334 57 (.iload_n 1) 1 1 0 (0) := ⟨rfl, rfl⟩
theorem c334_58 : q_cat 334 58 (.iadd) 1 0 0 (0) := ⟨rfl, rfl⟩
theorem c334_59 : q_cat 334 59 (.invokevirtual 82) 3 303 0 (0) := ⟨rfl, rfl⟩
theorem c334_62 : q_cat 334 62 (.isub) 1 0 0 (0) := ⟨rfl, rfl⟩
theorem c334_63 : q_cat 334 63 (.iconst 1) 1 0 0 (0) := ⟨rfl, rfl⟩
theorem c334_64 : q_cat 334 64 (.iadd) 1 0 0 (0) := ⟨rfl, rfl⟩
theorem c334_65 : q_cat 334 65 (.goto 13) 3 78 0 (0) := ⟨rfl, rfl⟩
theorem c334_68 : q_cat 334 68 (.aload_n 0) 1 0 0 (0) := ⟨rfl, rfl⟩
theorem c334_69 : q_cat 334 69 (.bipush 29) 2 0 0 (0) := ⟨rfl, rfl⟩
theorem c334_71 : q_cat 334 71 (.iload_n 1) 1 1 0 (0) := ⟨rfl, rfl⟩
theorem c334_72 : q_cat 334 72 (.iadd) 1 0 0 (0) := ⟨rfl, rfl⟩
theorem c334_73 : q_cat 334 73 (.invokevirtual 82) 3 303 0 (0) := ⟨rfl, rfl⟩
theorem c334_76 : q_cat 334 76 (.iconst 1) 1 0 0 (0) := ⟨rfl, rfl⟩
theorem c334_77 : q_cat 334 77 (.iadd) 1 0 0 (0) := ⟨rfl, rfl⟩
theorem c334_78 : q_cat 334 78 (.ireturn) 1 0 0 (0) := ⟨rfl, rfl⟩
theorem k334 {Γ : q_Γ} (hG : q_GG Γ) {h : q_F} (hZ : q_Bz h) (hR : q_Rb h) {v1 : Int} {v2 : Int} (hz2 : v2 = 0 ∨ v2 = 1) :
    q_M Γ q_K 155 334 [(2, Int.ofNat 139), (0, v1), (0, v2)] h (fun t w h' => (t = 1 ∧ (∃ z, w = ((0, z) : q_V)) ∧ q_Gr (fun k j => k = 139 ∧ j = 7) h h')) := by
  refine q_M.of (by decide) (Nat.le_of_ble_eq_true rfl) hG ?_
  refine r_aload_n c334_0 rfl rfl ?_
  refine r_iload_n c334_1 rfl rfl ?_
  refine r_vcG c334_2 (by first | assumption | omega) (by decide) (by first | assumption | rfl) rfl rfl rfl (k298 hG (q_Gr.bz (S := fun k j => k = 139 ∧ j = 7) hZ (by repeat (first | exact q_Gr.rf | refine q_Gr.ud ?_ (by omega) (by first | assumption | rfl) rfl (by first | exact ⟨fun h9 => absurd h9 (by decide), fun h9 => absurd h9 (by decide)⟩ | (constructor <;> (intro h9; omega))) | refine q_Gr.udz ?_ (by omega) (by first | assumption | decide | omega) (by first | exact ⟨fun h9 => absurd h9 (by decide), fun h9 => absurd h9 (by decide)⟩ | (constructor <;> (intro h9; omega))) | refine q_Gr.tr ?_ (by assumption) (by intro k9 j9 hk9; omega)))) (q_Gr.rb (S := fun k j => k = 139 ∧ j = 7) hR (by repeat (first | exact q_Gr.rf | refine q_Gr.ud ?_ (by omega) (by first | assumption | rfl) rfl (by first | exact ⟨fun h9 => absurd h9 (by decide), fun h9 => absurd h9 (by decide)⟩ | (constructor <;> (intro h9; omega))) | refine q_Gr.udz ?_ (by omega) (by first | assumption | decide | omega) (by first | exact ⟨fun h9 => absurd h9 (by decide), fun h9 => absurd h9 (by decide)⟩ | (constructor <;> (intro h9; omega))) | refine q_Gr.tr ?_ (by assumption) (by intro k9 j9 hk9; omega))))) ?_
  intro t1 w1 g1 p1
  obtain ⟨rfl, ⟨z1, rfl, hz1, hs1⟩, e1⟩ := p1
  refine Or.inr (Or.inl ⟨rfl, ?_⟩)
  refine r_if_eq c334_5 rfl (by first | exact q_w32_id (by omega) (by omega) | exact q_w32w _ | exact rfl) ?_ ?_
  · intro b2
    refine r_aload_n c334_10 rfl rfl ?_
    refine r_getr c334_11 (by first | assumption | omega) (by decide) (by first | assumption | rfl) rfl rfl ?_
    refine r_bipush c334_14 rfl ?_
    refine r_iload_n c334_16 rfl rfl ?_
    refine r_iadd c334_17 (by first | exact q_w32_id (by omega) (by omega) | exact q_w32w _ | exact rfl) rfl ?_
    refine r_laldw (q_Gr.rb (S := fun k j => k = 139 ∧ j = 7) hR (by repeat (first | exact q_Gr.rf | refine q_Gr.ud ?_ (by omega) (by first | assumption | rfl) rfl (by first | exact ⟨fun h9 => absurd h9 (by decide), fun h9 => absurd h9 (by decide)⟩ | (constructor <;> (intro h9; omega))) | refine q_Gr.udz ?_ (by omega) (by first | assumption | decide | omega) (by first | exact ⟨fun h9 => absurd h9 (by decide), fun h9 => absurd h9 (by decide)⟩ | (constructor <;> (intro h9; omega))) | refine q_Gr.tr ?_ (by assumption) (by intro k9 j9 hk9; omega)))) c334_18 (by first | exact q_w32_id (by omega) (by omega) | exact q_w32w _ | exact rfl) (by first | assumption | omega) (by first | assumption | omega) rfl ?_
    intro y3
    refine r_iload_n c334_19 rfl rfl ?_
    refine r_if_eq c334_20 rfl (by first | exact q_w32_id (by omega) (by omega) | exact q_w32w _ | exact rfl) ?_ ?_
    · intro b4
      refine r_lconst c334_35 rfl ?_
      refine r_lcmpn c334_36 rfl (by first | exact q_w64_id (by omega) (by omega) | exact rfl) (show q_w64 (0) = 0 from rfl) ?_ ?_ ?_
      · intro b5
        refine r_if_ne c334_37 rfl (show q_w32 (-1) = -1 from rfl) ?_ ?_
        · intro b6
          refine r_iload_n c334_42 rfl rfl ?_
          refine r_if_eq c334_43 rfl (by first | exact q_w32_id (by omega) (by omega) | exact q_w32w _ | exact rfl) ?_ ?_
          · intro b7
            refine r_aload_n c334_68 rfl rfl ?_
            refine r_bipush c334_69 rfl ?_
            refine r_iload_n c334_71 rfl rfl ?_
            refine r_iadd c334_72 (by first | exact q_w32_id (by omega) (by omega) | exact q_w32w _ | exact rfl) rfl ?_
            refine r_vcG c334_73 (by first | assumption | omega) (by decide) (by first | assumption | rfl) rfl rfl rfl (k303 hG (q_Gr.bz (S := fun k j => k = 139 ∧ j = 7) hZ (by repeat (first | exact q_Gr.rf | refine q_Gr.ud ?_ (by omega) (by first | assumption | rfl) rfl (by first | exact ⟨fun h9 => absurd h9 (by decide), fun h9 => absurd h9 (by decide)⟩ | (constructor <;> (intro h9; omega))) | refine q_Gr.udz ?_ (by omega) (by first | assumption | decide | omega) (by first | exact ⟨fun h9 => absurd h9 (by decide), fun h9 => absurd h9 (by decide)⟩ | (constructor <;> (intro h9; omega))) | refine q_Gr.tr ?_ (by assumption) (by intro k9 j9 hk9; omega)))) (q_Gr.rb (S := fun k j => k = 139 ∧ j = 7) hR (by repeat (first | exact q_Gr.rf | refine q_Gr.ud ?_ (by omega) (by first | assumption | rfl) rfl (by first | exact ⟨fun h9 => absurd h9 (by decide), fun h9 => absurd h9 (by decide)⟩ | (constructor <;> (intro h9; omega))) | refine q_Gr.udz ?_ (by omega) (by first | assumption | decide | omega) (by first | exact ⟨fun h9 => absurd h9 (by decide), fun h9 => absurd h9 (by decide)⟩ | (constructor <;> (intro h9; omega))) | refine q_Gr.tr ?_ (by assumption) (by intro k9 j9 hk9; omega)))) (by first | assumption | omega)) ?_
            intro t8 w8 g8 p8
            obtain ⟨rfl, ⟨z8, rfl, hs8⟩, rfl⟩ := p8
            refine Or.inr (Or.inl ⟨rfl, ?_⟩)
            refine r_iconst c334_76 rfl ?_
            refine r_iadd c334_77 (by first | exact q_w32_id (by omega) (by omega) | exact q_w32w _ | exact rfl) rfl ?_
            exact r_iret c334_78 ⟨rfl, rfl, rfl⟩ ⟨rfl, ⟨_, rfl⟩, (by repeat (first | exact q_Gr.rf | refine q_Gr.ud ?_ (by omega) (by first | assumption | rfl) rfl (by first | exact ⟨fun h9 => absurd h9 (by decide), fun h9 => absurd h9 (by decide)⟩ | (constructor <;> (intro h9; omega))) | refine q_Gr.udz ?_ (by omega) (by first | assumption | decide | omega) (by first | exact ⟨fun h9 => absurd h9 (by decide), fun h9 => absurd h9 (by decide)⟩ | (constructor <;> (intro h9; omega))) | refine q_Gr.tr ?_ (by assumption) (by intro k9 j9 hk9; omega)))⟩
          · intro b7
            refine r_aload_n c334_46 rfl rfl ?_
            refine r_bipush c334_47 rfl ?_
            refine r_iload_n c334_49 rfl rfl ?_
            refine r_iadd c334_50 (by first | exact q_w32_id (by omega) (by omega) | exact q_w32w _ | exact rfl) rfl ?_
            refine r_vcG c334_51 (by first | assumption | omega) (by decide) (by first | assumption | rfl) rfl rfl rfl (k303 hG (q_Gr.bz (S := fun k j => k = 139 ∧ j = 7) hZ (by repeat (first | exact q_Gr.rf | refine q_Gr.ud ?_ (by omega) (by first | assumption | rfl) rfl (by first | exact ⟨fun h9 => absurd h9 (by decide), fun h9 => absurd h9 (by decide)⟩ | (constructor <;> (intro h9; omega))) | refine q_Gr.udz ?_ (by omega) (by first | assumption | decide | omega) (by first | exact ⟨fun h9 => absurd h9 (by decide), fun h9 => absurd h9 (by decide)⟩ | (constructor <;> (intro h9; omega))) | refine q_Gr.tr ?_ (by assumption) (by intro k9 j9 hk9; omega)))) (q_Gr.rb (S := fun k j => k = 139 ∧ j = 7) hR (by repeat (first | exact q_Gr.rf | refine q_Gr.ud ?_ (by omega) (by first | assumption | rfl) rfl (by first | exact ⟨fun h9 => absurd h9 (by decide), fun h9 => absurd h9 (by decide)⟩ | (constructor <;> (intro h9; omega))) | refine q_Gr.udz ?_ (by omega) (by first | assumption | decide | omega) (by first | exact ⟨fun h9 => absurd h9 (by decide), fun h9 => absurd h9 (by decide)⟩ | (constructor <;> (intro h9; omega))) | refine q_Gr.tr ?_ (by assumption) (by intro k9 j9 hk9; omega)))) (by first | assumption | omega)) ?_
            intro t9 w9 g9 p9
            obtain ⟨rfl, ⟨z9, rfl, hs9⟩, rfl⟩ := p9
            refine Or.inr (Or.inl ⟨rfl, ?_⟩)
            refine r_aload_n c334_54 rfl rfl ?_
            refine r_bipush c334_55 rfl ?_
            refine r_iload_n c334_57 rfl rfl ?_
            refine r_iadd c334_58 (by first | exact q_w32_id (by omega) (by omega) | exact q_w32w _ | exact rfl) rfl ?_
            refine r_vcG c334_59 (by first | assumption | omega) (by decide) (by first | assumption | rfl) rfl rfl rfl (k303 hG (q_Gr.bz (S := fun k j => k = 139 ∧ j = 7) hZ (by repeat (first | exact q_Gr.rf | refine q_Gr.ud ?_ (by omega) (by first | assumption | rfl) rfl (by first | exact ⟨fun h9 => absurd h9 (by decide), fun h9 => absurd h9 (by decide)⟩ | (constructor <;> (intro h9; omega))) | refine q_Gr.udz ?_ (by omega) (by first | assumption | decide | omega) (by first | exact ⟨fun h9 => absurd h9 (by decide), fun h9 => absurd h9 (by decide)⟩ | (constructor <;> (intro h9; omega))) | refine q_Gr.tr ?_ (by assumption) (by intro k9 j9 hk9; omega)))) (q_Gr.rb (S := fun k j => k = 139 ∧ j = 7) hR (by repeat (first | exact q_Gr.rf | refine q_Gr.ud ?_ (by omega) (by first | assumption | rfl) rfl (by first | exact ⟨fun h9 => absurd h9 (by decide), fun h9 => absurd h9 (by decide)⟩ | (constructor <;> (intro h9; omega))) | refine q_Gr.udz ?_ (by omega) (by first | assumption | decide | omega) (by first | exact ⟨fun h9 => absurd h9 (by decide), fun h9 => absurd h9 (by decide)⟩ | (constructor <;> (intro h9; omega))) | refine q_Gr.tr ?_ (by assumption) (by intro k9 j9 hk9; omega)))) (by first | assumption | omega)) ?_
            intro t10 w10 g10 p10
            obtain ⟨rfl, ⟨z10, rfl, hs10⟩, rfl⟩ := p10
            refine Or.inr (Or.inl ⟨rfl, ?_⟩)
            refine r_isub c334_62 (by first | exact q_w32_id (by omega) (by omega) | exact q_w32w _ | exact rfl) rfl ?_
            refine r_iconst c334_63 rfl ?_
            refine r_iadd c334_64 (by first | exact q_w32_id (by omega) (by omega) | exact q_w32w _ | exact rfl) rfl ?_
            refine r_goto c334_65 ?_
            exact r_iret c334_78 ⟨rfl, rfl, rfl⟩ ⟨rfl, ⟨_, rfl⟩, (by repeat (first | exact q_Gr.rf | refine q_Gr.ud ?_ (by omega) (by first | assumption | rfl) rfl (by first | exact ⟨fun h9 => absurd h9 (by decide), fun h9 => absurd h9 (by decide)⟩ | (constructor <;> (intro h9; omega))) | refine q_Gr.udz ?_ (by omega) (by first | assumption | decide | omega) (by first | exact ⟨fun h9 => absurd h9 (by decide), fun h9 => absurd h9 (by decide)⟩ | (constructor <;> (intro h9; omega))) | refine q_Gr.tr ?_ (by assumption) (by intro k9 j9 hk9; omega)))⟩
        · intro b6
          exact absurd b6.1 (by decide)
      · intro b5
        refine r_if_ne c334_37 rfl (show q_w32 (0) = 0 from rfl) ?_ ?_
        · intro b11
          exact absurd b11.1 (by decide)
        · intro b11
          refine r_iconst c334_40 rfl ?_
          exact r_iret c334_41 ⟨rfl, rfl, rfl⟩ ⟨rfl, ⟨_, rfl⟩, (by repeat (first | exact q_Gr.rf | refine q_Gr.ud ?_ (by omega) (by first | assumption | rfl) rfl (by first | exact ⟨fun h9 => absurd h9 (by decide), fun h9 => absurd h9 (by decide)⟩ | (constructor <;> (intro h9; omega))) | refine q_Gr.udz ?_ (by omega) (by first | assumption | decide | omega) (by first | exact ⟨fun h9 => absurd h9 (by decide), fun h9 => absurd h9 (by decide)⟩ | (constructor <;> (intro h9; omega))) | refine q_Gr.tr ?_ (by assumption) (by intro k9 j9 hk9; omega)))⟩
      · intro b5
        refine r_if_ne c334_37 rfl (show q_w32 (1) = 1 from rfl) ?_ ?_
        · intro b12
          refine r_iload_n c334_42 rfl rfl ?_
          refine r_if_eq c334_43 rfl (by first | exact q_w32_id (by omega) (by omega) | exact q_w32w _ | exact rfl) ?_ ?_
          · intro b13
            refine r_aload_n c334_68 rfl rfl ?_
            refine r_bipush c334_69 rfl ?_
            refine r_iload_n c334_71 rfl rfl ?_
            refine r_iadd c334_72 (by first | exact q_w32_id (by omega) (by omega) | exact q_w32w _ | exact rfl) rfl ?_
            refine r_vcG c334_73 (by first | assumption | omega) (by decide) (by first | assumption | rfl) rfl rfl rfl (k303 hG (q_Gr.bz (S := fun k j => k = 139 ∧ j = 7) hZ (by repeat (first | exact q_Gr.rf | refine q_Gr.ud ?_ (by omega) (by first | assumption | rfl) rfl (by first | exact ⟨fun h9 => absurd h9 (by decide), fun h9 => absurd h9 (by decide)⟩ | (constructor <;> (intro h9; omega))) | refine q_Gr.udz ?_ (by omega) (by first | assumption | decide | omega) (by first | exact ⟨fun h9 => absurd h9 (by decide), fun h9 => absurd h9 (by decide)⟩ | (constructor <;> (intro h9; omega))) | refine q_Gr.tr ?_ (by assumption) (by intro k9 j9 hk9; omega)))) (q_Gr.rb (S := fun k j => k = 139 ∧ j = 7) hR (by repeat (first | exact q_Gr.rf | refine q_Gr.ud ?_ (by omega) (by first | assumption | rfl) rfl (by first | exact ⟨fun h9 => absurd h9 (by decide), fun h9 => absurd h9 (by decide)⟩ | (constructor <;> (intro h9; omega))) | refine q_Gr.udz ?_ (by omega) (by first | assumption | decide | omega) (by first | exact ⟨fun h9 => absurd h9 (by decide), fun h9 => absurd h9 (by decide)⟩ | (constructor <;> (intro h9; omega))) | refine q_Gr.tr ?_ (by assumption) (by intro k9 j9 hk9; omega)))) (by first | assumption | omega)) ?_
            intro t14 w14 g14 p14
            obtain ⟨rfl, ⟨z14, rfl, hs14⟩, rfl⟩ := p14
            refine Or.inr (Or.inl ⟨rfl, ?_⟩)
            refine r_iconst c334_76 rfl ?_
            refine r_iadd c334_77 (by first | exact q_w32_id (by omega) (by omega) | exact q_w32w _ | exact rfl) rfl ?_
            exact r_iret c334_78 ⟨rfl, rfl, rfl⟩ ⟨rfl, ⟨_, rfl⟩, (by repeat (first | exact q_Gr.rf | refine q_Gr.ud ?_ (by omega) (by first | assumption | rfl) rfl (by first | exact ⟨fun h9 => absurd h9 (by decide), fun h9 => absurd h9 (by decide)⟩ | (constructor <;> (intro h9; omega))) | refine q_Gr.udz ?_ (by omega) (by first | assumption | decide | omega) (by first | exact ⟨fun h9 => absurd h9 (by decide), fun h9 => absurd h9 (by decide)⟩ | (constructor <;> (intro h9; omega))) | refine q_Gr.tr ?_ (by assumption) (by intro k9 j9 hk9; omega)))⟩
          · intro b13
            refine r_aload_n c334_46 rfl rfl ?_
            refine r_bipush c334_47 rfl ?_
            refine r_iload_n c334_49 rfl rfl ?_
            refine r_iadd c334_50 (by first | exact q_w32_id (by omega) (by omega) | exact q_w32w _ | exact rfl) rfl ?_
            refine r_vcG c334_51 (by first | assumption | omega) (by decide) (by first | assumption | rfl) rfl rfl rfl (k303 hG (q_Gr.bz (S := fun k j => k = 139 ∧ j = 7) hZ (by repeat (first | exact q_Gr.rf | refine q_Gr.ud ?_ (by omega) (by first | assumption | rfl) rfl (by first | exact ⟨fun h9 => absurd h9 (by decide), fun h9 => absurd h9 (by decide)⟩ | (constructor <;> (intro h9; omega))) | refine q_Gr.udz ?_ (by omega) (by first | assumption | decide | omega) (by first | exact ⟨fun h9 => absurd h9 (by decide), fun h9 => absurd h9 (by decide)⟩ | (constructor <;> (intro h9; omega))) | refine q_Gr.tr ?_ (by assumption) (by intro k9 j9 hk9; omega)))) (q_Gr.rb (S := fun k j => k = 139 ∧ j = 7) hR (by repeat (first | exact q_Gr.rf | refine q_Gr.ud ?_ (by omega) (by first | assumption | rfl) rfl (by first | exact ⟨fun h9 => absurd h9 (by decide), fun h9 => absurd h9 (by decide)⟩ | (constructor <;> (intro h9; omega))) | refine q_Gr.udz ?_ (by omega) (by first | assumption | decide | omega) (by first | exact ⟨fun h9 => absurd h9 (by decide), fun h9 => absurd h9 (by decide)⟩ | (constructor <;> (intro h9; omega))) | refine q_Gr.tr ?_ (by assumption) (by intro k9 j9 hk9; omega)))) (by first | assumption | omega)) ?_
            intro t15 w15 g15 p15
            obtain ⟨rfl, ⟨z15, rfl, hs15⟩, rfl⟩ := p15
            refine Or.inr (Or.inl ⟨rfl, ?_⟩)
            refine r_aload_n c334_54 rfl rfl ?_
            refine r_bipush c334_55 rfl ?_
            refine r_iload_n c334_57 rfl rfl ?_
            refine r_iadd c334_58 (by first | exact q_w32_id (by omega) (by omega) | exact q_w32w _ | exact rfl) rfl ?_
            refine r_vcG c334_59 (by first | assumption | omega) (by decide) (by first | assumption | rfl) rfl rfl rfl (k303 hG (q_Gr.bz (S := fun k j => k = 139 ∧ j = 7) hZ (by repeat (first | exact q_Gr.rf | refine q_Gr.ud ?_ (by omega) (by first | assumption | rfl) rfl (by first | exact ⟨fun h9 => absurd h9 (by decide), fun h9 => absurd h9 (by decide)⟩ | (constructor <;> (intro h9; omega))) | refine q_Gr.udz ?_ (by omega) (by first | assumption | decide | omega) (by first | exact ⟨fun h9 => absurd h9 (by decide), fun h9 => absurd h9 (by decide)⟩ | (constructor <;> (intro h9; omega))) | refine q_Gr.tr ?_ (by assumption) (by intro k9 j9 hk9; omega)))) (q_Gr.rb (S := fun k j => k = 139 ∧ j = 7) hR (by repeat (first | exact q_Gr.rf | refine q_Gr.ud ?_ (by omega) (by first | assumption | rfl) rfl (by first | exact ⟨fun h9 => absurd h9 (by decide), fun h9 => absurd h9 (by decide)⟩ | (constructor <;> (intro h9; omega))) | refine q_Gr.udz ?_ (by omega) (by first | assumption | decide | omega) (by first | exact ⟨fun h9 => absurd h9 (by decide), fun h9 => absurd h9 (by decide)⟩ | (constructor <;> (intro h9; omega))) | refine q_Gr.tr ?_ (by assumption) (by intro k9 j9 hk9; omega)))) (by first | assumption | omega)) ?_
            intro t16 w16 g16 p16
            obtain ⟨rfl, ⟨z16, rfl, hs16⟩, rfl⟩ := p16
            refine Or.inr (Or.inl ⟨rfl, ?_⟩)
            refine r_isub c334_62 (by first | exact q_w32_id (by omega) (by omega) | exact q_w32w _ | exact rfl) rfl ?_
            refine r_iconst c334_63 rfl ?_
            refine r_iadd c334_64 (by first | exact q_w32_id (by omega) (by omega) | exact q_w32w _ | exact rfl) rfl ?_
            refine r_goto c334_65 ?_
            exact r_iret c334_78 ⟨rfl, rfl, rfl⟩ ⟨rfl, ⟨_, rfl⟩, (by repeat (first | exact q_Gr.rf | refine q_Gr.ud ?_ (by omega) (by first | assumption | rfl) rfl (by first | exact ⟨fun h9 => absurd h9 (by decide), fun h9 => absurd h9 (by decide)⟩ | (constructor <;> (intro h9; omega))) | refine q_Gr.udz ?_ (by omega) (by first | assumption | decide | omega) (by first | exact ⟨fun h9 => absurd h9 (by decide), fun h9 => absurd h9 (by decide)⟩ | (constructor <;> (intro h9; omega))) | refine q_Gr.tr ?_ (by assumption) (by intro k9 j9 hk9; omega)))⟩
        · intro b12
          exact absurd b12.1 (by decide)
    · intro b4
      refine r_aload_n c334_23 rfl rfl ?_
      refine r_getr c334_24 (by first | assumption | omega) (by decide) (by first | assumption | rfl) rfl rfl ?_
      refine r_bipush c334_27 rfl ?_
      refine r_iload_n c334_29 rfl rfl ?_
      refine r_iadd c334_30 (by first | exact q_w32_id (by omega) (by omega) | exact q_w32w _ | exact rfl) rfl ?_
      refine r_laldw (q_Gr.rb (S := fun k j => k = 139 ∧ j = 7) hR (by repeat (first | exact q_Gr.rf | refine q_Gr.ud ?_ (by omega) (by first | assumption | rfl) rfl (by first | exact ⟨fun h9 => absurd h9 (by decide), fun h9 => absurd h9 (by decide)⟩ | (constructor <;> (intro h9; omega))) | refine q_Gr.udz ?_ (by omega) (by first | assumption | decide | omega) (by first | exact ⟨fun h9 => absurd h9 (by decide), fun h9 => absurd h9 (by decide)⟩ | (constructor <;> (intro h9; omega))) | refine q_Gr.tr ?_ (by assumption) (by intro k9 j9 hk9; omega)))) c334_31 (by first | exact q_w32_id (by omega) (by omega) | exact q_w32w _ | exact rfl) (by first | assumption | omega) (by first | assumption | omega) rfl ?_
      intro y17
      refine r_goto c334_32 ?_
      refine r_lcmpn c334_36 rfl (by first | exact q_w64_id (by omega) (by omega) | exact rfl) (by first | exact q_w64_id (by omega) (by omega) | exact rfl) ?_ ?_ ?_
      · intro b18
        refine r_if_ne c334_37 rfl (show q_w32 (-1) = -1 from rfl) ?_ ?_
        · intro b19
          refine r_iload_n c334_42 rfl rfl ?_
          refine r_if_eq c334_43 rfl (by first | exact q_w32_id (by omega) (by omega) | exact q_w32w _ | exact rfl) ?_ ?_
          · intro b20
            refine r_aload_n c334_68 rfl rfl ?_
            refine r_bipush c334_69 rfl ?_
            refine r_iload_n c334_71 rfl rfl ?_
            refine r_iadd c334_72 (by first | exact q_w32_id (by omega) (by omega) | exact q_w32w _ | exact rfl) rfl ?_
            refine r_vcG c334_73 (by first | assumption | omega) (by decide) (by first | assumption | rfl) rfl rfl rfl (k303 hG (q_Gr.bz (S := fun k j => k = 139 ∧ j = 7) hZ (by repeat (first | exact q_Gr.rf | refine q_Gr.ud ?_ (by omega) (by first | assumption | rfl) rfl (by first | exact ⟨fun h9 => absurd h9 (by decide), fun h9 => absurd h9 (by decide)⟩ | (constructor <;> (intro h9; omega))) | refine q_Gr.udz ?_ (by omega) (by first | assumption | decide | omega) (by first | exact ⟨fun h9 => absurd h9 (by decide), fun h9 => absurd h9 (by decide)⟩ | (constructor <;> (intro h9; omega))) | refine q_Gr.tr ?_ (by assumption) (by intro k9 j9 hk9; omega)))) (q_Gr.rb (S := fun k j => k = 139 ∧ j = 7) hR (by repeat (first | exact q_Gr.rf | refine q_Gr.ud ?_ (by omega) (by first | assumption | rfl) rfl (by first | exact ⟨fun h9 => absurd h9 (by decide), fun h9 => absurd h9 (by decide)⟩ | (constructor <;> (intro h9; omega))) | refine q_Gr.udz ?_ (by omega) (by first | assumption | decide | omega) (by first | exact ⟨fun h9 => absurd h9 (by decide), fun h9 => absurd h9 (by decide)⟩ | (constructor <;> (intro h9; omega))) | refine q_Gr.tr ?_ (by assumption) (by intro k9 j9 hk9; omega)))) (by first | assumption | omega)) ?_
            intro t21 w21 g21 p21
            obtain ⟨rfl, ⟨z21, rfl, hs21⟩, rfl⟩ := p21
            refine Or.inr (Or.inl ⟨rfl, ?_⟩)
            refine r_iconst c334_76 rfl ?_
            refine r_iadd c334_77 (by first | exact q_w32_id (by omega) (by omega) | exact q_w32w _ | exact rfl) rfl ?_
            exact r_iret c334_78 ⟨rfl, rfl, rfl⟩ ⟨rfl, ⟨_, rfl⟩, (by repeat (first | exact q_Gr.rf | refine q_Gr.ud ?_ (by omega) (by first | assumption | rfl) rfl (by first | exact ⟨fun h9 => absurd h9 (by decide), fun h9 => absurd h9 (by decide)⟩ | (constructor <;> (intro h9; omega))) | refine q_Gr.udz ?_ (by omega) (by first | assumption | decide | omega) (by first | exact ⟨fun h9 => absurd h9 (by decide), fun h9 => absurd h9 (by decide)⟩ | (constructor <;> (intro h9; omega))) | refine q_Gr.tr ?_ (by assumption) (by intro k9 j9 hk9; omega)))⟩
          · intro b20
            refine r_aload_n c334_46 rfl rfl ?_
            refine r_bipush c334_47 rfl ?_
            refine r_iload_n c334_49 rfl rfl ?_
            refine r_iadd c334_50 (by first | exact q_w32_id (by omega) (by omega) | exact q_w32w _ | exact rfl) rfl ?_
            refine r_vcG c334_51 (by first | assumption | omega) (by decide) (by first | assumption | rfl) rfl rfl rfl (k303 hG (q_Gr.bz (S := fun k j => k = 139 ∧ j = 7) hZ (by repeat (first | exact q_Gr.rf | refine q_Gr.ud ?_ (by omega) (by first | assumption | rfl) rfl (by first | exact ⟨fun h9 => absurd h9 (by decide), fun h9 => absurd h9 (by decide)⟩ | (constructor <;> (intro h9; omega))) | refine q_Gr.udz ?_ (by omega) (by first | assumption | decide | omega) (by first | exact ⟨fun h9 => absurd h9 (by decide), fun h9 => absurd h9 (by decide)⟩ | (constructor <;> (intro h9; omega))) | refine q_Gr.tr ?_ (by assumption) (by intro k9 j9 hk9; omega)))) (q_Gr.rb (S := fun k j => k = 139 ∧ j = 7) hR (by repeat (first | exact q_Gr.rf | refine q_Gr.ud ?_ (by omega) (by first | assumption | rfl) rfl (by first | exact ⟨fun h9 => absurd h9 (by decide), fun h9 => absurd h9 (by decide)⟩ | (constructor <;> (intro h9; omega))) | refine q_Gr.udz ?_ (by omega) (by first | assumption | decide | omega) (by first | exact ⟨fun h9 => absurd h9 (by decide), fun h9 => absurd h9 (by decide)⟩ | (constructor <;> (intro h9; omega))) | refine q_Gr.tr ?_ (by assumption) (by intro k9 j9 hk9; omega)))) (by first | assumption | omega)) ?_
            intro t22 w22 g22 p22
            obtain ⟨rfl, ⟨z22, rfl, hs22⟩, rfl⟩ := p22
            refine Or.inr (Or.inl ⟨rfl, ?_⟩)
            refine r_aload_n c334_54 rfl rfl ?_
            refine r_bipush c334_55 rfl ?_
            refine r_iload_n c334_57 rfl rfl ?_
            refine r_iadd c334_58 (by first | exact q_w32_id (by omega) (by omega) | exact q_w32w _ | exact rfl) rfl ?_
            refine r_vcG c334_59 (by first | assumption | omega) (by decide) (by first | assumption | rfl) rfl rfl rfl (k303 hG (q_Gr.bz (S := fun k j => k = 139 ∧ j = 7) hZ (by repeat (first | exact q_Gr.rf | refine q_Gr.ud ?_ (by omega) (by first | assumption | rfl) rfl (by first | exact ⟨fun h9 => absurd h9 (by decide), fun h9 => absurd h9 (by decide)⟩ | (constructor <;> (intro h9; omega))) | refine q_Gr.udz ?_ (by omega) (by first | assumption | decide | omega) (by first | exact ⟨fun h9 => absurd h9 (by decide), fun h9 => absurd h9 (by decide)⟩ | (constructor <;> (intro h9; omega))) | refine q_Gr.tr ?_ (by assumption) (by intro k9 j9 hk9; omega)))) (q_Gr.rb (S := fun k j => k = 139 ∧ j = 7) hR (by repeat (first | exact q_Gr.rf | refine q_Gr.ud ?_ (by omega) (by first | assumption | rfl) rfl (by first | exact ⟨fun h9 => absurd h9 (by decide), fun h9 => absurd h9 (by decide)⟩ | (constructor <;> (intro h9; omega))) | refine q_Gr.udz ?_ (by omega) (by first | assumption | decide | omega) (by first | exact ⟨fun h9 => absurd h9 (by decide), fun h9 => absurd h9 (by decide)⟩ | (constructor <;> (intro h9; omega))) | refine q_Gr.tr ?_ (by assumption) (by intro k9 j9 hk9; omega)))) (by first | assumption | omega)) ?_
            intro t23 w23 g23 p23
            obtain ⟨rfl, ⟨z23, rfl, hs23⟩, rfl⟩ := p23
            refine Or.inr (Or.inl ⟨rfl, ?_⟩)
            refine r_isub c334_62 (by first | exact q_w32_id (by omega) (by omega) | exact q_w32w _ | exact rfl) rfl ?_
            refine r_iconst c334_63 rfl ?_
            refine r_iadd c334_64 (by first | exact q_w32_id (by omega) (by omega) | exact q_w32w _ | exact rfl) rfl ?_
            refine r_goto c334_65 ?_
            exact r_iret c334_78 ⟨rfl, rfl, rfl⟩ ⟨rfl, ⟨_, rfl⟩, (by repeat (first | exact q_Gr.rf | refine q_Gr.ud ?_ (by omega) (by first | assumption | rfl) rfl (by first | exact ⟨fun h9 => absurd h9 (by decide), fun h9 => absurd h9 (by decide)⟩ | (constructor <;> (intro h9; omega))) | refine q_Gr.udz ?_ (by omega) (by first | assumption | decide | omega) (by first | exact ⟨fun h9 => absurd h9 (by decide), fun h9 => absurd h9 (by decide)⟩ | (constructor <;> (intro h9; omega))) | refine q_Gr.tr ?_ (by assumption) (by intro k9 j9 hk9; omega)))⟩
        · intro b19
          exact absurd b19.1 (by decide)
      · intro b18
        refine r_if_ne c334_37 rfl (show q_w32 (0) = 0 from rfl) ?_ ?_
        · intro b24
          exact absurd b24.1 (by decide)
        · intro b24
          refine r_iconst c334_40 rfl ?_
          exact r_iret c334_41 ⟨rfl, rfl, rfl⟩ ⟨rfl, ⟨_, rfl⟩, (by repeat (first | exact q_Gr.rf | refine q_Gr.ud ?_ (by omega) (by first | assumption | rfl) rfl (by first | exact ⟨fun h9 => absurd h9 (by decide), fun h9 => absurd h9 (by decide)⟩ | (constructor <;> (intro h9; omega))) | refine q_Gr.udz ?_ (by omega) (by first | assumption | decide | omega) (by first | exact ⟨fun h9 => absurd h9 (by decide), fun h9 => absurd h9 (by decide)⟩ | (constructor <;> (intro h9; omega))) | refine q_Gr.tr ?_ (by assumption) (by intro k9 j9 hk9; omega)))⟩
      · intro b18
        refine r_if_ne c334_37 rfl (show q_w32 (1) = 1 from rfl) ?_ ?_
        · intro b25
          refine r_iload_n c334_42 rfl rfl ?_
          refine r_if_eq c334_43 rfl (by first | exact q_w32_id (by omega) (by omega) | exact q_w32w _ | exact rfl) ?_ ?_
          · intro b26
            refine r_aload_n c334_68 rfl rfl ?_
            refine r_bipush c334_69 rfl ?_
            refine r_iload_n c334_71 rfl rfl ?_
            refine r_iadd c334_72 (by first | exact q_w32_id (by omega) (by omega) | exact q_w32w _ | exact rfl) rfl ?_
            refine r_vcG c334_73 (by first | assumption | omega) (by decide) (by first | assumption | rfl) rfl rfl rfl (k303 hG (q_Gr.bz (S := fun k j => k = 139 ∧ j = 7) hZ (by repeat (first | exact q_Gr.rf | refine q_Gr.ud ?_ (by omega) (by first | assumption | rfl) rfl (by first | exact ⟨fun h9 => absurd h9 (by decide), fun h9 => absurd h9 (by decide)⟩ | (constructor <;> (intro h9; omega))) | refine q_Gr.udz ?_ (by omega) (by first | assumption | decide | omega) (by first | exact ⟨fun h9 => absurd h9 (by decide), fun h9 => absurd h9 (by decide)⟩ | (constructor <;> (intro h9; omega))) | refine q_Gr.tr ?_ (by assumption) (by intro k9 j9 hk9; omega)))) (q_Gr.rb (S := fun k j => k = 139 ∧ j = 7) hR (by repeat (first | exact q_Gr.rf | refine q_Gr.ud ?_ (by omega) (by first | assumption | rfl) rfl (by first | exact ⟨fun h9 => absurd h9 (by decide), fun h9 => absurd h9 (by decide)⟩ | (constructor <;> (intro h9; omega))) | refine q_Gr.udz ?_ (by omega) (by first | assumption | decide | omega) (by first | exact ⟨fun h9 => absurd h9 (by decide), fun h9 => absurd h9 (by decide)⟩ | (constructor <;> (intro h9; omega))) | refine q_Gr.tr ?_ (by assumption) (by intro k9 j9 hk9; omega)))) (by first | assumption | omega)) ?_
            intro t27 w27 g27 p27
            obtain ⟨rfl, ⟨z27, rfl, hs27⟩, rfl⟩ := p27
            refine Or.inr (Or.inl ⟨rfl, ?_⟩)
            refine r_iconst c334_76 rfl ?_
            refine r_iadd c334_77 (by first | exact q_w32_id (by omega) (by omega) | exact q_w32w _ | exact rfl) rfl ?_
            exact r_iret c334_78 ⟨rfl, rfl, rfl⟩ ⟨rfl, ⟨_, rfl⟩, (by repeat (first | exact q_Gr.rf | refine q_Gr.ud ?_ (by omega) (by first | assumption | rfl) rfl (by first | exact ⟨fun h9 => absurd h9 (by decide), fun h9 => absurd h9 (by decide)⟩ | (constructor <;> (intro h9; omega))) | refine q_Gr.udz ?_ (by omega) (by first | assumption | decide | omega) (by first | exact ⟨fun h9 => absurd h9 (by decide), fun h9 => absurd h9 (by decide)⟩ | (constructor <;> (intro h9; omega))) | refine q_Gr.tr ?_ (by assumption) (by intro k9 j9 hk9; omega)))⟩
          · intro b26
            refine r_aload_n c334_46 rfl rfl ?_
            refine r_bipush c334_47 rfl ?_
            refine r_iload_n c334_49 rfl rfl ?_
            refine r_iadd c334_50 (by first | exact q_w32_id (by omega) (by omega) | exact q_w32w _ | exact rfl) rfl ?_
            refine r_vcG c334_51 (by first | assumption | omega) (by decide) (by first | assumption | rfl) rfl rfl rfl (k303 hG (q_Gr.bz (S := fun k j => k = 139 ∧ j = 7) hZ (by repeat (first | exact q_Gr.rf | refine q_Gr.ud ?_ (by omega) (by first | assumption | rfl) rfl (by first | exact ⟨fun h9 => absurd h9 (by decide), fun h9 => absurd h9 (by decide)⟩ | (constructor <;> (intro h9; omega))) | refine q_Gr.udz ?_ (by omega) (by first | assumption | decide | omega) (by first | exact ⟨fun h9 => absurd h9 (by decide), fun h9 => absurd h9 (by decide)⟩ | (constructor <;> (intro h9; omega))) | refine q_Gr.tr ?_ (by assumption) (by intro k9 j9 hk9; omega)))) (q_Gr.rb (S := fun k j => k = 139 ∧ j = 7) hR (by repeat (first | exact q_Gr.rf | refine q_Gr.ud ?_ (by omega) (by first | assumption | rfl) rfl (by first | exact ⟨fun h9 => absurd h9 (by decide), fun h9 => absurd h9 (by decide)⟩ | (constructor <;> (intro h9; omega))) | refine q_Gr.udz ?_ (by omega) (by first | assumption | decide | omega) (by first | exact ⟨fun h9 => absurd h9 (by decide), fun h9 => absurd h9 (by decide)⟩ | (constructor <;> (intro h9; omega))) | refine q_Gr.tr ?_ (by assumption) (by intro k9 j9 hk9; omega)))) (by first | assumption | omega)) ?_
            intro t28 w28 g28 p28
            obtain ⟨rfl, ⟨z28, rfl, hs28⟩, rfl⟩ := p28
            refine Or.inr (Or.inl ⟨rfl, ?_⟩)
            refine r_aload_n c334_54 rfl rfl ?_
            refine r_bipush c334_55 rfl ?_
            refine r_iload_n c334_57 rfl rfl ?_
            refine r_iadd c334_58 (by first | exact q_w32_id (by omega) (by omega) | exact q_w32w _ | exact rfl) rfl ?_
            refine r_vcG c334_59 (by first | assumption | omega) (by decide) (by first | assumption | rfl) rfl rfl rfl (k303 hG (q_Gr.bz (S := fun k j => k = 139 ∧ j = 7) hZ (by repeat (first | exact q_Gr.rf | refine q_Gr.ud ?_ (by omega) (by first | assumption | rfl) rfl (by first | exact ⟨fun h9 => absurd h9 (by decide), fun h9 => absurd h9 (by decide)⟩ | (constructor <;> (intro h9; omega))) | refine q_Gr.udz ?_ (by omega) (by first | assumption | decide | omega) (by first | exact ⟨fun h9 => absurd h9 (by decide), fun h9 => absurd h9 (by decide)⟩ | (constructor <;> (intro h9; omega))) | refine q_Gr.tr ?_ (by assumption) (by intro k9 j9 hk9; omega)))) (q_Gr.rb (S := fun k j => k = 139 ∧ j = 7) hR (by repeat (first | exact q_Gr.rf | refine q_Gr.ud ?_ (by omega) (by first | assumption | rfl) rfl (by first | exact ⟨fun h9 => absurd h9 (by decide), fun h9 => absurd h9 (by decide)⟩ | (constructor <;> (intro h9; omega))) | refine q_Gr.udz ?_ (by omega) (by first | assumption | decide | omega) (by first | exact ⟨fun h9 => absurd h9 (by decide), fun h9 => absurd h9 (by decide)⟩ | (constructor <;> (intro h9; omega))) | refine q_Gr.tr ?_ (by assumption) (by intro k9 j9 hk9; omega)))) (by first | assumption | omega)) ?_
            intro t29 w29 g29 p29
            obtain ⟨rfl, ⟨z29, rfl, hs29⟩, rfl⟩ := p29
            refine Or.inr (Or.inl ⟨rfl, ?_⟩)
            refine r_isub c334_62 (by first | exact q_w32_id (by omega) (by omega) | exact q_w32w _ | exact rfl) rfl ?_
            refine r_iconst c334_63 rfl ?_
            refine r_iadd c334_64 (by first | exact q_w32_id (by omega) (by omega) | exact q_w32w _ | exact rfl) rfl ?_
            refine r_goto c334_65 ?_
            exact r_iret c334_78 ⟨rfl, rfl, rfl⟩ ⟨rfl, ⟨_, rfl⟩, (by repeat (first | exact q_Gr.rf | refine q_Gr.ud ?_ (by omega) (by first | assumption | rfl) rfl (by first | exact ⟨fun h9 => absurd h9 (by decide), fun h9 => absurd h9 (by decide)⟩ | (constructor <;> (intro h9; omega))) | refine q_Gr.udz ?_ (by omega) (by first | assumption | decide | omega) (by first | exact ⟨fun h9 => absurd h9 (by decide), fun h9 => absurd h9 (by decide)⟩ | (constructor <;> (intro h9; omega))) | refine q_Gr.tr ?_ (by assumption) (by intro k9 j9 hk9; omega)))⟩
        · intro b25
          exact absurd b25.1 (by decide)
  · intro b2
    refine r_iconst c334_8 rfl ?_
    exact r_iret c334_9 ⟨rfl, rfl, rfl⟩ ⟨rfl, ⟨_, rfl⟩, (by repeat (first | exact q_Gr.rf | refine q_Gr.ud ?_ (by omega) (by first | assumption | rfl) rfl (by first | exact ⟨fun h9 => absurd h9 (by decide), fun h9 => absurd h9 (by decide)⟩ | (constructor <;> (intro h9; omega))) | refine q_Gr.udz ?_ (by omega) (by first | assumption | decide | omega) (by first | exact ⟨fun h9 => absurd h9 (by decide), fun h9 => absurd h9 (by decide)⟩ | (constructor <;> (intro h9; omega))) | refine q_Gr.tr ?_ (by assumption) (by intro k9 j9 hk9; omega)))⟩
theorem c234_0 : q_cat 234 0 (.aload_n 0) 1 0 0 (0) := ⟨rfl, rfl⟩
theorem c234_1 : q_cat 234 1 (.iload_n 1) 1 1 0 (0) := ⟨rfl, rfl⟩
theorem c234_2 : q_cat 234 2 (.invokevirtual 280) 3 298 0 (0) := ⟨rfl, rfl⟩
theorem c234_5 : q_cat 234 5 (.ifCond .ne 28) 3 33 0 (0) := ⟨rfl, rfl⟩
theorem c234_8 : q_cat 234 8 (.aload_n 0) 1 0 0 (0) := ⟨rfl, rfl⟩
theorem c234_9 : q_cat 234 9 (.iload_n 2) 1 2 0 (0) := ⟨rfl, rfl⟩
theorem c234_10 : q_cat 234 10 (.i2l) 1 0 0 (0) := ⟨rfl, rfl⟩
theorem c234_11 : q_cat 234 11 (.lconst 0) 1 0 0 (0) := ⟨rfl, rfl⟩
theorem c234_12 : q_cat 234 12 (.ldc2_w 69) 3 0 0 (5) := ⟨rfl, rfl⟩
theorem c234_15 : q_cat 234 15 (.invokestatic 163) 3 267 1 (0) := ⟨rfl, rfl⟩
theorem c234_18 : q_cat 234 18 (.ifCond .ne 7) 3 25 0 (0) := ⟨rfl, rfl⟩
theorem c234_21 : q_cat 234 21 (.iconst 1) 1 0 0 (0) := ⟨rfl, rfl⟩
theorem c234_22 : q_cat 234 22 (.goto 4) 3 26 0 (0) := ⟨rfl, rfl⟩
theorem c234_25 : q_cat 234 25 (.iconst 0) 1 0 0 (0) := ⟨rfl, rfl⟩
theorem c234_26 : q_cat 234 26 (.iconst 2) 1 0 0 (0) := ⟨rfl, rfl⟩
theorem c234_27 : q_cat 234 27 (.invokevirtual 273) 3 258 0 (0) := ⟨rfl, rfl⟩
theorem c234_30 : q_cat 234 30 (.ifCond .eq 5) 3 35 0 (0) := ⟨rfl, rfl⟩
theorem c234_33 : q_cat 234 33 (.iconst 0) 1 0 0 (0) := ⟨rfl, rfl⟩
theorem c234_34 : q_cat 234 34 (.ireturn) 1 0 0 (0) := ⟨rfl, rfl⟩
theorem c234_35 : q_cat 234 35 (.aload_n 0) 1 0 0 (0) := ⟨rfl, rfl⟩
theorem c234_36 : q_cat 234 36 (.bipush 56) 2 0 0 (0) := ⟨rfl, rfl⟩
theorem c234_38 : q_cat 234 38 (.iconst 3) 1 0 0 (0) := ⟨rfl, rfl⟩
theorem c234_39 : q_cat 234 39 (.iload_n 2) 1 2 0 (0) := ⟨rfl, rfl⟩
theorem c234_40 : q_cat 234 40 (.imul) 1 0 0 (0) := ⟨rfl, rfl⟩
theorem c234_41 : q_cat 234 41 (.iadd) 1 0 0 (0) := ⟨rfl, rfl⟩
theorem c234_42 : q_cat 234 42 (.iload_n 1) 1 1 0 (0) := ⟨rfl, rfl⟩
theorem c234_43 : q_cat 234 43 (.iadd) 1 0 0 (0) := ⟨rfl, rfl⟩
theorem c234_44 : q_cat 234 44 (.invokevirtual 82) 3 303 0 (0) := ⟨rfl, rfl⟩
theorem c234_47 : q_cat 234 47 (.ireturn) 1 0 0 (0) := ⟨rfl, rfl⟩
theorem k234 {Γ : q_Γ} (hG : q_GG Γ) {h : q_F} (hZ : q_Bz h) (hR : q_Rb h) {v1 : Int} {v2 : Int}  :
    q_M Γ q_K 155 234 [(2, Int.ofNat 139), (0, v1), (0, v2)] h (fun t w h' => (t = 1 ∧ (∃ z, w = ((0, z) : q_V)) ∧ q_Gr (fun k j => k = 139 ∧ j = 7) h h')) := by
  refine q_M.of (by decide) (Nat.le_of_ble_eq_true rfl) hG ?_
  refine r_aload_n c234_0 rfl rfl ?_
  refine r_iload_n c234_1 rfl rfl ?_
  refine r_vcG c234_2 (by first | assumption | omega) (by decide) (by first | assumption | rfl) rfl rfl rfl (k298 hG (q_Gr.bz (S := fun k j => k = 139 ∧ j = 7) hZ (by repeat (first | exact q_Gr.rf | refine q_Gr.ud ?_ (by omega) (by first | assumption | rfl) rfl (by first | exact ⟨fun h9 => absurd h9 (by decide), fun h9 => absurd h9 (by decide)⟩ | (constructor <;> (intro h9; omega))) | refine q_Gr.udz ?_ (by omega) (by first | assumption | decide | omega) (by first | exact ⟨fun h9 => absurd h9 (by decide), fun h9 => absurd h9 (by decide)⟩ | (constructor <;> (intro h9; omega))) | refine q_Gr.tr ?_ (by assumption) (by intro k9 j9 hk9; omega)))) (q_Gr.rb (S := fun k j => k = 139 ∧ j = 7) hR (by repeat (first | exact q_Gr.rf | refine q_Gr.ud ?_ (by omega) (by first | assumption | rfl) rfl (by first | exact ⟨fun h9 => absurd h9 (by decide), fun h9 => absurd h9 (by decide)⟩ | (constructor <;> (intro h9; omega))) | refine q_Gr.udz ?_ (by omega) (by first | assumption | decide | omega) (by first | exact ⟨fun h9 => absurd h9 (by decide), fun h9 => absurd h9 (by decide)⟩ | (constructor <;> (intro h9; omega))) | refine q_Gr.tr ?_ (by assumption) (by intro k9 j9 hk9; omega))))) ?_
  intro t1 w1 g1 p1
  obtain ⟨rfl, ⟨z1, rfl, hz1, hs1⟩, e1⟩ := p1
  refine Or.inr (Or.inl ⟨rfl, ?_⟩)
  refine r_if_ne c234_5 rfl (by first | exact q_w32_id (by omega) (by omega) | exact q_w32w _ | exact rfl) ?_ ?_
  · intro b2
    refine r_iconst c234_33 rfl ?_
    exact r_iret c234_34 ⟨rfl, rfl, rfl⟩ ⟨rfl, ⟨_, rfl⟩, (by repeat (first | exact q_Gr.rf | refine q_Gr.ud ?_ (by omega) (by first | assumption | rfl) rfl (by first | exact ⟨fun h9 => absurd h9 (by decide), fun h9 => absurd h9 (by decide)⟩ | (constructor <;> (intro h9; omega))) | refine q_Gr.udz ?_ (by omega) (by first | assumption | decide | omega) (by first | exact ⟨fun h9 => absurd h9 (by decide), fun h9 => absurd h9 (by decide)⟩ | (constructor <;> (intro h9; omega))) | refine q_Gr.tr ?_ (by assumption) (by intro k9 j9 hk9; omega)))⟩
  · intro b2
    refine r_aload_n c234_8 rfl rfl ?_
    refine r_iload_n c234_9 rfl rfl ?_
    refine r_i2l c234_10 (by first | exact q_w32_id (by omega) (by omega) | exact q_w32w _ | exact rfl) rfl ?_
    refine r_lconst c234_11 rfl ?_
    refine r_ldc2 c234_12 rfl rfl ?_
    refine r_callG c234_15 (fun _ => rfl) rfl rfl rfl (k267 hG (q_Gr.bz (S := fun k j => k = 139 ∧ j = 7) hZ (by repeat (first | exact q_Gr.rf | refine q_Gr.ud ?_ (by omega) (by first | assumption | rfl) rfl (by first | exact ⟨fun h9 => absurd h9 (by decide), fun h9 => absurd h9 (by decide)⟩ | (constructor <;> (intro h9; omega))) | refine q_Gr.udz ?_ (by omega) (by first | assumption | decide | omega) (by first | exact ⟨fun h9 => absurd h9 (by decide), fun h9 => absurd h9 (by decide)⟩ | (constructor <;> (intro h9; omega))) | refine q_Gr.tr ?_ (by assumption) (by intro k9 j9 hk9; omega)))) (q_Gr.rb (S := fun k j => k = 139 ∧ j = 7) hR (by repeat (first | exact q_Gr.rf | refine q_Gr.ud ?_ (by omega) (by first | assumption | rfl) rfl (by first | exact ⟨fun h9 => absurd h9 (by decide), fun h9 => absurd h9 (by decide)⟩ | (constructor <;> (intro h9; omega))) | refine q_Gr.udz ?_ (by omega) (by first | assumption | decide | omega) (by first | exact ⟨fun h9 => absurd h9 (by decide), fun h9 => absurd h9 (by decide)⟩ | (constructor <;> (intro h9; omega))) | refine q_Gr.tr ?_ (by assumption) (by intro k9 j9 hk9; omega)))) (by first | exact q_w64_id (by omega) (by omega) | exact rfl) (by first | exact q_w64_id (by omega) (by omega) | exact rfl) (by first | exact q_w64_id (by omega) (by omega) | exact rfl)) ?_
    intro t3 w3 g3 p3
    obtain ⟨rfl, ⟨z3, rfl, hz3, hs3⟩, rfl⟩ := p3
    refine Or.inr (Or.inl ⟨rfl, ?_⟩)
    refine r_if_ne c234_18 rfl (by first | exact q_w32_id (by omega) (by omega) | exact q_w32w _ | exact rfl) ?_ ?_
    · intro b4
      refine r_iconst c234_25 rfl ?_
      refine r_iconst c234_26 rfl ?_
      refine r_vcG c234_27 (by first | assumption | omega) (by decide) (by first | assumption | rfl) rfl rfl rfl (k258 hG (q_Gr.bz (S := fun k j => k = 139 ∧ j = 7) hZ (by repeat (first | exact q_Gr.rf | refine q_Gr.ud ?_ (by omega) (by first | assumption | rfl) rfl (by first | exact ⟨fun h9 => absurd h9 (by decide), fun h9 => absurd h9 (by decide)⟩ | (constructor <;> (intro h9; omega))) | refine q_Gr.udz ?_ (by omega) (by first | assumption | decide | omega) (by first | exact ⟨fun h9 => absurd h9 (by decide), fun h9 => absurd h9 (by decide)⟩ | (constructor <;> (intro h9; omega))) | refine q_Gr.tr ?_ (by assumption) (by intro k9 j9 hk9; omega)))) (q_Gr.rb (S := fun k j => k = 139 ∧ j = 7) hR (by repeat (first | exact q_Gr.rf | refine q_Gr.ud ?_ (by omega) (by first | assumption | rfl) rfl (by first | exact ⟨fun h9 => absurd h9 (by decide), fun h9 => absurd h9 (by decide)⟩ | (constructor <;> (intro h9; omega))) | refine q_Gr.udz ?_ (by omega) (by first | assumption | decide | omega) (by first | exact ⟨fun h9 => absurd h9 (by decide), fun h9 => absurd h9 (by decide)⟩ | (constructor <;> (intro h9; omega))) | refine q_Gr.tr ?_ (by assumption) (by intro k9 j9 hk9; omega)))) (by first | assumption | decide | omega)) ?_
      intro t5 w5 g5 p5
      obtain ⟨rfl, ⟨z5, rfl, hz5, hs5⟩, e5⟩ := p5
      refine Or.inr (Or.inl ⟨rfl, ?_⟩)
      refine r_if_eq c234_30 rfl (by first | exact q_w32_id (by omega) (by omega) | exact q_w32w _ | exact rfl) ?_ ?_
      · intro b6
        refine r_aload_n c234_35 rfl rfl ?_
        refine r_bipush c234_36 rfl ?_
        refine r_iconst c234_38 rfl ?_
        refine r_iload_n c234_39 rfl rfl ?_
        refine r_imul c234_40 (by first | exact q_w32_id (by omega) (by omega) | exact q_w32w _ | exact rfl) rfl ?_
        refine r_iadd c234_41 (by first | exact q_w32_id (by omega) (by omega) | exact q_w32w _ | exact rfl) rfl ?_
        refine r_iload_n c234_42 rfl rfl ?_
        refine r_iadd c234_43 (by first | exact q_w32_id (by omega) (by omega) | exact q_w32w _ | exact rfl) rfl ?_
        refine r_vcG c234_44 (by first | assumption | omega) (by decide) (by first | assumption | rfl) rfl rfl rfl (k303 hG (q_Gr.bz (S := fun k j => k = 139 ∧ j = 7) hZ (by repeat (first | exact q_Gr.rf | refine q_Gr.ud ?_ (by omega) (by first | assumption | rfl) rfl (by first | exact ⟨fun h9 => absurd h9 (by decide), fun h9 => absurd h9 (by decide)⟩ | (constructor <;> (intro h9; omega))) | refine q_Gr.udz ?_ (by omega) (by first | assumption | decide | omega) (by first | exact ⟨fun h9 => absurd h9 (by decide), fun h9 => absurd h9 (by decide)⟩ | (constructor <;> (intro h9; omega))) | refine q_Gr.tr ?_ (by assumption) (by intro k9 j9 hk9; omega)))) (q_Gr.rb (S := fun k j => k = 139 ∧ j = 7) hR (by repeat (first | exact q_Gr.rf | refine q_Gr.ud ?_ (by omega) (by first | assumption | rfl) rfl (by first | exact ⟨fun h9 => absurd h9 (by decide), fun h9 => absurd h9 (by decide)⟩ | (constructor <;> (intro h9; omega))) | refine q_Gr.udz ?_ (by omega) (by first | assumption | decide | omega) (by first | exact ⟨fun h9 => absurd h9 (by decide), fun h9 => absurd h9 (by decide)⟩ | (constructor <;> (intro h9; omega))) | refine q_Gr.tr ?_ (by assumption) (by intro k9 j9 hk9; omega)))) (by first | assumption | omega)) ?_
        intro t7 w7 g7 p7
        obtain ⟨rfl, ⟨z7, rfl, hs7⟩, rfl⟩ := p7
        refine Or.inr (Or.inl ⟨rfl, ?_⟩)
        exact r_iret c234_47 ⟨rfl, rfl, rfl⟩ ⟨rfl, ⟨_, rfl⟩, (by repeat (first | exact q_Gr.rf | refine q_Gr.ud ?_ (by omega) (by first | assumption | rfl) rfl (by first | exact ⟨fun h9 => absurd h9 (by decide), fun h9 => absurd h9 (by decide)⟩ | (constructor <;> (intro h9; omega))) | refine q_Gr.udz ?_ (by omega) (by first | assumption | decide | omega) (by first | exact ⟨fun h9 => absurd h9 (by decide), fun h9 => absurd h9 (by decide)⟩ | (constructor <;> (intro h9; omega))) | refine q_Gr.tr ?_ (by assumption) (by intro k9 j9 hk9; omega)))⟩
      · intro b6
        refine r_iconst c234_33 rfl ?_
        exact r_iret c234_34 ⟨rfl, rfl, rfl⟩ ⟨rfl, ⟨_, rfl⟩, (by repeat (first | exact q_Gr.rf | refine q_Gr.ud ?_ (by omega) (by first | assumption | rfl) rfl (by first | exact ⟨fun h9 => absurd h9 (by decide), fun h9 => absurd h9 (by decide)⟩ | (constructor <;> (intro h9; omega))) | refine q_Gr.udz ?_ (by omega) (by first | assumption | decide | omega) (by first | exact ⟨fun h9 => absurd h9 (by decide), fun h9 => absurd h9 (by decide)⟩ | (constructor <;> (intro h9; omega))) | refine q_Gr.tr ?_ (by assumption) (by intro k9 j9 hk9; omega)))⟩
    · intro b4
      refine r_iconst c234_21 rfl ?_
      refine r_goto c234_22 ?_
      refine r_iconst c234_26 rfl ?_
      refine r_vcG c234_27 (by first | assumption | omega) (by decide) (by first | assumption | rfl) rfl rfl rfl (k258 hG (q_Gr.bz (S := fun k j => k = 139 ∧ j = 7) hZ (by repeat (first | exact q_Gr.rf | refine q_Gr.ud ?_ (by omega) (by first | assumption | rfl) rfl (by first | exact ⟨fun h9 => absurd h9 (by decide), fun h9 => absurd h9 (by decide)⟩ | (constructor <;> (intro h9; omega))) | refine q_Gr.udz ?_ (by omega) (by first | assumption | decide | omega) (by first | exact ⟨fun h9 => absurd h9 (by decide), fun h9 => absurd h9 (by decide)⟩ | (constructor <;> (intro h9; omega))) | refine q_Gr.tr ?_ (by assumption) (by intro k9 j9 hk9; omega)))) (q_Gr.rb (S := fun k j => k = 139 ∧ j = 7) hR (by repeat (first | exact q_Gr.rf | refine q_Gr.ud ?_ (by omega) (by first | assumption | rfl) rfl (by first | exact ⟨fun h9 => absurd h9 (by decide), fun h9 => absurd h9 (by decide)⟩ | (constructor <;> (intro h9; omega))) | refine q_Gr.udz ?_ (by omega) (by first | assumption | decide | omega) (by first | exact ⟨fun h9 => absurd h9 (by decide), fun h9 => absurd h9 (by decide)⟩ | (constructor <;> (intro h9; omega))) | refine q_Gr.tr ?_ (by assumption) (by intro k9 j9 hk9; omega)))) (by first | assumption | decide | omega)) ?_
      intro t8 w8 g8 p8
      obtain ⟨rfl, ⟨z8, rfl, hz8, hs8⟩, e8⟩ := p8
      refine Or.inr (Or.inl ⟨rfl, ?_⟩)
      refine r_if_eq c234_30 rfl (by first | exact q_w32_id (by omega) (by omega) | exact q_w32w _ | exact rfl) ?_ ?_
      · intro b9
        refine r_aload_n c234_35 rfl rfl ?_
        refine r_bipush c234_36 rfl ?_
        refine r_iconst c234_38 rfl ?_
        refine r_iload_n c234_39 rfl rfl ?_
        refine r_imul c234_40 (by first | exact q_w32_id (by omega) (by omega) | exact q_w32w _ | exact rfl) rfl ?_
        refine r_iadd c234_41 (by first | exact q_w32_id (by omega) (by omega) | exact q_w32w _ | exact rfl) rfl ?_
        refine r_iload_n c234_42 rfl rfl ?_
        refine r_iadd c234_43 (by first | exact q_w32_id (by omega) (by omega) | exact q_w32w _ | exact rfl) rfl ?_
        refine r_vcG c234_44 (by first | assumption | omega) (by decide) (by first | assumption | rfl) rfl rfl rfl (k303 hG (q_Gr.bz (S := fun k j => k = 139 ∧ j = 7) hZ (by repeat (first | exact q_Gr.rf | refine q_Gr.ud ?_ (by omega) (by first | assumption | rfl) rfl (by first | exact ⟨fun h9 => absurd h9 (by decide), fun h9 => absurd h9 (by decide)⟩ | (constructor <;> (intro h9; omega))) | refine q_Gr.udz ?_ (by omega) (by first | assumption | decide | omega) (by first | exact ⟨fun h9 => absurd h9 (by decide), fun h9 => absurd h9 (by decide)⟩ | (constructor <;> (intro h9; omega))) | refine q_Gr.tr ?_ (by assumption) (by intro k9 j9 hk9; omega)))) (q_Gr.rb (S := fun k j => k = 139 ∧ j = 7) hR (by repeat (first | exact q_Gr.rf | refine q_Gr.ud ?_ (by omega) (by first | assumption | rfl) rfl (by first | exact ⟨fun h9 => absurd h9 (by decide), fun h9 => absurd h9 (by decide)⟩ | (constructor <;> (intro h9; omega))) | refine q_Gr.udz ?_ (by omega) (by first | assumption | decide | omega) (by first | exact ⟨fun h9 => absurd h9 (by decide), fun h9 => absurd h9 (by decide)⟩ | (constructor <;> (intro h9; omega))) | refine q_Gr.tr ?_ (by assumption) (by intro k9 j9 hk9; omega)))) (by first | assumption | omega)) ?_
        intro t10 w10 g10 p10
        obtain ⟨rfl, ⟨z10, rfl, hs10⟩, rfl⟩ := p10
        refine Or.inr (Or.inl ⟨rfl, ?_⟩)
        exact r_iret c234_47 ⟨rfl, rfl, rfl⟩ ⟨rfl, ⟨_, rfl⟩, (by repeat (first | exact q_Gr.rf | refine q_Gr.ud ?_ (by omega) (by first | assumption | rfl) rfl (by first | exact ⟨fun h9 => absurd h9 (by decide), fun h9 => absurd h9 (by decide)⟩ | (constructor <;> (intro h9; omega))) | refine q_Gr.udz ?_ (by omega) (by first | assumption | decide | omega) (by first | exact ⟨fun h9 => absurd h9 (by decide), fun h9 => absurd h9 (by decide)⟩ | (constructor <;> (intro h9; omega))) | refine q_Gr.tr ?_ (by assumption) (by intro k9 j9 hk9; omega)))⟩
      · intro b9
        refine r_iconst c234_33 rfl ?_
        exact r_iret c234_34 ⟨rfl, rfl, rfl⟩ ⟨rfl, ⟨_, rfl⟩, (by repeat (first | exact q_Gr.rf | refine q_Gr.ud ?_ (by omega) (by first | assumption | rfl) rfl (by first | exact ⟨fun h9 => absurd h9 (by decide), fun h9 => absurd h9 (by decide)⟩ | (constructor <;> (intro h9; omega))) | refine q_Gr.udz ?_ (by omega) (by first | assumption | decide | omega) (by first | exact ⟨fun h9 => absurd h9 (by decide), fun h9 => absurd h9 (by decide)⟩ | (constructor <;> (intro h9; omega))) | refine q_Gr.tr ?_ (by assumption) (by intro k9 j9 hk9; omega)))⟩
theorem c304_0 : q_cat 304 0 (.aload_n 0) 1 0 0 (0) := ⟨rfl, rfl⟩
theorem c304_1 : q_cat 304 1 (.iconst 0) 1 0 0 (0) := ⟨rfl, rfl⟩
theorem c304_2 : q_cat 304 2 (.putfield 60) 3 9 7 (0) := ⟨rfl, rfl⟩
theorem c304_5 : q_cat 304 5 (.iload_n 1) 1 1 0 (0) := ⟨rfl, rfl⟩
theorem c304_6 : q_cat 304 6 (.i2l) 1 0 0 (0) := ⟨rfl, rfl⟩
theorem c304_7 : q_cat 304 7 (.lconst 0) 1 0 0 (0) := ⟨rfl, rfl⟩
theorem c304_8 : q_cat 304 8 (.aload_n 0) 1 0 0 (0) := ⟨rfl, rfl⟩
theorem c304_9 : q_cat 304 9 (.getfield 407) 3 9 27 (0) := ⟨rfl, rfl⟩
theorem c304_12 : q_cat 304 12 (.iconst 1) 1 0 0 (0) := ⟨rfl, rfl⟩
theorem c304_13 : q_cat 304 13 (.isub) 1 0 0 (0) := ⟨rfl, rfl⟩
theorem c304_14 : q_cat 304 14 (.i2l) 1 0 0 (0) := ⟨rfl, rfl⟩
theorem c304_15 : q_cat 304 15 (.invokestatic 163) 3 267 1 (0) := ⟨rfl, rfl⟩
theorem c304_18 : q_cat 304 18 (.ifCond .eq 12) 3 30 0 (0) := ⟨rfl, rfl⟩
theorem c304_21 : q_cat 304 21 (.aload_n 0) 1 0 0 (0) := ⟨rfl, rfl⟩
theorem c304_22 : q_cat 304 22 (.getfield 51) 3 9 26 (3) := ⟨rfl, rfl⟩
theorem c304_25 : q_cat 304 25 (.iload_n 1) 1 1 0 (0) := ⟨rfl, rfl⟩
theorem c304_26 : q_cat 304 26 (.iaload) 1 0 0 (0) := ⟨rfl, rfl⟩
theorem c304_27 : q_cat 304 27 (.goto 4) 3 31 0 (0) := ⟨rfl, rfl⟩
theorem c304_30 : q_cat 304 30 (.iconst (-1)) 1 0 0 (0) := ⟨rfl, rfl⟩
theorem c304_31 : q_cat 304 31 (.ireturn) 1 0 0 (0) := ⟨rfl, rfl⟩
theorem k304 {Γ : q_Γ} (hG : q_GG Γ) {h : q_F} (hZ : q_Bz h) (hR : q_Rb h) {v1 : Int}  :
    q_M Γ q_K 155 304 [(2, Int.ofNat 139), (0, v1)] h (fun t w h' => (t = 1 ∧ (∃ z, w = ((0, z) : q_V)) ∧ q_Gr (fun k j => k = 139 ∧ j = 7) h h')) := by
  refine q_M.of (by decide) (Nat.le_of_ble_eq_true rfl) hG ?_
  refine r_aload_n c304_0 rfl rfl ?_
  refine r_iconst c304_1 rfl ?_
  refine r_puti c304_2 (by first | assumption | omega) (by decide) (by first | assumption | rfl) rfl rfl rfl ?_
  refine r_iload_n c304_5 rfl rfl ?_
  refine r_i2l c304_6 (by first | exact q_w32_id (by omega) (by omega) | exact q_w32w _ | exact rfl) rfl ?_
  refine r_lconst c304_7 rfl ?_
  refine r_aload_n c304_8 rfl rfl ?_
  refine r_getf (q_Gr.rb (S := fun k j => k = 139 ∧ j = 7) hR (by repeat (first | exact q_Gr.rf | refine q_Gr.ud ?_ (by omega) (by first | assumption | rfl) rfl (by first | exact ⟨fun h9 => absurd h9 (by decide), fun h9 => absurd h9 (by decide)⟩ | (constructor <;> (intro h9; omega))) | refine q_Gr.udz ?_ (by omega) (by first | assumption | decide | omega) (by first | exact ⟨fun h9 => absurd h9 (by decide), fun h9 => absurd h9 (by decide)⟩ | (constructor <;> (intro h9; omega))) | refine q_Gr.tr ?_ (by assumption) (by intro k9 j9 hk9; omega)))) c304_9 rfl rfl ?_
  intro y1
  refine r_iconst c304_12 rfl ?_
  refine r_isub c304_13 (by first | exact q_w32_id (by omega) (by omega) | exact q_w32w _ | exact rfl) rfl ?_
  refine r_i2l c304_14 (by first | exact q_w32_id (by omega) (by omega) | exact q_w32w _ | exact rfl) rfl ?_
  refine r_callG c304_15 (fun _ => rfl) rfl rfl rfl (k267 hG (q_Gr.bz (S := fun k j => k = 139 ∧ j = 7) hZ (by repeat (first | exact q_Gr.rf | refine q_Gr.ud ?_ (by omega) (by first | assumption | rfl) rfl (by first | exact ⟨fun h9 => absurd h9 (by decide), fun h9 => absurd h9 (by decide)⟩ | (constructor <;> (intro h9; omega))) | refine q_Gr.udz ?_ (by omega) (by first | assumption | decide | omega) (by first | exact ⟨fun h9 => absurd h9 (by decide), fun h9 => absurd h9 (by decide)⟩ | (constructor <;> (intro h9; omega))) | refine q_Gr.tr ?_ (by assumption) (by intro k9 j9 hk9; omega)))) (q_Gr.rb (S := fun k j => k = 139 ∧ j = 7) hR (by repeat (first | exact q_Gr.rf | refine q_Gr.ud ?_ (by omega) (by first | assumption | rfl) rfl (by first | exact ⟨fun h9 => absurd h9 (by decide), fun h9 => absurd h9 (by decide)⟩ | (constructor <;> (intro h9; omega))) | refine q_Gr.udz ?_ (by omega) (by first | assumption | decide | omega) (by first | exact ⟨fun h9 => absurd h9 (by decide), fun h9 => absurd h9 (by decide)⟩ | (constructor <;> (intro h9; omega))) | refine q_Gr.tr ?_ (by assumption) (by intro k9 j9 hk9; omega)))) (by first | exact q_w64_id (by omega) (by omega) | exact rfl) (by first | exact q_w64_id (by omega) (by omega) | exact rfl) (by first | exact q_w64_id (by omega) (by omega) | exact rfl)) ?_
  intro t2 w2 g2 p2
  obtain ⟨rfl, ⟨z2, rfl, hz2, hs2⟩, rfl⟩ := p2
  refine Or.inr (Or.inl ⟨rfl, ?_⟩)
  refine r_if_eq c304_18 rfl (by first | exact q_w32_id (by omega) (by omega) | exact q_w32w _ | exact rfl) ?_ ?_
  · intro b3
    refine r_iconst c304_30 rfl ?_
    exact r_iret c304_31 ⟨rfl, rfl, rfl⟩ ⟨rfl, ⟨_, rfl⟩, (by repeat (first | exact q_Gr.rf | refine q_Gr.ud ?_ (by omega) (by first | assumption | rfl) rfl (by first | exact ⟨fun h9 => absurd h9 (by decide), fun h9 => absurd h9 (by decide)⟩ | (constructor <;> (intro h9; omega))) | refine q_Gr.udz ?_ (by omega) (by first | assumption | decide | omega) (by first | exact ⟨fun h9 => absurd h9 (by decide), fun h9 => absurd h9 (by decide)⟩ | (constructor <;> (intro h9; omega))) | refine q_Gr.tr ?_ (by assumption) (by intro k9 j9 hk9; omega)))⟩
  · intro b3
    refine r_aload_n c304_21 rfl rfl ?_
    refine r_getr c304_22 (by first | assumption | omega) (by decide) (by first | assumption | rfl) rfl rfl ?_
    refine r_iload_n c304_25 rfl rfl ?_
    refine r_iald c304_26 (by first | assumption | omega) (by decide) (by first | assumption | rfl) (by first | assumption | decide) (by first | exact q_w32_id (by omega) (by omega) | exact q_w32w _ | exact rfl) (by first | assumption | omega) (by first | assumption | omega) rfl ?_
    refine r_goto c304_27 ?_
    exact r_iret c304_31 ⟨rfl, rfl, rfl⟩ ⟨rfl, ⟨_, rfl⟩, (by repeat (first | exact q_Gr.rf | refine q_Gr.ud ?_ (by omega) (by first | assumption | rfl) rfl (by first | exact ⟨fun h9 => absurd h9 (by decide), fun h9 => absurd h9 (by decide)⟩ | (constructor <;> (intro h9; omega))) | refine q_Gr.udz ?_ (by omega) (by first | assumption | decide | omega) (by first | exact ⟨fun h9 => absurd h9 (by decide), fun h9 => absurd h9 (by decide)⟩ | (constructor <;> (intro h9; omega))) | refine q_Gr.tr ?_ (by assumption) (by intro k9 j9 hk9; omega)))⟩
theorem c350_0 : q_cat 350 0 (.aload_n 0) 1 0 0 (0) := ⟨rfl, rfl⟩
theorem c350_1 : q_cat 350 1 (.iload_n 1) 1 1 0 (0) := ⟨rfl, rfl⟩
theorem c350_2 : q_cat 350 2 (.iload_n 2) 1 2 0 (0) := ⟨rfl, rfl⟩
theorem c350_3 : q_cat 350 3 (.invokevirtual 347) 3 300 0 (0) := ⟨rfl, rfl⟩
theorem c350_6 : q_cat 350 6 (.ifCond .eq 7) 3 13 0 (0) := ⟨rfl, rfl⟩
theorem c350_9 : q_cat 350 9 (.iconst 0) 1 0 0 (0) := ⟨rfl, rfl⟩
theorem c350_10 : q_cat 350 10 (.goto 15) 3 25 0 (0) := ⟨rfl, rfl⟩
theorem c350_13 : q_cat 350 13 (.aload_n 0) 1 0 0 (0) := ⟨rfl, rfl⟩
theorem c350_14 : q_cat 350 14 (.bipush 74) 2 0 0 (0) := ⟨rfl, rfl⟩
theorem c350_16 : q_cat 350 16 (.iconst 3) 1 0 0 (0) := ⟨rfl, rfl⟩
theorem c350_17 : q_cat 350 17 (.iload_n 1) 1 1 0 (0) := ⟨rfl, rfl⟩
theorem c350_18 : q_cat 350 18 (.imul) 1 0 0 (0) := ⟨rfl, rfl⟩
theorem c350_19 : q_cat 350 19 (.iadd) 1 0 0 (0) := ⟨rfl, rfl⟩
theorem c350_20 : q_cat 350 20 (.iload_n 2) 1 2 0 (0) := ⟨rfl, rfl⟩
theorem c350_21 : q_cat 350 21 (.iadd) 1 0 0 (0) := ⟨rfl, rfl⟩
theorem c350_22 : q_cat 350 22 (.invokevirtual 82) 3 303 0 (0) := ⟨rfl, rfl⟩
theorem c350_25 : q_cat 350 25 (.ireturn) 1 0 0 (0) := ⟨rfl, rfl⟩
theorem k350 {Γ : q_Γ} (hG : q_GG Γ) {h : q_F} (hZ : q_Bz h) (hR : q_Rb h) {v1 : Int} {v2 : Int}  :
    q_M Γ q_K 155 350 [(2, Int.ofNat 139), (0, v1), (0, v2)] h (fun t w h' => (t = 1 ∧ (∃ z, w = ((0, z) : q_V)) ∧ q_Gr (fun k j => k = 139 ∧ j = 7) h h')) := by
  refine q_M.of (by decide) (Nat.le_of_ble_eq_true rfl) hG ?_
  refine r_aload_n c350_0 rfl rfl ?_
  refine r_iload_n c350_1 rfl rfl ?_
  refine r_iload_n c350_2 rfl rfl ?_
  refine r_vcG c350_3 (by first | assumption | omega) (by decide) (by first | assumption | rfl) rfl rfl rfl (k300 hG (q_Gr.bz (S := fun k j => k = 139 ∧ j = 7) hZ (by repeat (first | exact q_Gr.rf | refine q_Gr.ud ?_ (by omega) (by first | assumption | rfl) rfl (by first | exact ⟨fun h9 => absurd h9 (by decide), fun h9 => absurd h9 (by decide)⟩ | (constructor <;> (intro h9; omega))) | refine q_Gr.udz ?_ (by omega) (by first | assumption | decide | omega) (by first | exact ⟨fun h9 => absurd h9 (by decide), fun h9 => absurd h9 (by decide)⟩ | (constructor <;> (intro h9; omega))) | refine q_Gr.tr ?_ (by assumption) (by intro k9 j9 hk9; omega)))) (q_Gr.rb (S := fun k j => k = 139 ∧ j = 7) hR (by repeat (first | exact q_Gr.rf | refine q_Gr.ud ?_ (by omega) (by first | assumption | rfl) rfl (by first | exact ⟨fun h9 => absurd h9 (by decide), fun h9 => absurd h9 (by decide)⟩ | (constructor <;> (intro h9; omega))) | refine q_Gr.udz ?_ (by omega) (by first | assumption | decide | omega) (by first | exact ⟨fun h9 => absurd h9 (by decide), fun h9 => absurd h9 (by decide)⟩ | (constructor <;> (intro h9; omega))) | refine q_Gr.tr ?_ (by assumption) (by intro k9 j9 hk9; omega))))) ?_
  intro t1 w1 g1 p1
  obtain ⟨rfl, ⟨z1, rfl, hz1, hs1⟩, e1⟩ := p1
  refine Or.inr (Or.inl ⟨rfl, ?_⟩)
  refine r_if_eq c350_6 rfl (by first | exact q_w32_id (by omega) (by omega) | exact q_w32w _ | exact rfl) ?_ ?_
  · intro b2
    refine r_aload_n c350_13 rfl rfl ?_
    refine r_bipush c350_14 rfl ?_
    refine r_iconst c350_16 rfl ?_
    refine r_iload_n c350_17 rfl rfl ?_
    refine r_imul c350_18 (by first | exact q_w32_id (by omega) (by omega) | exact q_w32w _ | exact rfl) rfl ?_
    refine r_iadd c350_19 (by first | exact q_w32_id (by omega) (by omega) | exact q_w32w _ | exact rfl) rfl ?_
    refine r_iload_n c350_20 rfl rfl ?_
    refine r_iadd c350_21 (by first | exact q_w32_id (by omega) (by omega) | exact q_w32w _ | exact rfl) rfl ?_
    refine r_vcG c350_22 (by first | assumption | omega) (by decide) (by first | assumption | rfl) rfl rfl rfl (k303 hG (q_Gr.bz (S := fun k j => k = 139 ∧ j = 7) hZ (by repeat (first | exact q_Gr.rf | refine q_Gr.ud ?_ (by omega) (by first | assumption | rfl) rfl (by first | exact ⟨fun h9 => absurd h9 (by decide), fun h9 => absurd h9 (by decide)⟩ | (constructor <;> (intro h9; omega))) | refine q_Gr.udz ?_ (by omega) (by first | assumption | decide | omega) (by first | exact ⟨fun h9 => absurd h9 (by decide), fun h9 => absurd h9 (by decide)⟩ | (constructor <;> (intro h9; omega))) | refine q_Gr.tr ?_ (by assumption) (by intro k9 j9 hk9; omega)))) (q_Gr.rb (S := fun k j => k = 139 ∧ j = 7) hR (by repeat (first | exact q_Gr.rf | refine q_Gr.ud ?_ (by omega) (by first | assumption | rfl) rfl (by first | exact ⟨fun h9 => absurd h9 (by decide), fun h9 => absurd h9 (by decide)⟩ | (constructor <;> (intro h9; omega))) | refine q_Gr.udz ?_ (by omega) (by first | assumption | decide | omega) (by first | exact ⟨fun h9 => absurd h9 (by decide), fun h9 => absurd h9 (by decide)⟩ | (constructor <;> (intro h9; omega))) | refine q_Gr.tr ?_ (by assumption) (by intro k9 j9 hk9; omega)))) (by first | assumption | omega)) ?_
    intro t3 w3 g3 p3
    obtain ⟨rfl, ⟨z3, rfl, hs3⟩, rfl⟩ := p3
    refine Or.inr (Or.inl ⟨rfl, ?_⟩)
    exact r_iret c350_25 ⟨rfl, rfl, rfl⟩ ⟨rfl, ⟨_, rfl⟩, (by repeat (first | exact q_Gr.rf | refine q_Gr.ud ?_ (by omega) (by first | assumption | rfl) rfl (by first | exact ⟨fun h9 => absurd h9 (by decide), fun h9 => absurd h9 (by decide)⟩ | (constructor <;> (intro h9; omega))) | refine q_Gr.udz ?_ (by omega) (by first | assumption | decide | omega) (by first | exact ⟨fun h9 => absurd h9 (by decide), fun h9 => absurd h9 (by decide)⟩ | (constructor <;> (intro h9; omega))) | refine q_Gr.tr ?_ (by assumption) (by intro k9 j9 hk9; omega)))⟩
  · intro b2
    refine r_iconst c350_9 rfl ?_
    refine r_goto c350_10 ?_
    exact r_iret c350_25 ⟨rfl, rfl, rfl⟩ ⟨rfl, ⟨_, rfl⟩, (by repeat (first | exact q_Gr.rf | refine q_Gr.ud ?_ (by omega) (by first | assumption | rfl) rfl (by first | exact ⟨fun h9 => absurd h9 (by decide), fun h9 => absurd h9 (by decide)⟩ | (constructor <;> (intro h9; omega))) | refine q_Gr.udz ?_ (by omega) (by first | assumption | decide | omega) (by first | exact ⟨fun h9 => absurd h9 (by decide), fun h9 => absurd h9 (by decide)⟩ | (constructor <;> (intro h9; omega))) | refine q_Gr.tr ?_ (by assumption) (by intro k9 j9 hk9; omega)))⟩
