/-! Part 30: the reference over any heap that keeps its bounds: its leaves. Printed by wip/tools/k30.py. -/
theorem c267_0 : q_cat 267 0 (.lload_n 0) 1 0 0 (0) := ⟨rfl, rfl⟩
theorem c267_1 : q_cat 267 1 (.lload_n 2) 1 2 0 (0) := ⟨rfl, rfl⟩
theorem c267_2 : q_cat 267 2 (.lcmp) 1 0 0 (0) := ⟨rfl, rfl⟩
theorem c267_3 : q_cat 267 3 (.ifCond .lt 14) 3 17 0 (0) := ⟨rfl, rfl⟩
theorem c267_6 : q_cat 267 6 (.lload_n 0) 1 0 0 (0) := ⟨rfl, rfl⟩
theorem c267_7 : q_cat 267 7 (.lload 4) 2 4 0 (0) := ⟨rfl, rfl⟩
theorem c267_9 : q_cat 267 9 (.lcmp) 1 0 0 (0) := ⟨rfl, rfl⟩
theorem c267_10 : q_cat 267 10 (.ifCond .gt 7) 3 17 0 (0) := ⟨rfl, rfl⟩
theorem c267_13 : q_cat 267 13 (.iconst 1) 1 0 0 (0) := ⟨rfl, rfl⟩
theorem c267_14 : q_cat 267 14 (.goto 4) 3 18 0 (0) := ⟨rfl, rfl⟩
theorem c267_17 : q_cat 267 17 (.iconst 0) 1 0 0 (0) := ⟨rfl, rfl⟩
theorem c267_18 : q_cat 267 18 (.ireturn) 1 0 0 (0) := ⟨rfl, rfl⟩
theorem k267 {Γ : q_Γ} (hG : q_GG Γ) {h : q_F} (hZ : q_Bz h) (hR : q_Rb h) {v0 : Int} {v2 : Int} {v4 : Int} (hr0 : q_r64 v0) (hr2 : q_r64 v2) (hr4 : q_r64 v4) :
    q_M Γ q_K 155 267 [(1, v0), (1, v2), (1, v4)] h (fun t w h' => (t = 1 ∧ (∃ z, w = ((0, z) : q_V) ∧ (z = 0 ∨ z = 1) ∧ ((z = 1 ∧ v2 ≤ v0 ∧ v0 ≤ v4) ∨ (z = 0 ∧ (v0 < v2 ∨ v4 < v0)))) ∧ h' = h)) := by
  refine q_M.of (by decide) (Nat.le_of_ble_eq_true rfl) hG ?_
  refine r_lload_n c267_0 rfl rfl ?_
  refine r_lload_n c267_1 rfl rfl ?_
  refine r_lcmpn c267_2 rfl (by first | exact q_w64_id (by omega) (by omega) | exact rfl) (by first | exact q_w64_id (by omega) (by omega) | exact rfl) ?_ ?_ ?_
  · intro b1
    refine r_if_lt c267_3 rfl (show q_w32 (-1) = -1 from rfl) ?_ ?_
    · intro b2
      refine r_iconst c267_17 rfl ?_
      exact r_zret c267_18 ⟨rfl, rfl, rfl⟩ (by decide) ⟨rfl, ⟨_, rfl, (by decide), (by omega)⟩, rfl⟩
    · intro b2
      exact absurd b2.1 (by decide)
  · intro b1
    refine r_if_lt c267_3 rfl (show q_w32 (0) = 0 from rfl) ?_ ?_
    · intro b3
      exact absurd b3.1 (by decide)
    · intro b3
      refine r_lload_n c267_6 rfl rfl ?_
      refine r_lload c267_7 rfl rfl ?_
      refine r_lcmpn c267_9 rfl (by first | exact q_w64_id (by omega) (by omega) | exact rfl) (by first | exact q_w64_id (by omega) (by omega) | exact rfl) ?_ ?_ ?_
      · intro b4
        refine r_if_gt c267_10 rfl (show q_w32 (-1) = -1 from rfl) ?_ ?_
        · intro b5
          exact absurd b5.1 (by decide)
        · intro b5
          refine r_iconst c267_13 rfl ?_
          refine r_goto c267_14 ?_
          exact r_zret c267_18 ⟨rfl, rfl, rfl⟩ (by decide) ⟨rfl, ⟨_, rfl, (by decide), (by omega)⟩, rfl⟩
      · intro b4
        refine r_if_gt c267_10 rfl (show q_w32 (0) = 0 from rfl) ?_ ?_
        · intro b6
          exact absurd b6.1 (by decide)
        · intro b6
          refine r_iconst c267_13 rfl ?_
          refine r_goto c267_14 ?_
          exact r_zret c267_18 ⟨rfl, rfl, rfl⟩ (by decide) ⟨rfl, ⟨_, rfl, (by decide), (by omega)⟩, rfl⟩
      · intro b4
        refine r_if_gt c267_10 rfl (show q_w32 (1) = 1 from rfl) ?_ ?_
        · intro b7
          refine r_iconst c267_17 rfl ?_
          exact r_zret c267_18 ⟨rfl, rfl, rfl⟩ (by decide) ⟨rfl, ⟨_, rfl, (by decide), (by omega)⟩, rfl⟩
        · intro b7
          exact absurd b7.1 (by decide)
  · intro b1
    refine r_if_lt c267_3 rfl (show q_w32 (1) = 1 from rfl) ?_ ?_
    · intro b8
      exact absurd b8.1 (by decide)
    · intro b8
      refine r_lload_n c267_6 rfl rfl ?_
      refine r_lload c267_7 rfl rfl ?_
      refine r_lcmpn c267_9 rfl (by first | exact q_w64_id (by omega) (by omega) | exact rfl) (by first | exact q_w64_id (by omega) (by omega) | exact rfl) ?_ ?_ ?_
      · intro b9
        refine r_if_gt c267_10 rfl (show q_w32 (-1) = -1 from rfl) ?_ ?_
        · intro b10
          exact absurd b10.1 (by decide)
        · intro b10
          refine r_iconst c267_13 rfl ?_
          refine r_goto c267_14 ?_
          exact r_zret c267_18 ⟨rfl, rfl, rfl⟩ (by decide) ⟨rfl, ⟨_, rfl, (by decide), (by omega)⟩, rfl⟩
      · intro b9
        refine r_if_gt c267_10 rfl (show q_w32 (0) = 0 from rfl) ?_ ?_
        · intro b11
          exact absurd b11.1 (by decide)
        · intro b11
          refine r_iconst c267_13 rfl ?_
          refine r_goto c267_14 ?_
          exact r_zret c267_18 ⟨rfl, rfl, rfl⟩ (by decide) ⟨rfl, ⟨_, rfl, (by decide), (by omega)⟩, rfl⟩
      · intro b9
        refine r_if_gt c267_10 rfl (show q_w32 (1) = 1 from rfl) ?_ ?_
        · intro b12
          refine r_iconst c267_17 rfl ?_
          exact r_zret c267_18 ⟨rfl, rfl, rfl⟩ (by decide) ⟨rfl, ⟨_, rfl, (by decide), (by omega)⟩, rfl⟩
        · intro b12
          exact absurd b12.1 (by decide)
theorem c258_0 : q_cat 258 0 (.iload_n 1) 1 1 0 (0) := ⟨rfl, rfl⟩
theorem c258_1 : q_cat 258 1 (.ifCond .eq 8) 3 9 0 (0) := ⟨rfl, rfl⟩
theorem c258_4 : q_cat 258 4 (.aload_n 0) 1 0 0 (0) := ⟨rfl, rfl⟩
theorem c258_5 : q_cat 258 5 (.iload_n 2) 1 2 0 (0) := ⟨rfl, rfl⟩
theorem c258_6 : q_cat 258 6 (.putfield 60) 3 9 7 (0) := ⟨rfl, rfl⟩
theorem c258_9 : q_cat 258 9 (.iload_n 1) 1 1 0 (0) := ⟨rfl, rfl⟩
theorem c258_10 : q_cat 258 10 (.ireturn) 1 0 0 (0) := ⟨rfl, rfl⟩
theorem k258 {Γ : q_Γ} (hG : q_GG Γ) {h : q_F} (hZ : q_Bz h) (hR : q_Rb h) {v1 : Int} {v2 : Int} (hz1 : v1 = 0 ∨ v1 = 1) (hr2 : q_r32 v2) :
    q_M Γ q_K 155 258 [(2, Int.ofNat 139), (0, v1), (0, v2)] h (fun t w h' => (t = 1 ∧ (∃ z, w = ((0, z) : q_V) ∧ (z = 0 ∨ z = 1) ∧ (z = v1)) ∧ q_Gr (fun k j => k = 139 ∧ j = 7) h h')) := by
  refine q_M.of (by decide) (Nat.le_of_ble_eq_true rfl) hG ?_
  refine r_iload_n c258_0 rfl rfl ?_
  refine r_if_eq c258_1 rfl (by first | exact q_w32_id (by omega) (by omega) | exact q_w32w _ | exact rfl) ?_ ?_
  · intro b1
    refine r_iload_n c258_9 rfl rfl ?_
    exact r_zret c258_10 ⟨rfl, rfl, rfl⟩ (by first | assumption | omega) ⟨rfl, ⟨_, rfl, (by first | assumption | omega), rfl⟩, (by repeat (first | exact q_Gr.rf | refine q_Gr.tr ?_ (by assumption) (by intro k9 j9 hk9; omega)))⟩
  · intro b1
    refine r_aload_n c258_4 rfl rfl ?_
    refine r_iload_n c258_5 rfl rfl ?_
    refine r_putiw c258_6 rfl rfl rfl (q_Rv0 (fun h9 => absurd h9 (by decide)) (fun _ => ⟨(by first | assumption | omega | exact ⟨q_rg1 _, q_rg2 _⟩ | exact ⟨q_rh1 _, q_rh2 _⟩ | exact q_rj ⟨q_rg1 _, q_rg2 _⟩ | exact q_rgi _ | exact q_rgj _ | exact q_rj (q_rgi _) | exact q_rj (by assumption)), Or.inr (by first | assumption | omega | exact ⟨q_rg1 _, q_rg2 _⟩ | exact ⟨q_rh1 _, q_rh2 _⟩ | exact q_rj ⟨q_rg1 _, q_rg2 _⟩ | exact q_rgi _ | exact q_rgj _ | exact q_rj (q_rgi _) | exact q_rj (by assumption)), by omega⟩) (fun h9 h8 => absurd h9 (by decide)) (fun h9 h8 => absurd h9 (by decide))) rfl ?_
    intro g2 f2 w2
    have m140004f2 := f2.1 140 4 (by omega)
    have m139014f2 := f2.1 139 14 (by omega)
    have m139005f2 := f2.1 139 5 (by omega)
    refine r_iload_n c258_9 rfl rfl ?_
    exact r_zret c258_10 ⟨rfl, rfl, rfl⟩ (by first | assumption | omega) ⟨rfl, ⟨_, rfl, (by first | assumption | omega), rfl⟩, (by repeat (first | exact q_Gr.rf | refine q_Gr.tr ?_ (by assumption) (by intro k9 j9 hk9; omega)))⟩
theorem c303_0 : q_cat 303 0 (.aload_n 0) 1 0 0 (0) := ⟨rfl, rfl⟩
theorem c303_1 : q_cat 303 1 (.getfield 7) 3 9 0 (3) := ⟨rfl, rfl⟩
theorem c303_4 : q_cat 303 4 (.iload_n 1) 1 1 0 (0) := ⟨rfl, rfl⟩
theorem c303_5 : q_cat 303 5 (.laload) 1 0 0 (0) := ⟨rfl, rfl⟩
theorem c303_6 : q_cat 303 6 (.l2i) 1 0 0 (0) := ⟨rfl, rfl⟩
theorem c303_7 : q_cat 303 7 (.ireturn) 1 0 0 (0) := ⟨rfl, rfl⟩
theorem k303 {Γ : q_Γ} (hG : q_GG Γ) {h : q_F} (hZ : q_Bz h) (hR : q_Rb h) {v1 : Int} (hr1 : q_r32 v1) (hp0 : 0 ≤ v1 ∧ v1 < 122) :
    q_M Γ q_K 155 303 [(2, Int.ofNat 139), (0, v1)] h (fun t w h' => (t = 1 ∧ (∃ z, w = ((0, z) : q_V) ∧ q_r32 z ∧ (z = q_w32 (h 140 v1.toNat) ∧ q_Rw v1.toNat z)) ∧ h' = h)) := by
  refine q_M.of (by decide) (Nat.le_of_ble_eq_true rfl) hG ?_
  refine r_aload_n c303_0 rfl rfl ?_
  refine r_getr c303_1 (by first | assumption | omega) (by decide) (by first | assumption | rfl) rfl rfl ?_
  refine r_iload_n c303_4 rfl rfl ?_
  refine r_laldw hR c303_5 (by first | exact q_w32_id (by omega) (by omega) | exact q_w32w _ | exact rfl) (by first | assumption | omega) (by first | assumption | omega) rfl rfl ?_
  intro y1
  refine r_l2i c303_6 rfl rfl ?_
  exact r_iret c303_7 ⟨rfl, rfl, rfl⟩ ⟨rfl, ⟨_, rfl, (by first | assumption | omega | exact ⟨q_rg1 _, q_rg2 _⟩ | exact ⟨q_rh1 _, q_rh2 _⟩ | exact q_rj ⟨q_rg1 _, q_rg2 _⟩ | exact q_rgi _ | exact q_rgj _ | exact q_rj (q_rgi _) | exact q_rj (by assumption)), ⟨rfl, q_Rw_w y1.2⟩⟩, rfl⟩
theorem c333_0 : q_cat 333 0 (.iload_n 0) 1 0 0 (0) := ⟨rfl, rfl⟩
theorem c333_1 : q_cat 333 1 (.ifCond .le 7) 3 8 0 (0) := ⟨rfl, rfl⟩
theorem c333_4 : q_cat 333 4 (.iconst 1) 1 0 0 (0) := ⟨rfl, rfl⟩
theorem c333_5 : q_cat 333 5 (.goto 12) 3 17 0 (0) := ⟨rfl, rfl⟩
theorem c333_8 : q_cat 333 8 (.iload_n 0) 1 0 0 (0) := ⟨rfl, rfl⟩
theorem c333_9 : q_cat 333 9 (.ifCond .ge 7) 3 16 0 (0) := ⟨rfl, rfl⟩
theorem c333_12 : q_cat 333 12 (.iconst (-1)) 1 0 0 (0) := ⟨rfl, rfl⟩
theorem c333_13 : q_cat 333 13 (.goto 4) 3 17 0 (0) := ⟨rfl, rfl⟩
theorem c333_16 : q_cat 333 16 (.iconst 0) 1 0 0 (0) := ⟨rfl, rfl⟩
theorem c333_17 : q_cat 333 17 (.ireturn) 1 0 0 (0) := ⟨rfl, rfl⟩
theorem k333 {Γ : q_Γ} (hG : q_GG Γ) {h : q_F} (hZ : q_Bz h) (hR : q_Rb h) {v0 : Int} (hr0 : q_r32 v0) :
    q_M Γ q_K 155 333 [(0, v0)] h (fun t w h' => (t = 1 ∧ (∃ z, w = ((0, z) : q_V) ∧ q_r32 z ∧ ((z = 1 ∧ 0 < v0) ∨ (z = -1 ∧ v0 < 0) ∨ (z = 0 ∧ v0 = 0))) ∧ h' = h)) := by
  refine q_M.of (by decide) (Nat.le_of_ble_eq_true rfl) hG ?_
  refine r_iload_n c333_0 rfl rfl ?_
  refine r_if_le c333_1 rfl (by first | exact q_w32_id (by omega) (by omega) | exact q_w32w _ | exact rfl) ?_ ?_
  · intro b1
    refine r_iload_n c333_8 rfl rfl ?_
    refine r_if_ge c333_9 rfl (by first | exact q_w32_id (by omega) (by omega) | exact q_w32w _ | exact rfl) ?_ ?_
    · intro b2
      refine r_iconst c333_16 rfl ?_
      exact r_iret c333_17 ⟨rfl, rfl, rfl⟩ ⟨rfl, ⟨_, rfl, (by first | assumption | omega | exact ⟨q_rg1 _, q_rg2 _⟩ | exact ⟨q_rh1 _, q_rh2 _⟩ | exact q_rj ⟨q_rg1 _, q_rg2 _⟩ | exact q_rgi _ | exact q_rgj _ | exact q_rj (q_rgi _) | exact q_rj (by assumption)), (by omega)⟩, rfl⟩
    · intro b2
      refine r_iconst c333_12 rfl ?_
      refine r_goto c333_13 ?_
      exact r_iret c333_17 ⟨rfl, rfl, rfl⟩ ⟨rfl, ⟨_, rfl, (by first | assumption | omega | exact ⟨q_rg1 _, q_rg2 _⟩ | exact ⟨q_rh1 _, q_rh2 _⟩ | exact q_rj ⟨q_rg1 _, q_rg2 _⟩ | exact q_rgi _ | exact q_rgj _ | exact q_rj (q_rgi _) | exact q_rj (by assumption)), (by omega)⟩, rfl⟩
  · intro b1
    refine r_iconst c333_4 rfl ?_
    refine r_goto c333_5 ?_
    exact r_iret c333_17 ⟨rfl, rfl, rfl⟩ ⟨rfl, ⟨_, rfl, (by first | assumption | omega | exact ⟨q_rg1 _, q_rg2 _⟩ | exact ⟨q_rh1 _, q_rh2 _⟩ | exact q_rj ⟨q_rg1 _, q_rg2 _⟩ | exact q_rgi _ | exact q_rgj _ | exact q_rj (q_rgi _) | exact q_rj (by assumption)), (by omega)⟩, rfl⟩
theorem c236_0 : q_cat 236 0 (.iload_n 0) 1 0 0 (0) := ⟨rfl, rfl⟩
theorem c236_1 : q_cat 236 1 (.ifCond .ge 8) 3 9 0 (0) := ⟨rfl, rfl⟩
theorem c236_4 : q_cat 236 4 (.iload_n 0) 1 0 0 (0) := ⟨rfl, rfl⟩
theorem c236_5 : q_cat 236 5 (.ineg) 1 0 0 (0) := ⟨rfl, rfl⟩
theorem c236_6 : q_cat 236 6 (.goto 4) 3 10 0 (0) := ⟨rfl, rfl⟩
theorem c236_9 : q_cat 236 9 (.iload_n 0) 1 0 0 (0) := ⟨rfl, rfl⟩
theorem c236_10 : q_cat 236 10 (.ireturn) 1 0 0 (0) := ⟨rfl, rfl⟩
theorem k236 {Γ : q_Γ} (hG : q_GG Γ) {h : q_F} (hZ : q_Bz h) (hR : q_Rb h) {v0 : Int} (hr0 : q_r32 v0) (hp0 : -1000000 ≤ v0 ∧ v0 ≤ 1000000) :
    q_M Γ q_K 155 236 [(0, v0)] h (fun t w h' => (t = 1 ∧ (∃ z, w = ((0, z) : q_V) ∧ q_r32 z ∧ (0 ≤ z ∧ (z = v0 ∨ z = -v0))) ∧ h' = h)) := by
  refine q_M.of (by decide) (Nat.le_of_ble_eq_true rfl) hG ?_
  refine r_iload_n c236_0 rfl rfl ?_
  refine r_if_ge c236_1 rfl (by first | exact q_w32_id (by omega) (by omega) | exact q_w32w _ | exact rfl) ?_ ?_
  · intro b1
    refine r_iload_n c236_9 rfl rfl ?_
    exact r_iret c236_10 ⟨rfl, rfl, rfl⟩ ⟨rfl, ⟨_, rfl, (by first | assumption | omega | exact ⟨q_rg1 _, q_rg2 _⟩ | exact ⟨q_rh1 _, q_rh2 _⟩ | exact q_rj ⟨q_rg1 _, q_rg2 _⟩ | exact q_rgi _ | exact q_rgj _ | exact q_rj (q_rgi _) | exact q_rj (by assumption)), (by omega)⟩, rfl⟩
  · intro b1
    refine r_iload_n c236_4 rfl rfl ?_
    refine r_ineg c236_5 (by first | exact q_neg (by omega) (by omega) | exact rfl) rfl ?_
    refine r_goto c236_6 ?_
    exact r_iret c236_10 ⟨rfl, rfl, rfl⟩ ⟨rfl, ⟨_, rfl, (by first | assumption | omega | exact ⟨q_rg1 _, q_rg2 _⟩ | exact ⟨q_rh1 _, q_rh2 _⟩ | exact q_rj ⟨q_rg1 _, q_rg2 _⟩ | exact q_rgi _ | exact q_rgj _ | exact q_rj (q_rgi _) | exact q_rj (by assumption)), (by omega)⟩, rfl⟩
theorem c318_0 : q_cat 318 0 (.aload_n 0) 1 0 0 (0) := ⟨rfl, rfl⟩
theorem c318_1 : q_cat 318 1 (.getfield 7) 3 9 0 (3) := ⟨rfl, rfl⟩
theorem c318_4 : q_cat 318 4 (.bipush 38) 2 0 0 (0) := ⟨rfl, rfl⟩
theorem c318_6 : q_cat 318 6 (.iload_n 1) 1 1 0 (0) := ⟨rfl, rfl⟩
theorem c318_7 : q_cat 318 7 (.iadd) 1 0 0 (0) := ⟨rfl, rfl⟩
theorem c318_8 : q_cat 318 8 (.laload) 1 0 0 (0) := ⟨rfl, rfl⟩
theorem c318_9 : q_cat 318 9 (.ldc2_w 71) 3 0 0 (2) := ⟨rfl, rfl⟩
theorem c318_12 : q_cat 318 12 (.lcmp) 1 0 0 (0) := ⟨rfl, rfl⟩
theorem c318_13 : q_cat 318 13 (.ifCond .eq 31) 3 44 0 (0) := ⟨rfl, rfl⟩
theorem c318_16 : q_cat 318 16 (.aload_n 0) 1 0 0 (0) := ⟨rfl, rfl⟩
theorem c318_17 : q_cat 318 17 (.getfield 7) 3 9 0 (3) := ⟨rfl, rfl⟩
theorem c318_20 : q_cat 318 20 (.bipush 38) 2 0 0 (0) := ⟨rfl, rfl⟩
theorem c318_22 : q_cat 318 22 (.iload_n 1) 1 1 0 (0) := ⟨rfl, rfl⟩
theorem c318_23 : q_cat 318 23 (.iadd) 1 0 0 (0) := ⟨rfl, rfl⟩
theorem c318_24 : q_cat 318 24 (.laload) 1 0 0 (0) := ⟨rfl, rfl⟩
theorem c318_25 : q_cat 318 25 (.lconst 0) 1 0 0 (0) := ⟨rfl, rfl⟩
theorem c318_26 : q_cat 318 26 (.lcmp) 1 0 0 (0) := ⟨rfl, rfl⟩
theorem c318_27 : q_cat 318 27 (.ifCond .ne 21) 3 48 0 (0) := ⟨rfl, rfl⟩
theorem c318_30 : q_cat 318 30 (.aload_n 0) 1 0 0 (0) := ⟨rfl, rfl⟩
theorem c318_31 : q_cat 318 31 (.getfield 7) 3 9 0 (3) := ⟨rfl, rfl⟩
theorem c318_34 : q_cat 318 34 (.bipush 53) 2 0 0 (0) := ⟨rfl, rfl⟩
theorem c318_36 : q_cat 318 36 (.iload_n 1) 1 1 0 (0) := ⟨rfl, rfl⟩
theorem c318_37 : q_cat 318 37 (.iadd) 1 0 0 (0) := ⟨rfl, rfl⟩
theorem c318_38 : q_cat 318 38 (.laload) 1 0 0 (0) := ⟨rfl, rfl⟩
theorem c318_39 : q_cat 318 39 (.lconst 1) 1 0 0 (1) := ⟨rfl, rfl⟩
theorem c318_40 : q_cat 318 40 (.lcmp) 1 0 0 (0) := ⟨rfl, rfl⟩
theorem c318_41 : q_cat 318 41 (.ifCond .ne 7) 3 48 0 (0) := ⟨rfl, rfl⟩
theorem c318_44 : q_cat 318 44 (.iconst 1) 1 0 0 (0) := ⟨rfl, rfl⟩
theorem c318_45 : q_cat 318 45 (.goto 4) 3 49 0 (0) := ⟨rfl, rfl⟩
theorem c318_48 : q_cat 318 48 (.iconst 0) 1 0 0 (0) := ⟨rfl, rfl⟩
theorem c318_49 : q_cat 318 49 (.ireturn) 1 0 0 (0) := ⟨rfl, rfl⟩
theorem k318 {Γ : q_Γ} (hG : q_GG Γ) {h : q_F} (hZ : q_Bz h) (hR : q_Rb h) {v1 : Int} (hr1 : q_r32 v1) (hp0 : 0 ≤ v1 ∧ v1 < 3) :
    q_M Γ q_K 155 318 [(2, Int.ofNat 139), (0, v1)] h (fun t w h' => (t = 1 ∧ (∃ z, w = ((0, z) : q_V) ∧ (z = 0 ∨ z = 1)) ∧ h' = h)) := by
  refine q_M.of (by decide) (Nat.le_of_ble_eq_true rfl) hG ?_
  refine r_aload_n c318_0 rfl rfl ?_
  refine r_getr c318_1 (by first | assumption | omega) (by decide) (by first | assumption | rfl) rfl rfl ?_
  refine r_bipush c318_4 rfl ?_
  refine r_iload_n c318_6 rfl rfl ?_
  refine r_iadd c318_7 (by first | exact q_w32_id (by omega) (by omega) | exact q_w32w _ | exact rfl) rfl ?_
  refine r_laldw hR c318_8 (by first | exact q_w32_id (by omega) (by omega) | exact q_w32w _ | exact rfl) (by first | assumption | omega) (by first | assumption | omega) rfl rfl ?_
  intro y1
  refine r_ldc2 c318_9 rfl rfl ?_
  refine r_lcmpn c318_12 rfl (by first | exact q_w64_id (by omega) (by omega) | exact rfl) (show q_w64 (2) = 2 from rfl) ?_ ?_ ?_
  · intro b2
    refine r_if_eq c318_13 rfl (show q_w32 (-1) = -1 from rfl) ?_ ?_
    · intro b3
      exact absurd b3.1 (by decide)
    · intro b3
      refine r_aload_n c318_16 rfl rfl ?_
      refine r_getr c318_17 (by first | assumption | omega) (by decide) (by first | assumption | rfl) rfl rfl ?_
      refine r_bipush c318_20 rfl ?_
      refine r_iload_n c318_22 rfl rfl ?_
      refine r_iadd c318_23 (by first | exact q_w32_id (by omega) (by omega) | exact q_w32w _ | exact rfl) rfl ?_
      refine r_laldw hR c318_24 (by first | exact q_w32_id (by omega) (by omega) | exact q_w32w _ | exact rfl) (by first | assumption | omega) (by first | assumption | omega) rfl rfl ?_
      intro y4
      refine r_lconst c318_25 rfl ?_
      refine r_lcmpn c318_26 rfl (by first | exact q_w64_id (by omega) (by omega) | exact rfl) (show q_w64 (0) = 0 from rfl) ?_ ?_ ?_
      · intro b5
        refine r_if_ne c318_27 rfl (show q_w32 (-1) = -1 from rfl) ?_ ?_
        · intro b6
          refine r_iconst c318_48 rfl ?_
          exact r_zret c318_49 ⟨rfl, rfl, rfl⟩ (by decide) ⟨rfl, ⟨_, rfl, (by decide)⟩, rfl⟩
        · intro b6
          exact absurd b6.1 (by decide)
      · intro b5
        refine r_if_ne c318_27 rfl (show q_w32 (0) = 0 from rfl) ?_ ?_
        · intro b7
          exact absurd b7.1 (by decide)
        · intro b7
          refine r_aload_n c318_30 rfl rfl ?_
          refine r_getr c318_31 (by first | assumption | omega) (by decide) (by first | assumption | rfl) rfl rfl ?_
          refine r_bipush c318_34 rfl ?_
          refine r_iload_n c318_36 rfl rfl ?_
          refine r_iadd c318_37 (by first | exact q_w32_id (by omega) (by omega) | exact q_w32w _ | exact rfl) rfl ?_
          refine r_laldw hR c318_38 (by first | exact q_w32_id (by omega) (by omega) | exact q_w32w _ | exact rfl) (by first | assumption | omega) (by first | assumption | omega) rfl rfl ?_
          intro y8
          refine r_lconst c318_39 rfl ?_
          refine r_lcmpn c318_40 rfl (by first | exact q_w64_id (by omega) (by omega) | exact rfl) (show q_w64 (1) = 1 from rfl) ?_ ?_ ?_
          · intro b9
            refine r_if_ne c318_41 rfl (show q_w32 (-1) = -1 from rfl) ?_ ?_
            · intro b10
              refine r_iconst c318_48 rfl ?_
              exact r_zret c318_49 ⟨rfl, rfl, rfl⟩ (by decide) ⟨rfl, ⟨_, rfl, (by decide)⟩, rfl⟩
            · intro b10
              exact absurd b10.1 (by decide)
          · intro b9
            refine r_if_ne c318_41 rfl (show q_w32 (0) = 0 from rfl) ?_ ?_
            · intro b11
              exact absurd b11.1 (by decide)
            · intro b11
              refine r_iconst c318_44 rfl ?_
              refine r_goto c318_45 ?_
              exact r_zret c318_49 ⟨rfl, rfl, rfl⟩ (by decide) ⟨rfl, ⟨_, rfl, (by decide)⟩, rfl⟩
          · intro b9
            refine r_if_ne c318_41 rfl (show q_w32 (1) = 1 from rfl) ?_ ?_
            · intro b12
              refine r_iconst c318_48 rfl ?_
              exact r_zret c318_49 ⟨rfl, rfl, rfl⟩ (by decide) ⟨rfl, ⟨_, rfl, (by decide)⟩, rfl⟩
            · intro b12
              exact absurd b12.1 (by decide)
      · intro b5
        refine r_if_ne c318_27 rfl (show q_w32 (1) = 1 from rfl) ?_ ?_
        · intro b13
          refine r_iconst c318_48 rfl ?_
          exact r_zret c318_49 ⟨rfl, rfl, rfl⟩ (by decide) ⟨rfl, ⟨_, rfl, (by decide)⟩, rfl⟩
        · intro b13
          exact absurd b13.1 (by decide)
  · intro b2
    refine r_if_eq c318_13 rfl (show q_w32 (0) = 0 from rfl) ?_ ?_
    · intro b14
      refine r_iconst c318_44 rfl ?_
      refine r_goto c318_45 ?_
      exact r_zret c318_49 ⟨rfl, rfl, rfl⟩ (by decide) ⟨rfl, ⟨_, rfl, (by decide)⟩, rfl⟩
    · intro b14
      exact absurd b14.1 (by decide)
  · intro b2
    refine r_if_eq c318_13 rfl (show q_w32 (1) = 1 from rfl) ?_ ?_
    · intro b15
      exact absurd b15.1 (by decide)
    · intro b15
      refine r_aload_n c318_16 rfl rfl ?_
      refine r_getr c318_17 (by first | assumption | omega) (by decide) (by first | assumption | rfl) rfl rfl ?_
      refine r_bipush c318_20 rfl ?_
      refine r_iload_n c318_22 rfl rfl ?_
      refine r_iadd c318_23 (by first | exact q_w32_id (by omega) (by omega) | exact q_w32w _ | exact rfl) rfl ?_
      refine r_laldw hR c318_24 (by first | exact q_w32_id (by omega) (by omega) | exact q_w32w _ | exact rfl) (by first | assumption | omega) (by first | assumption | omega) rfl rfl ?_
      intro y16
      refine r_lconst c318_25 rfl ?_
      refine r_lcmpn c318_26 rfl (by first | exact q_w64_id (by omega) (by omega) | exact rfl) (show q_w64 (0) = 0 from rfl) ?_ ?_ ?_
      · intro b17
        refine r_if_ne c318_27 rfl (show q_w32 (-1) = -1 from rfl) ?_ ?_
        · intro b18
          refine r_iconst c318_48 rfl ?_
          exact r_zret c318_49 ⟨rfl, rfl, rfl⟩ (by decide) ⟨rfl, ⟨_, rfl, (by decide)⟩, rfl⟩
        · intro b18
          exact absurd b18.1 (by decide)
      · intro b17
        refine r_if_ne c318_27 rfl (show q_w32 (0) = 0 from rfl) ?_ ?_
        · intro b19
          exact absurd b19.1 (by decide)
        · intro b19
          refine r_aload_n c318_30 rfl rfl ?_
          refine r_getr c318_31 (by first | assumption | omega) (by decide) (by first | assumption | rfl) rfl rfl ?_
          refine r_bipush c318_34 rfl ?_
          refine r_iload_n c318_36 rfl rfl ?_
          refine r_iadd c318_37 (by first | exact q_w32_id (by omega) (by omega) | exact q_w32w _ | exact rfl) rfl ?_
          refine r_laldw hR c318_38 (by first | exact q_w32_id (by omega) (by omega) | exact q_w32w _ | exact rfl) (by first | assumption | omega) (by first | assumption | omega) rfl rfl ?_
          intro y20
          refine r_lconst c318_39 rfl ?_
          refine r_lcmpn c318_40 rfl (by first | exact q_w64_id (by omega) (by omega) | exact rfl) (show q_w64 (1) = 1 from rfl) ?_ ?_ ?_
          · intro b21
            refine r_if_ne c318_41 rfl (show q_w32 (-1) = -1 from rfl) ?_ ?_
            · intro b22
              refine r_iconst c318_48 rfl ?_
              exact r_zret c318_49 ⟨rfl, rfl, rfl⟩ (by decide) ⟨rfl, ⟨_, rfl, (by decide)⟩, rfl⟩
            · intro b22
              exact absurd b22.1 (by decide)
          · intro b21
            refine r_if_ne c318_41 rfl (show q_w32 (0) = 0 from rfl) ?_ ?_
            · intro b23
              exact absurd b23.1 (by decide)
            · intro b23
              refine r_iconst c318_44 rfl ?_
              refine r_goto c318_45 ?_
              exact r_zret c318_49 ⟨rfl, rfl, rfl⟩ (by decide) ⟨rfl, ⟨_, rfl, (by decide)⟩, rfl⟩
          · intro b21
            refine r_if_ne c318_41 rfl (show q_w32 (1) = 1 from rfl) ?_ ?_
            · intro b24
              refine r_iconst c318_48 rfl ?_
              exact r_zret c318_49 ⟨rfl, rfl, rfl⟩ (by decide) ⟨rfl, ⟨_, rfl, (by decide)⟩, rfl⟩
            · intro b24
              exact absurd b24.1 (by decide)
      · intro b17
        refine r_if_ne c318_27 rfl (show q_w32 (1) = 1 from rfl) ?_ ?_
        · intro b25
          refine r_iconst c318_48 rfl ?_
          exact r_zret c318_49 ⟨rfl, rfl, rfl⟩ (by decide) ⟨rfl, ⟨_, rfl, (by decide)⟩, rfl⟩
        · intro b25
          exact absurd b25.1 (by decide)
theorem c335_0 : q_cat 335 0 (.ldc2_w 80) 3 0 0 (1000000) := ⟨rfl, rfl⟩
theorem c335_3 : q_cat 335 3 (.aload_n 0) 1 0 0 (0) := ⟨rfl, rfl⟩
theorem c335_4 : q_cat 335 4 (.getfield 7) 3 9 0 (3) := ⟨rfl, rfl⟩
theorem c335_7 : q_cat 335 7 (.iconst 0) 1 0 0 (0) := ⟨rfl, rfl⟩
theorem c335_8 : q_cat 335 8 (.laload) 1 0 0 (0) := ⟨rfl, rfl⟩
theorem c335_9 : q_cat 335 9 (.ldiv) 1 0 0 (0) := ⟨rfl, rfl⟩
theorem c335_10 : q_cat 335 10 (.lreturn) 1 0 0 (0) := ⟨rfl, rfl⟩
theorem k335 {Γ : q_Γ} (hG : q_GG Γ) {h : q_F} (hZ : q_Bz h) (hR : q_Rb h)   :
    q_M Γ q_K 155 335 [(2, Int.ofNat 139)] h (fun t w h' => (t = 1 ∧ (∃ z, w = ((1, z) : q_V) ∧ q_r64 z) ∧ h' = h)) := by
  refine q_M.of (by decide) (Nat.le_of_ble_eq_true rfl) hG ?_
  refine r_ldc2 c335_0 rfl rfl ?_
  refine r_aload_n c335_3 rfl rfl ?_
  refine r_getr c335_4 (by first | assumption | omega) (by decide) (by first | assumption | rfl) rfl rfl ?_
  refine r_iconst c335_7 rfl ?_
  refine r_laldw hR c335_8 (show q_w32 (0) = 0 from rfl) (by first | assumption | omega) (by first | assumption | omega) (show Int.toNat 0 = 0 from rfl) rfl ?_
  intro y1
  refine r_ldivn c335_9 (by first | exact q_w64_id (by omega) (by omega) | exact rfl) (by first | assumption | omega) rfl rfl ?_
  exact r_lret c335_10 ⟨rfl, rfl, rfl⟩ ⟨rfl, ⟨_, rfl, (by first | assumption | omega | exact ⟨q_rg1 _, q_rg2 _⟩ | exact ⟨q_rh1 _, q_rh2 _⟩ | exact q_rj ⟨q_rg1 _, q_rg2 _⟩ | exact q_rgi _ | exact q_rgj _ | exact q_rj (q_rgi _) | exact q_rj (by assumption))⟩, rfl⟩
theorem c265_0 : q_cat 265 0 (.iconst 0) 1 0 0 (0) := ⟨rfl, rfl⟩
theorem c265_1 : q_cat 265 1 (.istore_n 1) 1 1 0 (0) := ⟨rfl, rfl⟩
theorem c265_2 : q_cat 265 2 (.iconst 0) 1 0 0 (0) := ⟨rfl, rfl⟩
theorem c265_3 : q_cat 265 3 (.istore_n 2) 1 2 0 (0) := ⟨rfl, rfl⟩
theorem c265_4 : q_cat 265 4 (.iload_n 2) 1 2 0 (0) := ⟨rfl, rfl⟩
theorem c265_5 : q_cat 265 5 (.iconst 3) 1 0 0 (0) := ⟨rfl, rfl⟩
theorem c265_6 : q_cat 265 6 (.if_icmp .ge 20) 3 26 0 (0) := ⟨rfl, rfl⟩
theorem c265_9 : q_cat 265 9 (.iload_n 1) 1 1 0 (0) := ⟨rfl, rfl⟩
theorem c265_10 : q_cat 265 10 (.aload_n 0) 1 0 0 (0) := ⟨rfl, rfl⟩
theorem c265_11 : q_cat 265 11 (.bipush 41) 2 0 0 (0) := ⟨rfl, rfl⟩
theorem c265_13 : q_cat 265 13 (.iload_n 2) 1 2 0 (0) := ⟨rfl, rfl⟩
theorem c265_14 : q_cat 265 14 (.iadd) 1 0 0 (0) := ⟨rfl, rfl⟩
theorem c265_15 : q_cat 265 15 (.invokevirtual 82) 3 303 0 (0) := ⟨rfl, rfl⟩
theorem c265_18 : q_cat 265 18 (.iadd) 1 0 0 (0) := ⟨rfl, rfl⟩
theorem c265_19 : q_cat 265 19 (.istore_n 1) 1 1 0 (0) := ⟨rfl, rfl⟩
theorem c265_20 : q_cat 265 20 (.iinc 2 1) 3 2 0 (0) := ⟨rfl, rfl⟩
theorem c265_23 : q_cat 265 23 (.goto (-19)) 3 4 0 (0) := ⟨rfl, rfl⟩
theorem c265_26 : q_cat 265 26 (.iload_n 1) 1 1 0 (0) := ⟨rfl, rfl⟩
theorem c265_27 : q_cat 265 27 (.ireturn) 1 0 0 (0) := ⟨rfl, rfl⟩
theorem l265_4 {Γ : q_Γ} (hG : q_GG Γ) {h0 : q_F} (hZ : q_Bz h0) (hR : q_Rb h0)  
    (hx26 : ∀ {u2 u1 : Int} {h : q_F}, h = h0 → q_r32 u2 → q_r32 u1 → q_R Γ q_K 155 265 (fun t w h' => (t = 1 ∧ (∃ z, w = ((0, z) : q_V) ∧ q_r32 z) ∧ h' = h0)) (26, [(2, (0, u2)), (1, (0, u1)), (0, (2, Int.ofNat 139))], [], q_hp q_K 155 h, [], 0, 0))
    : ∀ (m : Nat) {u2 u1 : Int} {h : q_F}, (0 ≤ u2 ∧ u2 < 2147483648) → h = h0 → 2147483648 - u2 < (m : Int) → q_r32 u2 → q_r32 u1 → q_R Γ q_K 155 265 (fun t w h' => (t = 1 ∧ (∃ z, w = ((0, z) : q_V) ∧ q_r32 z) ∧ h' = h0)) (4, [(2, (0, u2)), (1, (0, u1)), (0, (2, Int.ofNat 139))], [], q_hp q_K 155 h, [], 0, 0)   := by
  intro m
  induction m with
  | zero =>
    intro u2 u1 h hinv hf hmu rr2 rr1
    exact absurd hmu (by omega)
  | succ m ih =>
    intro u2 u1 h hinv hf hmu rr2 rr1
    subst hf
    refine r_iload_n c265_4 rfl rfl ?_
    refine r_iconst c265_5 rfl ?_
    refine r_ic_ge c265_6 rfl (by first | exact q_w32_id (by omega) (by omega) | exact q_w32w _ | exact rfl) (show q_w32 (3) = 3 from rfl) ?_ ?_
    · intro b1
      refine q_R.wk (ks := [2, 1, 0]) (lo' := [(2, _), (1, _), (0, _)]) rfl ?_
      exact hx26 rfl (by first | assumption | omega | exact ⟨q_rg1 _, q_rg2 _⟩ | exact ⟨q_rh1 _, q_rh2 _⟩ | exact q_rj ⟨q_rg1 _, q_rg2 _⟩ | exact q_rgi _ | exact q_rgj _ | exact q_rj (q_rgi _) | exact q_rj (by assumption)) (by first | assumption | omega | exact ⟨q_rg1 _, q_rg2 _⟩ | exact ⟨q_rh1 _, q_rh2 _⟩ | exact q_rj ⟨q_rg1 _, q_rg2 _⟩ | exact q_rgi _ | exact q_rgj _ | exact q_rj (q_rgi _) | exact q_rj (by assumption))
    · intro b1
      refine r_iload_n c265_9 rfl rfl ?_
      refine r_aload_n c265_10 rfl rfl ?_
      refine r_bipush c265_11 rfl ?_
      refine r_iload_n c265_13 rfl rfl ?_
      refine r_iadd c265_14 (by first | exact q_w32_id (by omega) (by omega) | exact q_w32w _ | exact rfl) rfl ?_
      refine r_vcG c265_15 (by first | assumption | omega) (by decide) (by first | assumption | rfl) rfl rfl rfl (k303 hG hZ hR (by first | assumption | omega | exact ⟨q_rg1 _, q_rg2 _⟩ | exact ⟨q_rh1 _, q_rh2 _⟩ | exact q_rj ⟨q_rg1 _, q_rg2 _⟩ | exact q_rgi _ | exact q_rgj _ | exact q_rj (q_rgi _) | exact q_rj (by assumption)) (by first | assumption | omega)) ?_
      intro t2 w2 g2 p2
      obtain ⟨rfl, ⟨z2, rfl, hv2, hs2⟩, e2⟩ := p2
      have q92 : h = g2 := e2.symm
      subst q92
      refine Or.inr (Or.inl ⟨rfl, ?_⟩)
      refine r_iadd c265_18 (by first | exact q_w32_id (by omega) (by omega) | exact q_w32w _ | exact rfl) rfl ?_
      refine r_istore_n c265_19 (lo' := [(1, _), (2, _), (0, _)]) rfl rfl rfl ?_
      refine r_iinc c265_20 rfl (by first | exact q_w32_id (by omega) (by omega) | exact q_w32w _ | exact rfl) (lo' := [(2, _), (1, _), (0, _)]) rfl rfl rfl ?_
      refine r_goto c265_23 ?_
      refine q_R.wk (ks := [2, 1, 0]) (lo' := [(2, _), (1, _), (0, _)]) rfl ?_
      exact ih (by first | omega | exact ⟨q_rg1 _, q_rg2 _⟩) rfl (by omega) (by first | assumption | omega | exact ⟨q_rg1 _, q_rg2 _⟩ | exact ⟨q_rh1 _, q_rh2 _⟩ | exact q_rj ⟨q_rg1 _, q_rg2 _⟩ | exact q_rgi _ | exact q_rgj _ | exact q_rj (q_rgi _) | exact q_rj (by assumption)) (by first | assumption | omega | exact ⟨q_rg1 _, q_rg2 _⟩ | exact ⟨q_rh1 _, q_rh2 _⟩ | exact q_rj ⟨q_rg1 _, q_rg2 _⟩ | exact q_rgi _ | exact q_rgj _ | exact q_rj (q_rgi _) | exact q_rj (by assumption))

theorem k265 {Γ : q_Γ} (hG : q_GG Γ) {h : q_F} (hZ : q_Bz h) (hR : q_Rb h)   :
    q_M Γ q_K 155 265 [(2, Int.ofNat 139)] h (fun t w h' => (t = 1 ∧ (∃ z, w = ((0, z) : q_V) ∧ q_r32 z) ∧ h' = h)) := by
  refine q_M.of (by decide) (Nat.le_of_ble_eq_true rfl) hG ?_
  refine r_iconst c265_0 rfl ?_
  refine r_istore_n c265_1 (lo' := [(1, _), (0, _)]) rfl rfl rfl ?_
  refine r_iconst c265_2 rfl ?_
  refine r_istore_n c265_3 (lo' := [(2, _), (1, _), (0, _)]) rfl rfl rfl ?_
  refine q_R.wk (ks := [2, 1, 0]) (lo' := [(2, _), (1, _), (0, _)]) rfl ?_
  refine l265_4 hG hZ hR  ?_ 4294967298 (by first | omega | exact ⟨q_rg1 _, q_rg2 _⟩) rfl (q_mu (by first | omega | exact ⟨q_rg1 _, q_rg2 _⟩)) (by first | assumption | omega | exact ⟨q_rg1 _, q_rg2 _⟩ | exact ⟨q_rh1 _, q_rh2 _⟩ | exact q_rj ⟨q_rg1 _, q_rg2 _⟩ | exact q_rgi _ | exact q_rgj _ | exact q_rj (q_rgi _) | exact q_rj (by assumption)) (by first | assumption | omega | exact ⟨q_rg1 _, q_rg2 _⟩ | exact ⟨q_rh1 _, q_rh2 _⟩ | exact q_rj ⟨q_rg1 _, q_rg2 _⟩ | exact q_rgi _ | exact q_rgj _ | exact q_rj (q_rgi _) | exact q_rj (by assumption))
  · intro u2_1 u1_1 g1 f1 rr2_1 rr1_1
    have q91 : h = g1 := f1.symm
    subst q91
    refine r_iload_n c265_26 rfl rfl ?_
    exact r_iret c265_27 ⟨rfl, rfl, rfl⟩ ⟨rfl, ⟨_, rfl, (by first | assumption | omega | exact ⟨q_rg1 _, q_rg2 _⟩ | exact ⟨q_rh1 _, q_rh2 _⟩ | exact q_rj ⟨q_rg1 _, q_rg2 _⟩ | exact q_rgi _ | exact q_rgj _ | exact q_rj (q_rgi _) | exact q_rj (by assumption))⟩, rfl⟩
theorem c247_0 : q_cat 247 0 (.iconst 0) 1 0 0 (0) := ⟨rfl, rfl⟩
theorem c247_1 : q_cat 247 1 (.istore_n 1) 1 1 0 (0) := ⟨rfl, rfl⟩
theorem c247_2 : q_cat 247 2 (.iload_n 1) 1 1 0 (0) := ⟨rfl, rfl⟩
theorem c247_3 : q_cat 247 3 (.iconst 3) 1 0 0 (0) := ⟨rfl, rfl⟩
theorem c247_4 : q_cat 247 4 (.if_icmp .ge 45) 3 49 0 (0) := ⟨rfl, rfl⟩
theorem c247_7 : q_cat 247 7 (.aload_n 0) 1 0 0 (0) := ⟨rfl, rfl⟩
theorem c247_8 : q_cat 247 8 (.getfield 7) 3 9 0 (3) := ⟨rfl, rfl⟩
theorem c247_11 : q_cat 247 11 (.bipush 53) 2 0 0 (0) := ⟨rfl, rfl⟩
theorem c247_13 : q_cat 247 13 (.iload_n 1) 1 1 0 (0) := ⟨rfl, rfl⟩
theorem c247_14 : q_cat 247 14 (.iadd) 1 0 0 (0) := ⟨rfl, rfl⟩
theorem c247_15 : q_cat 247 15 (.aload_n 0) 1 0 0 (0) := ⟨rfl, rfl⟩
theorem c247_16 : q_cat 247 16 (.getfield 7) 3 9 0 (3) := ⟨rfl, rfl⟩
theorem c247_19 : q_cat 247 19 (.bipush 26) 2 0 0 (0) := ⟨rfl, rfl⟩
theorem c247_21 : q_cat 247 21 (.iload_n 1) 1 1 0 (0) := ⟨rfl, rfl⟩
theorem c247_22 : q_cat 247 22 (.iadd) 1 0 0 (0) := ⟨rfl, rfl⟩
theorem c247_23 : q_cat 247 23 (.laload) 1 0 0 (0) := ⟨rfl, rfl⟩
theorem c247_24 : q_cat 247 24 (.aload_n 0) 1 0 0 (0) := ⟨rfl, rfl⟩
theorem c247_25 : q_cat 247 25 (.getfield 7) 3 9 0 (3) := ⟨rfl, rfl⟩
theorem c247_28 : q_cat 247 28 (.bipush 20) 2 0 0 (0) := ⟨rfl, rfl⟩
theorem c247_30 : q_cat 247 30 (.iload_n 1) 1 1 0 (0) := ⟨rfl, rfl⟩
theorem c247_31 : q_cat 247 31 (.iadd) 1 0 0 (0) := ⟨rfl, rfl⟩
theorem c247_32 : q_cat 247 32 (.laload) 1 0 0 (0) := ⟨rfl, rfl⟩
theorem c247_33 : q_cat 247 33 (.lcmp) 1 0 0 (0) := ⟨rfl, rfl⟩
theorem c247_34 : q_cat 247 34 (.ifCond .gt 7) 3 41 0 (0) := ⟨rfl, rfl⟩
theorem c247_37 : q_cat 247 37 (.lconst 1) 1 0 0 (1) := ⟨rfl, rfl⟩
theorem c247_38 : q_cat 247 38 (.goto 4) 3 42 0 (0) := ⟨rfl, rfl⟩
theorem c247_41 : q_cat 247 41 (.lconst 0) 1 0 0 (0) := ⟨rfl, rfl⟩
theorem c247_42 : q_cat 247 42 (.lastore) 1 0 0 (0) := ⟨rfl, rfl⟩
theorem c247_43 : q_cat 247 43 (.iinc 1 1) 3 1 0 (0) := ⟨rfl, rfl⟩
theorem c247_46 : q_cat 247 46 (.goto (-44)) 3 2 0 (0) := ⟨rfl, rfl⟩
theorem c247_49 : q_cat 247 49 (.return_) 1 0 0 (0) := ⟨rfl, rfl⟩
theorem l247_2 {Γ : q_Γ} (hG : q_GG Γ) {h0 : q_F} (hZ : q_Bz h0) (hR : q_Rb h0)  
    (hx49 : ∀ {u1 : Int} {h : q_F}, q_Gr (fun k j => k = 140 ∧ 53 ≤ j ∧ j ≤ 55) h0 h → q_r32 u1 → q_R Γ q_K 155 247 (fun t w h' => (t = 0 ∧ q_Gr (fun k j => k = 140 ∧ 53 ≤ j ∧ j ≤ 55) h0 h')) (49, [(1, (0, u1)), (0, (2, Int.ofNat 139))], [], q_hp q_K 155 h, [], 0, 0))
    : ∀ (m : Nat) {u1 : Int} {h : q_F}, (0 ≤ u1 ∧ u1 < 2147483648) → q_Gr (fun k j => k = 140 ∧ 53 ≤ j ∧ j ≤ 55) h0 h → 2147483648 - u1 < (m : Int) → q_r32 u1 → q_R Γ q_K 155 247 (fun t w h' => (t = 0 ∧ q_Gr (fun k j => k = 140 ∧ 53 ≤ j ∧ j ≤ 55) h0 h')) (2, [(1, (0, u1)), (0, (2, Int.ofNat 139))], [], q_hp q_K 155 h, [], 0, 0)   := by
  intro m
  induction m with
  | zero =>
    intro u1 h hinv hf hmu rr1
    exact absurd hmu (by omega)
  | succ m ih =>
    intro u1 h hinv hf hmu rr1
    refine r_iload_n c247_2 rfl rfl ?_
    refine r_iconst c247_3 rfl ?_
    refine r_ic_ge c247_4 rfl (by first | exact q_w32_id (by omega) (by omega) | exact q_w32w _ | exact rfl) (show q_w32 (3) = 3 from rfl) ?_ ?_
    · intro b1
      refine q_R.wk (ks := [1, 0]) (lo' := [(1, _), (0, _)]) rfl ?_
      exact hx49 (by repeat (first | exact q_Gr.rf | refine q_Gr.tr ?_ (by assumption) (by intro k9 j9 hk9; omega))) (by first | assumption | omega | exact ⟨q_rg1 _, q_rg2 _⟩ | exact ⟨q_rh1 _, q_rh2 _⟩ | exact q_rj ⟨q_rg1 _, q_rg2 _⟩ | exact q_rgi _ | exact q_rgj _ | exact q_rj (q_rgi _) | exact q_rj (by assumption))
    · intro b1
      refine r_aload_n c247_7 rfl rfl ?_
      refine r_getr c247_8 (by first | assumption | omega) (by decide) (by first | assumption | rfl) rfl rfl ?_
      refine r_bipush c247_11 rfl ?_
      refine r_iload_n c247_13 rfl rfl ?_
      refine r_iadd c247_14 (by first | exact q_w32_id (by omega) (by omega) | exact q_w32w _ | exact rfl) rfl ?_
      refine r_aload_n c247_15 rfl rfl ?_
      refine r_getr c247_16 (by first | assumption | omega) (by decide) (by first | assumption | rfl) rfl rfl ?_
      refine r_bipush c247_19 rfl ?_
      refine r_iload_n c247_21 rfl rfl ?_
      refine r_iadd c247_22 (by first | exact q_w32_id (by omega) (by omega) | exact q_w32w _ | exact rfl) rfl ?_
      refine r_laldw (q_Gr.rb (S := fun k j => k = 140 ∧ 53 ≤ j ∧ j ≤ 55) hR (by repeat (first | exact q_Gr.rf | refine q_Gr.tr ?_ (by assumption) (by intro k9 j9 hk9; omega)))) c247_23 (by first | exact q_w32_id (by omega) (by omega) | exact q_w32w _ | exact rfl) (by first | assumption | omega) (by first | assumption | omega) rfl rfl ?_
      intro y2
      refine r_aload_n c247_24 rfl rfl ?_
      refine r_getr c247_25 (by first | assumption | omega) (by decide) (by first | assumption | rfl) rfl rfl ?_
      refine r_bipush c247_28 rfl ?_
      refine r_iload_n c247_30 rfl rfl ?_
      refine r_iadd c247_31 (by first | exact q_w32_id (by omega) (by omega) | exact q_w32w _ | exact rfl) rfl ?_
      refine r_laldw (q_Gr.rb (S := fun k j => k = 140 ∧ 53 ≤ j ∧ j ≤ 55) hR (by repeat (first | exact q_Gr.rf | refine q_Gr.tr ?_ (by assumption) (by intro k9 j9 hk9; omega)))) c247_32 (by first | exact q_w32_id (by omega) (by omega) | exact q_w32w _ | exact rfl) (by first | assumption | omega) (by first | assumption | omega) rfl rfl ?_
      intro y3
      refine r_lcmpn c247_33 rfl (by first | exact q_w64_id (by omega) (by omega) | exact rfl) (by first | exact q_w64_id (by omega) (by omega) | exact rfl) ?_ ?_ ?_
      · intro b4
        refine r_if_gt c247_34 rfl (show q_w32 (-1) = -1 from rfl) ?_ ?_
        · intro b5
          exact absurd b5.1 (by decide)
        · intro b5
          refine r_lconst c247_37 rfl ?_
          refine r_goto c247_38 ?_
          refine r_lastw c247_42 (by first | assumption | omega) (by first | assumption | rfl) (by first | assumption | decide) (by first | exact q_w32_id (by omega) (by omega) | exact q_w32w _ | exact rfl) (by first | assumption | omega) (by first | assumption | omega) (q_Rv0 (fun _ => ⟨(by first | assumption | omega | exact ⟨q_rg1 _, q_rg2 _⟩ | exact ⟨q_rh1 _, q_rh2 _⟩ | exact q_rj ⟨q_rg1 _, q_rg2 _⟩ | exact q_rgi _ | exact q_rgj _ | exact q_rj (q_rgi _) | exact q_rj (by assumption)), by omega⟩) (fun h9 => absurd h9 (by decide)) (fun h9 h8 => absurd h9 (by decide)) (fun h9 h8 => absurd h9 (by decide))) rfl ?_
          intro g6 f6 w6
          refine r_iinc c247_43 rfl (by first | exact q_w32_id (by omega) (by omega) | exact q_w32w _ | exact rfl) (lo' := [(1, _), (0, _)]) rfl rfl rfl ?_
          refine r_goto c247_46 ?_
          refine q_R.wk (ks := [1, 0]) (lo' := [(1, _), (0, _)]) rfl ?_
          exact ih (by first | omega | exact ⟨q_rg1 _, q_rg2 _⟩) (by repeat (first | exact q_Gr.rf | refine q_Gr.tr ?_ (by assumption) (by intro k9 j9 hk9; omega))) (by omega) (by first | assumption | omega | exact ⟨q_rg1 _, q_rg2 _⟩ | exact ⟨q_rh1 _, q_rh2 _⟩ | exact q_rj ⟨q_rg1 _, q_rg2 _⟩ | exact q_rgi _ | exact q_rgj _ | exact q_rj (q_rgi _) | exact q_rj (by assumption))
      · intro b4
        refine r_if_gt c247_34 rfl (show q_w32 (0) = 0 from rfl) ?_ ?_
        · intro b7
          exact absurd b7.1 (by decide)
        · intro b7
          refine r_lconst c247_37 rfl ?_
          refine r_goto c247_38 ?_
          refine r_lastw c247_42 (by first | assumption | omega) (by first | assumption | rfl) (by first | assumption | decide) (by first | exact q_w32_id (by omega) (by omega) | exact q_w32w _ | exact rfl) (by first | assumption | omega) (by first | assumption | omega) (q_Rv0 (fun _ => ⟨(by first | assumption | omega | exact ⟨q_rg1 _, q_rg2 _⟩ | exact ⟨q_rh1 _, q_rh2 _⟩ | exact q_rj ⟨q_rg1 _, q_rg2 _⟩ | exact q_rgi _ | exact q_rgj _ | exact q_rj (q_rgi _) | exact q_rj (by assumption)), by omega⟩) (fun h9 => absurd h9 (by decide)) (fun h9 h8 => absurd h9 (by decide)) (fun h9 h8 => absurd h9 (by decide))) rfl ?_
          intro g8 f8 w8
          refine r_iinc c247_43 rfl (by first | exact q_w32_id (by omega) (by omega) | exact q_w32w _ | exact rfl) (lo' := [(1, _), (0, _)]) rfl rfl rfl ?_
          refine r_goto c247_46 ?_
          refine q_R.wk (ks := [1, 0]) (lo' := [(1, _), (0, _)]) rfl ?_
          exact ih (by first | omega | exact ⟨q_rg1 _, q_rg2 _⟩) (by repeat (first | exact q_Gr.rf | refine q_Gr.tr ?_ (by assumption) (by intro k9 j9 hk9; omega))) (by omega) (by first | assumption | omega | exact ⟨q_rg1 _, q_rg2 _⟩ | exact ⟨q_rh1 _, q_rh2 _⟩ | exact q_rj ⟨q_rg1 _, q_rg2 _⟩ | exact q_rgi _ | exact q_rgj _ | exact q_rj (q_rgi _) | exact q_rj (by assumption))
      · intro b4
        refine r_if_gt c247_34 rfl (show q_w32 (1) = 1 from rfl) ?_ ?_
        · intro b9
          refine r_lconst c247_41 rfl ?_
          refine r_lastw c247_42 (by first | assumption | omega) (by first | assumption | rfl) (by first | assumption | decide) (by first | exact q_w32_id (by omega) (by omega) | exact q_w32w _ | exact rfl) (by first | assumption | omega) (by first | assumption | omega) (q_Rv0 (fun _ => ⟨(by first | assumption | omega | exact ⟨q_rg1 _, q_rg2 _⟩ | exact ⟨q_rh1 _, q_rh2 _⟩ | exact q_rj ⟨q_rg1 _, q_rg2 _⟩ | exact q_rgi _ | exact q_rgj _ | exact q_rj (q_rgi _) | exact q_rj (by assumption)), by omega⟩) (fun h9 => absurd h9 (by decide)) (fun h9 h8 => absurd h9 (by decide)) (fun h9 h8 => absurd h9 (by decide))) rfl ?_
          intro g10 f10 w10
          refine r_iinc c247_43 rfl (by first | exact q_w32_id (by omega) (by omega) | exact q_w32w _ | exact rfl) (lo' := [(1, _), (0, _)]) rfl rfl rfl ?_
          refine r_goto c247_46 ?_
          refine q_R.wk (ks := [1, 0]) (lo' := [(1, _), (0, _)]) rfl ?_
          exact ih (by first | omega | exact ⟨q_rg1 _, q_rg2 _⟩) (by repeat (first | exact q_Gr.rf | refine q_Gr.tr ?_ (by assumption) (by intro k9 j9 hk9; omega))) (by omega) (by first | assumption | omega | exact ⟨q_rg1 _, q_rg2 _⟩ | exact ⟨q_rh1 _, q_rh2 _⟩ | exact q_rj ⟨q_rg1 _, q_rg2 _⟩ | exact q_rgi _ | exact q_rgj _ | exact q_rj (q_rgi _) | exact q_rj (by assumption))
        · intro b9
          exact absurd b9.1 (by decide)

theorem k247 {Γ : q_Γ} (hG : q_GG Γ) {h : q_F} (hZ : q_Bz h) (hR : q_Rb h)   :
    q_M Γ q_K 155 247 [(2, Int.ofNat 139)] h (fun t w h' => (t = 0 ∧ q_Gr (fun k j => k = 140 ∧ 53 ≤ j ∧ j ≤ 55) h h')) := by
  refine q_M.of (by decide) (Nat.le_of_ble_eq_true rfl) hG ?_
  refine r_iconst c247_0 rfl ?_
  refine r_istore_n c247_1 (lo' := [(1, _), (0, _)]) rfl rfl rfl ?_
  refine q_R.wk (ks := [1, 0]) (lo' := [(1, _), (0, _)]) rfl ?_
  refine l247_2 hG hZ hR  ?_ 4294967298 (by first | omega | exact ⟨q_rg1 _, q_rg2 _⟩) (by repeat (first | exact q_Gr.rf | refine q_Gr.tr ?_ (by assumption) (by intro k9 j9 hk9; omega))) (q_mu (by first | omega | exact ⟨q_rg1 _, q_rg2 _⟩)) (by first | assumption | omega | exact ⟨q_rg1 _, q_rg2 _⟩ | exact ⟨q_rh1 _, q_rh2 _⟩ | exact q_rj ⟨q_rg1 _, q_rg2 _⟩ | exact q_rgi _ | exact q_rgj _ | exact q_rj (q_rgi _) | exact q_rj (by assumption))
  · intro u1_1 g1 f1 rr1_1
    exact r_vret c247_49 ⟨rfl, rfl, rfl⟩ ⟨rfl, (by repeat (first | exact q_Gr.rf | refine q_Gr.tr ?_ (by assumption) (by intro k9 j9 hk9; omega)))⟩
theorem c342_0 : q_cat 342 0 (.aload_n 0) 1 0 0 (0) := ⟨rfl, rfl⟩
theorem c342_1 : q_cat 342 1 (.getfield 7) 3 9 0 (3) := ⟨rfl, rfl⟩
theorem c342_4 : q_cat 342 4 (.iconst 4) 1 0 0 (0) := ⟨rfl, rfl⟩
theorem c342_5 : q_cat 342 5 (.lconst 0) 1 0 0 (0) := ⟨rfl, rfl⟩
theorem c342_6 : q_cat 342 6 (.lastore) 1 0 0 (0) := ⟨rfl, rfl⟩
theorem c342_7 : q_cat 342 7 (.iconst 0) 1 0 0 (0) := ⟨rfl, rfl⟩
theorem c342_8 : q_cat 342 8 (.istore_n 1) 1 1 0 (0) := ⟨rfl, rfl⟩
theorem c342_9 : q_cat 342 9 (.iload_n 1) 1 1 0 (0) := ⟨rfl, rfl⟩
theorem c342_10 : q_cat 342 10 (.iconst 3) 1 0 0 (0) := ⟨rfl, rfl⟩
theorem c342_11 : q_cat 342 11 (.if_icmp .ge 19) 3 30 0 (0) := ⟨rfl, rfl⟩
theorem c342_14 : q_cat 342 14 (.aload_n 0) 1 0 0 (0) := ⟨rfl, rfl⟩
theorem c342_15 : q_cat 342 15 (.getfield 7) 3 9 0 (3) := ⟨rfl, rfl⟩
theorem c342_18 : q_cat 342 18 (.bipush 41) 2 0 0 (0) := ⟨rfl, rfl⟩
theorem c342_20 : q_cat 342 20 (.iload_n 1) 1 1 0 (0) := ⟨rfl, rfl⟩
theorem c342_21 : q_cat 342 21 (.iadd) 1 0 0 (0) := ⟨rfl, rfl⟩
theorem c342_22 : q_cat 342 22 (.lconst 0) 1 0 0 (0) := ⟨rfl, rfl⟩
theorem c342_23 : q_cat 342 23 (.lastore) 1 0 0 (0) := ⟨rfl, rfl⟩
theorem c342_24 : q_cat 342 24 (.iinc 1 1) 3 1 0 (0) := ⟨rfl, rfl⟩
theorem c342_27 : q_cat 342 27 (.goto (-18)) 3 9 0 (0) := ⟨rfl, rfl⟩
theorem c342_30 : q_cat 342 30 (.return_) 1 0 0 (0) := ⟨rfl, rfl⟩
theorem l342_9 {Γ : q_Γ} (hG : q_GG Γ) {h0 : q_F} (hZ : q_Bz h0) (hR : q_Rb h0)  
    (hx30 : ∀ {u1 : Int} {h : q_F}, q_Gr (fun k j => k = 140 ∧ (j = 4 ∨ (41 ≤ j ∧ j ≤ 43))) h0 h → q_r32 u1 → q_R Γ q_K 155 342 (fun t w h' => (t = 0 ∧ q_Gr (fun k j => k = 140 ∧ (j = 4 ∨ (41 ≤ j ∧ j ≤ 43))) h0 h')) (30, [(1, (0, u1)), (0, (2, Int.ofNat 139))], [], q_hp q_K 155 h, [], 0, 0))
    : ∀ (m : Nat) {u1 : Int} {h : q_F}, (0 ≤ u1 ∧ u1 < 2147483648) → q_Gr (fun k j => k = 140 ∧ (j = 4 ∨ (41 ≤ j ∧ j ≤ 43))) h0 h → 2147483648 - u1 < (m : Int) → q_r32 u1 → q_R Γ q_K 155 342 (fun t w h' => (t = 0 ∧ q_Gr (fun k j => k = 140 ∧ (j = 4 ∨ (41 ≤ j ∧ j ≤ 43))) h0 h')) (9, [(1, (0, u1)), (0, (2, Int.ofNat 139))], [], q_hp q_K 155 h, [], 0, 0)   := by
  intro m
  induction m with
  | zero =>
    intro u1 h hinv hf hmu rr1
    exact absurd hmu (by omega)
  | succ m ih =>
    intro u1 h hinv hf hmu rr1
    refine r_iload_n c342_9 rfl rfl ?_
    refine r_iconst c342_10 rfl ?_
    refine r_ic_ge c342_11 rfl (by first | exact q_w32_id (by omega) (by omega) | exact q_w32w _ | exact rfl) (show q_w32 (3) = 3 from rfl) ?_ ?_
    · intro b2
      refine q_R.wk (ks := [1, 0]) (lo' := [(1, _), (0, _)]) rfl ?_
      exact hx30 (by repeat (first | exact q_Gr.rf | refine q_Gr.tr ?_ (by assumption) (by intro k9 j9 hk9; omega))) (by first | assumption | omega | exact ⟨q_rg1 _, q_rg2 _⟩ | exact ⟨q_rh1 _, q_rh2 _⟩ | exact q_rj ⟨q_rg1 _, q_rg2 _⟩ | exact q_rgi _ | exact q_rgj _ | exact q_rj (q_rgi _) | exact q_rj (by assumption))
    · intro b2
      refine r_aload_n c342_14 rfl rfl ?_
      refine r_getr c342_15 (by first | assumption | omega) (by decide) (by first | assumption | rfl) rfl rfl ?_
      refine r_bipush c342_18 rfl ?_
      refine r_iload_n c342_20 rfl rfl ?_
      refine r_iadd c342_21 (by first | exact q_w32_id (by omega) (by omega) | exact q_w32w _ | exact rfl) rfl ?_
      refine r_lconst c342_22 rfl ?_
      refine r_lastw c342_23 (by first | assumption | omega) (by first | assumption | rfl) (by first | assumption | decide) (by first | exact q_w32_id (by omega) (by omega) | exact q_w32w _ | exact rfl) (by first | assumption | omega) (by first | assumption | omega) (q_Rv0 (fun _ => ⟨(by first | assumption | omega | exact ⟨q_rg1 _, q_rg2 _⟩ | exact ⟨q_rh1 _, q_rh2 _⟩ | exact q_rj ⟨q_rg1 _, q_rg2 _⟩ | exact q_rgi _ | exact q_rgj _ | exact q_rj (q_rgi _) | exact q_rj (by assumption)), by omega⟩) (fun h9 => absurd h9 (by decide)) (fun h9 h8 => absurd h9 (by decide)) (fun h9 h8 => absurd h9 (by decide))) rfl ?_
      intro g3 f3 w3
      refine r_iinc c342_24 rfl (by first | exact q_w32_id (by omega) (by omega) | exact q_w32w _ | exact rfl) (lo' := [(1, _), (0, _)]) rfl rfl rfl ?_
      refine r_goto c342_27 ?_
      refine q_R.wk (ks := [1, 0]) (lo' := [(1, _), (0, _)]) rfl ?_
      exact ih (by first | omega | exact ⟨q_rg1 _, q_rg2 _⟩) (by repeat (first | exact q_Gr.rf | refine q_Gr.tr ?_ (by assumption) (by intro k9 j9 hk9; omega))) (by omega) (by first | assumption | omega | exact ⟨q_rg1 _, q_rg2 _⟩ | exact ⟨q_rh1 _, q_rh2 _⟩ | exact q_rj ⟨q_rg1 _, q_rg2 _⟩ | exact q_rgi _ | exact q_rgj _ | exact q_rj (q_rgi _) | exact q_rj (by assumption))

theorem k342 {Γ : q_Γ} (hG : q_GG Γ) {h : q_F} (hZ : q_Bz h) (hR : q_Rb h)   :
    q_M Γ q_K 155 342 [(2, Int.ofNat 139)] h (fun t w h' => (t = 0 ∧ q_Gr (fun k j => k = 140 ∧ (j = 4 ∨ (41 ≤ j ∧ j ≤ 43))) h h')) := by
  refine q_M.of (by decide) (Nat.le_of_ble_eq_true rfl) hG ?_
  refine r_aload_n c342_0 rfl rfl ?_
  refine r_getr c342_1 (by first | assumption | omega) (by decide) (by first | assumption | rfl) rfl rfl ?_
  refine r_iconst c342_4 rfl ?_
  refine r_lconst c342_5 rfl ?_
  refine r_lastw c342_6 (by first | assumption | omega) (by first | assumption | rfl) (by first | assumption | decide) (show q_w32 (4) = 4 from rfl) (by first | assumption | omega) (by first | assumption | omega) (q_Rv0 (fun _ => ⟨(by first | assumption | omega | exact ⟨q_rg1 _, q_rg2 _⟩ | exact ⟨q_rh1 _, q_rh2 _⟩ | exact q_rj ⟨q_rg1 _, q_rg2 _⟩ | exact q_rgi _ | exact q_rgj _ | exact q_rj (q_rgi _) | exact q_rj (by assumption)), by omega⟩) (fun h9 => absurd h9 (by decide)) (fun h9 h8 => absurd h9 (by decide)) (fun h9 h8 => absurd h9 (by decide))) rfl ?_
  intro g1 f1 w1
  refine r_iconst c342_7 rfl ?_
  refine r_istore_n c342_8 (lo' := [(1, _), (0, _)]) rfl rfl rfl ?_
  refine q_R.wk (ks := [1, 0]) (lo' := [(1, _), (0, _)]) rfl ?_
  refine l342_9 hG hZ hR  ?_ 4294967298 (by first | omega | exact ⟨q_rg1 _, q_rg2 _⟩) (by repeat (first | exact q_Gr.rf | refine q_Gr.tr ?_ (by assumption) (by intro k9 j9 hk9; omega))) (q_mu (by first | omega | exact ⟨q_rg1 _, q_rg2 _⟩)) (by first | assumption | omega | exact ⟨q_rg1 _, q_rg2 _⟩ | exact ⟨q_rh1 _, q_rh2 _⟩ | exact q_rj ⟨q_rg1 _, q_rg2 _⟩ | exact q_rgi _ | exact q_rgj _ | exact q_rj (q_rgi _) | exact q_rj (by assumption))
  · intro u1_2 g2 f2 rr1_2
    exact r_vret c342_30 ⟨rfl, rfl, rfl⟩ ⟨rfl, (by repeat (first | exact q_Gr.rf | refine q_Gr.tr ?_ (by assumption) (by intro k9 j9 hk9; omega)))⟩
theorem c240_0 : q_cat 240 0 (.iload_n 1) 1 1 0 (0) := ⟨rfl, rfl⟩
theorem c240_1 : q_cat 240 1 (.ifCond .ne 14) 3 15 0 (0) := ⟨rfl, rfl⟩
theorem c240_4 : q_cat 240 4 (.aload_n 0) 1 0 0 (0) := ⟨rfl, rfl⟩
theorem c240_5 : q_cat 240 5 (.bipush 47) 2 0 0 (0) := ⟨rfl, rfl⟩
theorem c240_7 : q_cat 240 7 (.iload_n 2) 1 2 0 (0) := ⟨rfl, rfl⟩
theorem c240_8 : q_cat 240 8 (.iadd) 1 0 0 (0) := ⟨rfl, rfl⟩
theorem c240_9 : q_cat 240 9 (.invokevirtual 82) 3 303 0 (0) := ⟨rfl, rfl⟩
theorem c240_12 : q_cat 240 12 (.goto 17) 3 29 0 (0) := ⟨rfl, rfl⟩
theorem c240_15 : q_cat 240 15 (.aload_n 0) 1 0 0 (0) := ⟨rfl, rfl⟩
theorem c240_16 : q_cat 240 16 (.bipush 74) 2 0 0 (0) := ⟨rfl, rfl⟩
theorem c240_18 : q_cat 240 18 (.iconst 3) 1 0 0 (0) := ⟨rfl, rfl⟩
theorem c240_19 : q_cat 240 19 (.iload_n 1) 1 1 0 (0) := ⟨rfl, rfl⟩
theorem c240_20 : q_cat 240 20 (.iconst 1) 1 0 0 (0) := ⟨rfl, rfl⟩
theorem c240_21 : q_cat 240 21 (.isub) 1 0 0 (0) := ⟨rfl, rfl⟩
theorem c240_22 : q_cat 240 22 (.imul) 1 0 0 (0) := ⟨rfl, rfl⟩
theorem c240_23 : q_cat 240 23 (.iadd) 1 0 0 (0) := ⟨rfl, rfl⟩
theorem c240_24 : q_cat 240 24 (.iload_n 2) 1 2 0 (0) := ⟨rfl, rfl⟩
theorem c240_25 : q_cat 240 25 (.iadd) 1 0 0 (0) := ⟨rfl, rfl⟩
theorem c240_26 : q_cat 240 26 (.invokevirtual 82) 3 303 0 (0) := ⟨rfl, rfl⟩
theorem c240_29 : q_cat 240 29 (.ireturn) 1 0 0 (0) := ⟨rfl, rfl⟩
theorem k240 {Γ : q_Γ} (hG : q_GG Γ) {h : q_F} (hZ : q_Bz h) (hR : q_Rb h) {v1 : Int} {v2 : Int} (hr1 : q_r32 v1) (hr2 : q_r32 v2) (hp0 : 0 ≤ v1 ∧ v1 ≤ 16 ∧ 0 ≤ v2 ∧ v2 < 3) :
    q_M Γ q_K 155 240 [(2, Int.ofNat 139), (0, v1), (0, v2)] h (fun t w h' => (t = 1 ∧ (∃ z, w = ((0, z) : q_V) ∧ q_r32 z ∧ (0 ≤ z ∧ z ≤ 2000)) ∧ h' = h)) := by
  refine q_M.of (by decide) (Nat.le_of_ble_eq_true rfl) hG ?_
  refine r_iload_n c240_0 rfl rfl ?_
  refine r_if_ne c240_1 rfl (by first | exact q_w32_id (by omega) (by omega) | exact q_w32w _ | exact rfl) ?_ ?_
  · intro b1
    refine r_aload_n c240_15 rfl rfl ?_
    refine r_bipush c240_16 rfl ?_
    refine r_iconst c240_18 rfl ?_
    refine r_iload_n c240_19 rfl rfl ?_
    refine r_iconst c240_20 rfl ?_
    refine r_isub c240_21 (by first | exact q_w32_id (by omega) (by omega) | exact q_w32w _ | exact rfl) rfl ?_
    refine r_imul c240_22 (by first | exact q_w32_id (by omega) (by omega) | exact q_w32w _ | exact rfl) rfl ?_
    refine r_iadd c240_23 (by first | exact q_w32_id (by omega) (by omega) | exact q_w32w _ | exact rfl) rfl ?_
    refine r_iload_n c240_24 rfl rfl ?_
    refine r_iadd c240_25 (by first | exact q_w32_id (by omega) (by omega) | exact q_w32w _ | exact rfl) rfl ?_
    refine r_vcG c240_26 (by first | assumption | omega) (by decide) (by first | assumption | rfl) rfl rfl rfl (k303 hG hZ hR (by first | assumption | omega | exact ⟨q_rg1 _, q_rg2 _⟩ | exact ⟨q_rh1 _, q_rh2 _⟩ | exact q_rj ⟨q_rg1 _, q_rg2 _⟩ | exact q_rgi _ | exact q_rgj _ | exact q_rj (q_rgi _) | exact q_rj (by assumption)) (by first | assumption | omega)) ?_
    intro t2 w2 g2 p2
    obtain ⟨rfl, ⟨z2, rfl, hv2, hs2⟩, e2⟩ := p2
    have q92 : h = g2 := e2.symm
    subst q92
    refine Or.inr (Or.inl ⟨rfl, ?_⟩)
    exact r_iret c240_29 ⟨rfl, rfl, rfl⟩ ⟨rfl, ⟨_, rfl, (by first | assumption | omega | exact ⟨q_rg1 _, q_rg2 _⟩ | exact ⟨q_rh1 _, q_rh2 _⟩ | exact q_rj ⟨q_rg1 _, q_rg2 _⟩ | exact q_rgi _ | exact q_rgj _ | exact q_rj (q_rgi _) | exact q_rj (by assumption)), (by omega)⟩, rfl⟩
  · intro b1
    refine r_aload_n c240_4 rfl rfl ?_
    refine r_bipush c240_5 rfl ?_
    refine r_iload_n c240_7 rfl rfl ?_
    refine r_iadd c240_8 (by first | exact q_w32_id (by omega) (by omega) | exact q_w32w _ | exact rfl) rfl ?_
    refine r_vcG c240_9 (by first | assumption | omega) (by decide) (by first | assumption | rfl) rfl rfl rfl (k303 hG hZ hR (by first | assumption | omega | exact ⟨q_rg1 _, q_rg2 _⟩ | exact ⟨q_rh1 _, q_rh2 _⟩ | exact q_rj ⟨q_rg1 _, q_rg2 _⟩ | exact q_rgi _ | exact q_rgj _ | exact q_rj (q_rgi _) | exact q_rj (by assumption)) (by first | assumption | omega)) ?_
    intro t3 w3 g3 p3
    obtain ⟨rfl, ⟨z3, rfl, hv3, hs3⟩, e3⟩ := p3
    have q93 : h = g3 := e3.symm
    subst q93
    refine Or.inr (Or.inl ⟨rfl, ?_⟩)
    refine r_goto c240_12 ?_
    exact r_iret c240_29 ⟨rfl, rfl, rfl⟩ ⟨rfl, ⟨_, rfl, (by first | assumption | omega | exact ⟨q_rg1 _, q_rg2 _⟩ | exact ⟨q_rh1 _, q_rh2 _⟩ | exact q_rj ⟨q_rg1 _, q_rg2 _⟩ | exact q_rgi _ | exact q_rgj _ | exact q_rj (q_rgi _) | exact q_rj (by assumption)), (by omega)⟩, rfl⟩
theorem c245_0 : q_cat 245 0 (.iload_n 1) 1 1 0 (0) := ⟨rfl, rfl⟩
theorem c245_1 : q_cat 245 1 (.aload_n 0) 1 0 0 (0) := ⟨rfl, rfl⟩
theorem c245_2 : q_cat 245 2 (.getfield 157) 3 9 14 (0) := ⟨rfl, rfl⟩
theorem c245_5 : q_cat 245 5 (.if_icmp .ge 12) 3 17 0 (0) := ⟨rfl, rfl⟩
theorem c245_8 : q_cat 245 8 (.aload_n 0) 1 0 0 (0) := ⟨rfl, rfl⟩
theorem c245_9 : q_cat 245 9 (.getfield 41) 3 9 13 (3) := ⟨rfl, rfl⟩
theorem c245_12 : q_cat 245 12 (.iload_n 1) 1 1 0 (0) := ⟨rfl, rfl⟩
theorem c245_13 : q_cat 245 13 (.iaload) 1 0 0 (0) := ⟨rfl, rfl⟩
theorem c245_14 : q_cat 245 14 (.goto 4) 3 18 0 (0) := ⟨rfl, rfl⟩
theorem c245_17 : q_cat 245 17 (.iconst (-1)) 1 0 0 (0) := ⟨rfl, rfl⟩
theorem c245_18 : q_cat 245 18 (.ireturn) 1 0 0 (0) := ⟨rfl, rfl⟩
theorem k245 {Γ : q_Γ} (hG : q_GG Γ) {h : q_F} (hZ : q_Bz h) (hR : q_Rb h) {v1 : Int} (hr1 : q_r32 v1) (hp0 : 0 ≤ v1 ∧ v1 ≤ 600) :
    q_M Γ q_K 155 245 [(2, Int.ofNat 139), (0, v1)] h (fun t w h' => (t = 1 ∧ (∃ z, w = ((0, z) : q_V) ∧ q_r32 z ∧ (z = -1 ∨ v1 < h 139 14)) ∧ h' = h)) := by
  refine q_M.of (by decide) (Nat.le_of_ble_eq_true rfl) hG ?_
  refine r_iload_n c245_0 rfl rfl ?_
  refine r_aload_n c245_1 rfl rfl ?_
  refine r_getf hR c245_2 rfl (by decide) rfl ?_
  intro y1
  refine r_ic_ge c245_5 rfl (by first | exact q_w32_id (by omega) (by omega) | exact q_w32w _ | exact rfl) (by first | exact q_w32_id (by omega) (by omega) | exact q_w32w _ | exact rfl) ?_ ?_
  · intro b2
    refine r_iconst c245_17 rfl ?_
    exact r_iret c245_18 ⟨rfl, rfl, rfl⟩ ⟨rfl, ⟨_, rfl, (by first | assumption | omega | exact ⟨q_rg1 _, q_rg2 _⟩ | exact ⟨q_rh1 _, q_rh2 _⟩ | exact q_rj ⟨q_rg1 _, q_rg2 _⟩ | exact q_rgi _ | exact q_rgj _ | exact q_rj (q_rgi _) | exact q_rj (by assumption)), (by omega)⟩, rfl⟩
  · intro b2
    refine r_aload_n c245_8 rfl rfl ?_
    refine r_getr c245_9 (by first | assumption | omega) (by decide) (by first | assumption | rfl) rfl rfl ?_
    refine r_iload_n c245_12 rfl rfl ?_
    refine r_ialdr hR c245_13 (by decide) (by decide) rfl (by decide) (by first | exact q_w32_id (by omega) (by omega) | exact q_w32w _ | exact rfl) (by first | assumption | omega) (by first | assumption | omega) rfl ?_
    intro y3
    refine r_goto c245_14 ?_
    exact r_iret c245_18 ⟨rfl, rfl, rfl⟩ ⟨rfl, ⟨_, rfl, (by first | assumption | omega | exact ⟨q_rg1 _, q_rg2 _⟩ | exact ⟨q_rh1 _, q_rh2 _⟩ | exact q_rj ⟨q_rg1 _, q_rg2 _⟩ | exact q_rgi _ | exact q_rgj _ | exact q_rj (q_rgi _) | exact q_rj (by assumption)), (by omega)⟩, rfl⟩
theorem c355_0 : q_cat 355 0 (.aload_n 0) 1 0 0 (0) := ⟨rfl, rfl⟩
theorem c355_1 : q_cat 355 1 (.getfield 167) 3 9 19 (0) := ⟨rfl, rfl⟩
theorem c355_4 : q_cat 355 4 (.aload_n 0) 1 0 0 (0) := ⟨rfl, rfl⟩
theorem c355_5 : q_cat 355 5 (.getfield 173) 3 9 20 (0) := ⟨rfl, rfl⟩
theorem c355_8 : q_cat 355 8 (.isub) 1 0 0 (0) := ⟨rfl, rfl⟩
theorem c355_9 : q_cat 355 9 (.ireturn) 1 0 0 (0) := ⟨rfl, rfl⟩
theorem k355 {Γ : q_Γ} (hG : q_GG Γ) {h : q_F} (hZ : q_Bz h) (hR : q_Rb h)   :
    q_M Γ q_K 155 355 [(2, Int.ofNat 139)] h (fun t w h' => (t = 1 ∧ (∃ z, w = ((0, z) : q_V) ∧ q_r32 z) ∧ h' = h)) := by
  refine q_M.of (by decide) (Nat.le_of_ble_eq_true rfl) hG ?_
  refine r_aload_n c355_0 rfl rfl ?_
  refine r_getf hR c355_1 rfl (by decide) rfl ?_
  intro y1
  refine r_aload_n c355_4 rfl rfl ?_
  refine r_getf hR c355_5 rfl (by decide) rfl ?_
  intro y2
  refine r_isub c355_8 (by first | exact q_w32_id (by omega) (by omega) | exact q_w32w _ | exact rfl) rfl ?_
  exact r_iret c355_9 ⟨rfl, rfl, rfl⟩ ⟨rfl, ⟨_, rfl, (by first | assumption | omega | exact ⟨q_rg1 _, q_rg2 _⟩ | exact ⟨q_rh1 _, q_rh2 _⟩ | exact q_rj ⟨q_rg1 _, q_rg2 _⟩ | exact q_rgi _ | exact q_rgj _ | exact q_rj (q_rgi _) | exact q_rj (by assumption))⟩, rfl⟩
theorem c259_0 : q_cat 259 0 (.aload_n 0) 1 0 0 (0) := ⟨rfl, rfl⟩
theorem c259_1 : q_cat 259 1 (.getfield 190) 3 9 17 (0) := ⟨rfl, rfl⟩
theorem c259_4 : q_cat 259 4 (.ifCond .ne 16) 3 20 0 (0) := ⟨rfl, rfl⟩
theorem c259_7 : q_cat 259 7 (.aload_n 0) 1 0 0 (0) := ⟨rfl, rfl⟩
theorem c259_8 : q_cat 259 8 (.iload_n 1) 1 1 0 (0) := ⟨rfl, rfl⟩
theorem c259_9 : q_cat 259 9 (.putfield 190) 3 9 17 (0) := ⟨rfl, rfl⟩
theorem c259_12 : q_cat 259 12 (.aload_n 0) 1 0 0 (0) := ⟨rfl, rfl⟩
theorem c259_13 : q_cat 259 13 (.aload_n 0) 1 0 0 (0) := ⟨rfl, rfl⟩
theorem c259_14 : q_cat 259 14 (.getfield 173) 3 9 20 (0) := ⟨rfl, rfl⟩
theorem c259_17 : q_cat 259 17 (.putfield 193) 3 9 18 (0) := ⟨rfl, rfl⟩
theorem c259_20 : q_cat 259 20 (.iconst 0) 1 0 0 (0) := ⟨rfl, rfl⟩
theorem c259_21 : q_cat 259 21 (.ireturn) 1 0 0 (0) := ⟨rfl, rfl⟩
theorem k259 {Γ : q_Γ} (hG : q_GG Γ) {h : q_F} (hZ : q_Bz h) (hR : q_Rb h) {v1 : Int} (hr1 : q_r32 v1) :
    q_M Γ q_K 155 259 [(2, Int.ofNat 139), (0, v1)] h (fun t w h' => (t = 1 ∧ (∃ z, w = ((0, z) : q_V) ∧ (z = 0 ∨ z = 1)) ∧ q_Gr (fun k j => k = 139 ∧ (j = 17 ∨ j = 18)) h h')) := by
  refine q_M.of (by decide) (Nat.le_of_ble_eq_true rfl) hG ?_
  refine r_aload_n c259_0 rfl rfl ?_
  refine r_getf (q_Gr.rb (S := fun k j => k = 139 ∧ (j = 17 ∨ j = 18)) hR (by repeat (first | exact q_Gr.rf | refine q_Gr.tr ?_ (by assumption) (by intro k9 j9 hk9; omega)))) c259_1 rfl (by decide) rfl ?_
  intro y1
  refine r_if_ne c259_4 rfl (by first | exact q_w32_id (by omega) (by omega) | exact q_w32w _ | exact rfl) ?_ ?_
  · intro b2
    refine r_iconst c259_20 rfl ?_
    exact r_zret c259_21 ⟨rfl, rfl, rfl⟩ (by decide) ⟨rfl, ⟨_, rfl, (by decide)⟩, (by repeat (first | exact q_Gr.rf | refine q_Gr.tr ?_ (by assumption) (by intro k9 j9 hk9; omega)))⟩
  · intro b2
    refine r_aload_n c259_7 rfl rfl ?_
    refine r_iload_n c259_8 rfl rfl ?_
    refine r_putiw c259_9 rfl rfl rfl (q_Rv0 (fun h9 => absurd h9 (by decide)) (fun _ => ⟨(by first | assumption | omega | exact ⟨q_rg1 _, q_rg2 _⟩ | exact ⟨q_rh1 _, q_rh2 _⟩ | exact q_rj ⟨q_rg1 _, q_rg2 _⟩ | exact q_rgi _ | exact q_rgj _ | exact q_rj (q_rgi _) | exact q_rj (by assumption)), Or.inr (by first | assumption | omega | exact ⟨q_rg1 _, q_rg2 _⟩ | exact ⟨q_rh1 _, q_rh2 _⟩ | exact q_rj ⟨q_rg1 _, q_rg2 _⟩ | exact q_rgi _ | exact q_rgj _ | exact q_rj (q_rgi _) | exact q_rj (by assumption)), by omega⟩) (fun h9 h8 => absurd h9 (by decide)) (fun h9 h8 => absurd h9 (by decide))) rfl ?_
    intro g3 f3 w3
    have m140004f3 := f3.1 140 4 (by omega)
    have m139014f3 := f3.1 139 14 (by omega)
    have m139005f3 := f3.1 139 5 (by omega)
    refine r_aload_n c259_12 rfl rfl ?_
    refine r_aload_n c259_13 rfl rfl ?_
    refine r_getf (q_Gr.rb (S := fun k j => k = 139 ∧ (j = 17 ∨ j = 18)) hR (by repeat (first | exact q_Gr.rf | refine q_Gr.tr ?_ (by assumption) (by intro k9 j9 hk9; omega)))) c259_14 rfl (by decide) rfl ?_
    intro y4
    refine r_putiw c259_17 rfl rfl rfl (q_Rv0 (fun h9 => absurd h9 (by decide)) (fun _ => ⟨(by first | assumption | omega | exact ⟨q_rg1 _, q_rg2 _⟩ | exact ⟨q_rh1 _, q_rh2 _⟩ | exact q_rj ⟨q_rg1 _, q_rg2 _⟩ | exact q_rgi _ | exact q_rgj _ | exact q_rj (q_rgi _) | exact q_rj (by assumption)), Or.inr (by first | assumption | omega | exact ⟨q_rg1 _, q_rg2 _⟩ | exact ⟨q_rh1 _, q_rh2 _⟩ | exact q_rj ⟨q_rg1 _, q_rg2 _⟩ | exact q_rgi _ | exact q_rgj _ | exact q_rj (q_rgi _) | exact q_rj (by assumption)), by omega⟩) (fun h9 h8 => absurd h9 (by decide)) (fun h9 h8 => absurd h9 (by decide))) rfl ?_
    intro g5 f5 w5
    have m140004f5 := f5.1 140 4 (by omega)
    have m139014f5 := f5.1 139 14 (by omega)
    have m139005f5 := f5.1 139 5 (by omega)
    refine r_iconst c259_20 rfl ?_
    exact r_zret c259_21 ⟨rfl, rfl, rfl⟩ (by decide) ⟨rfl, ⟨_, rfl, (by decide)⟩, (by repeat (first | exact q_Gr.rf | refine q_Gr.tr ?_ (by assumption) (by intro k9 j9 hk9; omega)))⟩
theorem c298_0 : q_cat 298 0 (.aload_n 0) 1 0 0 (0) := ⟨rfl, rfl⟩
theorem c298_1 : q_cat 298 1 (.iconst 0) 1 0 0 (0) := ⟨rfl, rfl⟩
theorem c298_2 : q_cat 298 2 (.putfield 60) 3 9 7 (0) := ⟨rfl, rfl⟩
theorem c298_5 : q_cat 298 5 (.aload_n 0) 1 0 0 (0) := ⟨rfl, rfl⟩
theorem c298_6 : q_cat 298 6 (.iload_n 1) 1 1 0 (0) := ⟨rfl, rfl⟩
theorem c298_7 : q_cat 298 7 (.i2l) 1 0 0 (0) := ⟨rfl, rfl⟩
theorem c298_8 : q_cat 298 8 (.lconst 0) 1 0 0 (0) := ⟨rfl, rfl⟩
theorem c298_9 : q_cat 298 9 (.ldc2_w 71) 3 0 0 (2) := ⟨rfl, rfl⟩
theorem c298_12 : q_cat 298 12 (.invokestatic 163) 3 267 1 (0) := ⟨rfl, rfl⟩
theorem c298_15 : q_cat 298 15 (.ifCond .ne 7) 3 22 0 (0) := ⟨rfl, rfl⟩
theorem c298_18 : q_cat 298 18 (.iconst 1) 1 0 0 (0) := ⟨rfl, rfl⟩
theorem c298_19 : q_cat 298 19 (.goto 4) 3 23 0 (0) := ⟨rfl, rfl⟩
theorem c298_22 : q_cat 298 22 (.iconst 0) 1 0 0 (0) := ⟨rfl, rfl⟩
theorem c298_23 : q_cat 298 23 (.iconst 1) 1 0 0 (0) := ⟨rfl, rfl⟩
theorem c298_24 : q_cat 298 24 (.invokevirtual 273) 3 258 0 (0) := ⟨rfl, rfl⟩
theorem c298_27 : q_cat 298 27 (.ireturn) 1 0 0 (0) := ⟨rfl, rfl⟩
theorem k298 {Γ : q_Γ} (hG : q_GG Γ) {h : q_F} (hZ : q_Bz h) (hR : q_Rb h) {v1 : Int} (hr1 : q_r32 v1) :
    q_M Γ q_K 155 298 [(2, Int.ofNat 139), (0, v1)] h (fun t w h' => (t = 1 ∧ (∃ z, w = ((0, z) : q_V) ∧ (z = 0 ∨ z = 1) ∧ (z = 1 ∨ (0 ≤ v1 ∧ v1 < 3))) ∧ q_Gr (fun k j => k = 139 ∧ j = 7) h h')) := by
  refine q_M.of (by decide) (Nat.le_of_ble_eq_true rfl) hG ?_
  refine r_aload_n c298_0 rfl rfl ?_
  refine r_iconst c298_1 rfl ?_
  refine r_putiw c298_2 rfl rfl rfl (q_Rv0 (fun h9 => absurd h9 (by decide)) (fun _ => ⟨(by first | assumption | omega | exact ⟨q_rg1 _, q_rg2 _⟩ | exact ⟨q_rh1 _, q_rh2 _⟩ | exact q_rj ⟨q_rg1 _, q_rg2 _⟩ | exact q_rgi _ | exact q_rgj _ | exact q_rj (q_rgi _) | exact q_rj (by assumption)), Or.inr (by first | assumption | omega | exact ⟨q_rg1 _, q_rg2 _⟩ | exact ⟨q_rh1 _, q_rh2 _⟩ | exact q_rj ⟨q_rg1 _, q_rg2 _⟩ | exact q_rgi _ | exact q_rgj _ | exact q_rj (q_rgi _) | exact q_rj (by assumption)), by omega⟩) (fun h9 h8 => absurd h9 (by decide)) (fun h9 h8 => absurd h9 (by decide))) rfl ?_
  intro g1 f1 w1
  have m140004f1 := f1.1 140 4 (by omega)
  have m139014f1 := f1.1 139 14 (by omega)
  have m139005f1 := f1.1 139 5 (by omega)
  refine r_aload_n c298_5 rfl rfl ?_
  refine r_iload_n c298_6 rfl rfl ?_
  refine r_i2l c298_7 (by first | exact q_w32_id (by omega) (by omega) | exact q_w32w _ | exact rfl) rfl ?_
  refine r_lconst c298_8 rfl ?_
  refine r_ldc2 c298_9 rfl rfl ?_
  refine r_callG c298_12 (fun _ => rfl) rfl rfl rfl (k267 hG (q_Gr.bz (S := fun k j => k = 139 ∧ j = 7) hZ (by repeat (first | exact q_Gr.rf | refine q_Gr.tr ?_ (by assumption) (by intro k9 j9 hk9; omega)))) (q_Gr.rb (S := fun k j => k = 139 ∧ j = 7) hR (by repeat (first | exact q_Gr.rf | refine q_Gr.tr ?_ (by assumption) (by intro k9 j9 hk9; omega)))) (by first | assumption | omega | exact ⟨q_rg1 _, q_rg2 _⟩ | exact ⟨q_rh1 _, q_rh2 _⟩ | exact q_rj ⟨q_rg1 _, q_rg2 _⟩ | exact q_rgi _ | exact q_rgj _ | exact q_rj (q_rgi _) | exact q_rj (by assumption)) (by first | assumption | omega | exact ⟨q_rg1 _, q_rg2 _⟩ | exact ⟨q_rh1 _, q_rh2 _⟩ | exact q_rj ⟨q_rg1 _, q_rg2 _⟩ | exact q_rgi _ | exact q_rgj _ | exact q_rj (q_rgi _) | exact q_rj (by assumption)) (by first | assumption | omega | exact ⟨q_rg1 _, q_rg2 _⟩ | exact ⟨q_rh1 _, q_rh2 _⟩ | exact q_rj ⟨q_rg1 _, q_rg2 _⟩ | exact q_rgi _ | exact q_rgj _ | exact q_rj (q_rgi _) | exact q_rj (by assumption))) ?_
  intro t2 w2 g2 p2
  obtain ⟨rfl, ⟨z2, rfl, hz2, hs2⟩, e2⟩ := p2
  have q92 : g1 = g2 := e2.symm
  subst q92
  refine Or.inr (Or.inl ⟨rfl, ?_⟩)
  refine r_if_ne c298_15 rfl (by first | exact q_w32_id (by omega) (by omega) | exact q_w32w _ | exact rfl) ?_ ?_
  · intro b3
    refine r_iconst c298_22 rfl ?_
    refine r_iconst c298_23 rfl ?_
    refine r_vcG c298_24 (by first | assumption | omega) (by decide) (by first | assumption | rfl) rfl rfl rfl (k258 hG (q_Gr.bz (S := fun k j => k = 139 ∧ j = 7) hZ (by repeat (first | exact q_Gr.rf | refine q_Gr.tr ?_ (by assumption) (by intro k9 j9 hk9; omega)))) (q_Gr.rb (S := fun k j => k = 139 ∧ j = 7) hR (by repeat (first | exact q_Gr.rf | refine q_Gr.tr ?_ (by assumption) (by intro k9 j9 hk9; omega)))) (by first | assumption | decide | omega) (by first | assumption | omega | exact ⟨q_rg1 _, q_rg2 _⟩ | exact ⟨q_rh1 _, q_rh2 _⟩ | exact q_rj ⟨q_rg1 _, q_rg2 _⟩ | exact q_rgi _ | exact q_rgj _ | exact q_rj (q_rgi _) | exact q_rj (by assumption))) ?_
    intro t4 w4 g4 p4
    obtain ⟨rfl, ⟨z4, rfl, hz4, hs4⟩, e4⟩ := p4
    have m140004e4 := e4.1 140 4 (by omega)
    have m139014e4 := e4.1 139 14 (by omega)
    have m139005e4 := e4.1 139 5 (by omega)
    refine Or.inr (Or.inl ⟨rfl, ?_⟩)
    exact r_zret c298_27 ⟨rfl, rfl, rfl⟩ (by first | assumption | omega) ⟨rfl, ⟨_, rfl, (by first | assumption | omega), (by omega)⟩, (by repeat (first | exact q_Gr.rf | refine q_Gr.tr ?_ (by assumption) (by intro k9 j9 hk9; omega)))⟩
  · intro b3
    refine r_iconst c298_18 rfl ?_
    refine r_goto c298_19 ?_
    refine r_iconst c298_23 rfl ?_
    refine r_vcG c298_24 (by first | assumption | omega) (by decide) (by first | assumption | rfl) rfl rfl rfl (k258 hG (q_Gr.bz (S := fun k j => k = 139 ∧ j = 7) hZ (by repeat (first | exact q_Gr.rf | refine q_Gr.tr ?_ (by assumption) (by intro k9 j9 hk9; omega)))) (q_Gr.rb (S := fun k j => k = 139 ∧ j = 7) hR (by repeat (first | exact q_Gr.rf | refine q_Gr.tr ?_ (by assumption) (by intro k9 j9 hk9; omega)))) (by first | assumption | decide | omega) (by first | assumption | omega | exact ⟨q_rg1 _, q_rg2 _⟩ | exact ⟨q_rh1 _, q_rh2 _⟩ | exact q_rj ⟨q_rg1 _, q_rg2 _⟩ | exact q_rgi _ | exact q_rgj _ | exact q_rj (q_rgi _) | exact q_rj (by assumption))) ?_
    intro t5 w5 g5 p5
    obtain ⟨rfl, ⟨z5, rfl, hz5, hs5⟩, e5⟩ := p5
    have m140004e5 := e5.1 140 4 (by omega)
    have m139014e5 := e5.1 139 14 (by omega)
    have m139005e5 := e5.1 139 5 (by omega)
    refine Or.inr (Or.inl ⟨rfl, ?_⟩)
    exact r_zret c298_27 ⟨rfl, rfl, rfl⟩ (by first | assumption | omega) ⟨rfl, ⟨_, rfl, (by first | assumption | omega), (by omega)⟩, (by repeat (first | exact q_Gr.rf | refine q_Gr.tr ?_ (by assumption) (by intro k9 j9 hk9; omega)))⟩
theorem c302_0 : q_cat 302 0 (.aload_n 0) 1 0 0 (0) := ⟨rfl, rfl⟩
theorem c302_1 : q_cat 302 1 (.aload_n 0) 1 0 0 (0) := ⟨rfl, rfl⟩
theorem c302_2 : q_cat 302 2 (.getfield 7) 3 9 0 (3) := ⟨rfl, rfl⟩
theorem c302_5 : q_cat 302 5 (.bipush 41) 2 0 0 (0) := ⟨rfl, rfl⟩
theorem c302_7 : q_cat 302 7 (.iload_n 1) 1 1 0 (0) := ⟨rfl, rfl⟩
theorem c302_8 : q_cat 302 8 (.iadd) 1 0 0 (0) := ⟨rfl, rfl⟩
theorem c302_9 : q_cat 302 9 (.laload) 1 0 0 (0) := ⟨rfl, rfl⟩
theorem c302_10 : q_cat 302 10 (.lconst 0) 1 0 0 (0) := ⟨rfl, rfl⟩
theorem c302_11 : q_cat 302 11 (.lcmp) 1 0 0 (0) := ⟨rfl, rfl⟩
theorem c302_12 : q_cat 302 12 (.ifCond .ne 7) 3 19 0 (0) := ⟨rfl, rfl⟩
theorem c302_15 : q_cat 302 15 (.iconst 1) 1 0 0 (0) := ⟨rfl, rfl⟩
theorem c302_16 : q_cat 302 16 (.goto 4) 3 20 0 (0) := ⟨rfl, rfl⟩
theorem c302_19 : q_cat 302 19 (.iconst 0) 1 0 0 (0) := ⟨rfl, rfl⟩
theorem c302_20 : q_cat 302 20 (.iload_n 2) 1 2 0 (0) := ⟨rfl, rfl⟩
theorem c302_21 : q_cat 302 21 (.invokevirtual 273) 3 258 0 (0) := ⟨rfl, rfl⟩
theorem c302_24 : q_cat 302 24 (.ireturn) 1 0 0 (0) := ⟨rfl, rfl⟩
theorem k302 {Γ : q_Γ} (hG : q_GG Γ) {h : q_F} (hZ : q_Bz h) (hR : q_Rb h) {v1 : Int} {v2 : Int} (hr1 : q_r32 v1) (hr2 : q_r32 v2) (hp0 : 0 ≤ v1 ∧ v1 < 3) :
    q_M Γ q_K 155 302 [(2, Int.ofNat 139), (0, v1), (0, v2)] h (fun t w h' => (t = 1 ∧ (∃ z, w = ((0, z) : q_V) ∧ (z = 0 ∨ z = 1)) ∧ q_Gr (fun k j => k = 139 ∧ j = 7) h h')) := by
  refine q_M.of (by decide) (Nat.le_of_ble_eq_true rfl) hG ?_
  refine r_aload_n c302_0 rfl rfl ?_
  refine r_aload_n c302_1 rfl rfl ?_
  refine r_getr c302_2 (by first | assumption | omega) (by decide) (by first | assumption | rfl) rfl rfl ?_
  refine r_bipush c302_5 rfl ?_
  refine r_iload_n c302_7 rfl rfl ?_
  refine r_iadd c302_8 (by first | exact q_w32_id (by omega) (by omega) | exact q_w32w _ | exact rfl) rfl ?_
  refine r_laldw (q_Gr.rb (S := fun k j => k = 139 ∧ j = 7) hR (by repeat (first | exact q_Gr.rf | refine q_Gr.tr ?_ (by assumption) (by intro k9 j9 hk9; omega)))) c302_9 (by first | exact q_w32_id (by omega) (by omega) | exact q_w32w _ | exact rfl) (by first | assumption | omega) (by first | assumption | omega) rfl rfl ?_
  intro y1
  refine r_lconst c302_10 rfl ?_
  refine r_lcmpn c302_11 rfl (by first | exact q_w64_id (by omega) (by omega) | exact rfl) (show q_w64 (0) = 0 from rfl) ?_ ?_ ?_
  · intro b2
    refine r_if_ne c302_12 rfl (show q_w32 (-1) = -1 from rfl) ?_ ?_
    · intro b3
      refine r_iconst c302_19 rfl ?_
      refine r_iload_n c302_20 rfl rfl ?_
      refine r_vcG c302_21 (by first | assumption | omega) (by decide) (by first | assumption | rfl) rfl rfl rfl (k258 hG (q_Gr.bz (S := fun k j => k = 139 ∧ j = 7) hZ (by repeat (first | exact q_Gr.rf | refine q_Gr.tr ?_ (by assumption) (by intro k9 j9 hk9; omega)))) (q_Gr.rb (S := fun k j => k = 139 ∧ j = 7) hR (by repeat (first | exact q_Gr.rf | refine q_Gr.tr ?_ (by assumption) (by intro k9 j9 hk9; omega)))) (by first | assumption | decide | omega) (by first | assumption | omega | exact ⟨q_rg1 _, q_rg2 _⟩ | exact ⟨q_rh1 _, q_rh2 _⟩ | exact q_rj ⟨q_rg1 _, q_rg2 _⟩ | exact q_rgi _ | exact q_rgj _ | exact q_rj (q_rgi _) | exact q_rj (by assumption))) ?_
      intro t4 w4 g4 p4
      obtain ⟨rfl, ⟨z4, rfl, hz4, hs4⟩, e4⟩ := p4
      have m140004e4 := e4.1 140 4 (by omega)
      have m139014e4 := e4.1 139 14 (by omega)
      have m139005e4 := e4.1 139 5 (by omega)
      refine Or.inr (Or.inl ⟨rfl, ?_⟩)
      exact r_zret c302_24 ⟨rfl, rfl, rfl⟩ (by first | assumption | omega) ⟨rfl, ⟨_, rfl, (by first | assumption | omega)⟩, (by repeat (first | exact q_Gr.rf | refine q_Gr.tr ?_ (by assumption) (by intro k9 j9 hk9; omega)))⟩
    · intro b3
      exact absurd b3.1 (by decide)
  · intro b2
    refine r_if_ne c302_12 rfl (show q_w32 (0) = 0 from rfl) ?_ ?_
    · intro b5
      exact absurd b5.1 (by decide)
    · intro b5
      refine r_iconst c302_15 rfl ?_
      refine r_goto c302_16 ?_
      refine r_iload_n c302_20 rfl rfl ?_
      refine r_vcG c302_21 (by first | assumption | omega) (by decide) (by first | assumption | rfl) rfl rfl rfl (k258 hG (q_Gr.bz (S := fun k j => k = 139 ∧ j = 7) hZ (by repeat (first | exact q_Gr.rf | refine q_Gr.tr ?_ (by assumption) (by intro k9 j9 hk9; omega)))) (q_Gr.rb (S := fun k j => k = 139 ∧ j = 7) hR (by repeat (first | exact q_Gr.rf | refine q_Gr.tr ?_ (by assumption) (by intro k9 j9 hk9; omega)))) (by first | assumption | decide | omega) (by first | assumption | omega | exact ⟨q_rg1 _, q_rg2 _⟩ | exact ⟨q_rh1 _, q_rh2 _⟩ | exact q_rj ⟨q_rg1 _, q_rg2 _⟩ | exact q_rgi _ | exact q_rgj _ | exact q_rj (q_rgi _) | exact q_rj (by assumption))) ?_
      intro t6 w6 g6 p6
      obtain ⟨rfl, ⟨z6, rfl, hz6, hs6⟩, e6⟩ := p6
      have m140004e6 := e6.1 140 4 (by omega)
      have m139014e6 := e6.1 139 14 (by omega)
      have m139005e6 := e6.1 139 5 (by omega)
      refine Or.inr (Or.inl ⟨rfl, ?_⟩)
      exact r_zret c302_24 ⟨rfl, rfl, rfl⟩ (by first | assumption | omega) ⟨rfl, ⟨_, rfl, (by first | assumption | omega)⟩, (by repeat (first | exact q_Gr.rf | refine q_Gr.tr ?_ (by assumption) (by intro k9 j9 hk9; omega)))⟩
  · intro b2
    refine r_if_ne c302_12 rfl (show q_w32 (1) = 1 from rfl) ?_ ?_
    · intro b7
      refine r_iconst c302_19 rfl ?_
      refine r_iload_n c302_20 rfl rfl ?_
      refine r_vcG c302_21 (by first | assumption | omega) (by decide) (by first | assumption | rfl) rfl rfl rfl (k258 hG (q_Gr.bz (S := fun k j => k = 139 ∧ j = 7) hZ (by repeat (first | exact q_Gr.rf | refine q_Gr.tr ?_ (by assumption) (by intro k9 j9 hk9; omega)))) (q_Gr.rb (S := fun k j => k = 139 ∧ j = 7) hR (by repeat (first | exact q_Gr.rf | refine q_Gr.tr ?_ (by assumption) (by intro k9 j9 hk9; omega)))) (by first | assumption | decide | omega) (by first | assumption | omega | exact ⟨q_rg1 _, q_rg2 _⟩ | exact ⟨q_rh1 _, q_rh2 _⟩ | exact q_rj ⟨q_rg1 _, q_rg2 _⟩ | exact q_rgi _ | exact q_rgj _ | exact q_rj (q_rgi _) | exact q_rj (by assumption))) ?_
      intro t8 w8 g8 p8
      obtain ⟨rfl, ⟨z8, rfl, hz8, hs8⟩, e8⟩ := p8
      have m140004e8 := e8.1 140 4 (by omega)
      have m139014e8 := e8.1 139 14 (by omega)
      have m139005e8 := e8.1 139 5 (by omega)
      refine Or.inr (Or.inl ⟨rfl, ?_⟩)
      exact r_zret c302_24 ⟨rfl, rfl, rfl⟩ (by first | assumption | omega) ⟨rfl, ⟨_, rfl, (by first | assumption | omega)⟩, (by repeat (first | exact q_Gr.rf | refine q_Gr.tr ?_ (by assumption) (by intro k9 j9 hk9; omega)))⟩
    · intro b7
      exact absurd b7.1 (by decide)
theorem c256_0 : q_cat 256 0 (.aload_n 0) 1 0 0 (0) := ⟨rfl, rfl⟩
theorem c256_1 : q_cat 256 1 (.bipush 26) 2 0 0 (0) := ⟨rfl, rfl⟩
theorem c256_3 : q_cat 256 3 (.iload_n 1) 1 1 0 (0) := ⟨rfl, rfl⟩
theorem c256_4 : q_cat 256 4 (.iadd) 1 0 0 (0) := ⟨rfl, rfl⟩
theorem c256_5 : q_cat 256 5 (.invokevirtual 82) 3 303 0 (0) := ⟨rfl, rfl⟩
theorem c256_8 : q_cat 256 8 (.aload_n 0) 1 0 0 (0) := ⟨rfl, rfl⟩
theorem c256_9 : q_cat 256 9 (.bipush 50) 2 0 0 (0) := ⟨rfl, rfl⟩
theorem c256_11 : q_cat 256 11 (.iload_n 1) 1 1 0 (0) := ⟨rfl, rfl⟩
theorem c256_12 : q_cat 256 12 (.iadd) 1 0 0 (0) := ⟨rfl, rfl⟩
theorem c256_13 : q_cat 256 13 (.invokevirtual 82) 3 303 0 (0) := ⟨rfl, rfl⟩
theorem c256_16 : q_cat 256 16 (.isub) 1 0 0 (0) := ⟨rfl, rfl⟩
theorem c256_17 : q_cat 256 17 (.aload_n 0) 1 0 0 (0) := ⟨rfl, rfl⟩
theorem c256_18 : q_cat 256 18 (.bipush 47) 2 0 0 (0) := ⟨rfl, rfl⟩
theorem c256_20 : q_cat 256 20 (.iload_n 1) 1 1 0 (0) := ⟨rfl, rfl⟩
theorem c256_21 : q_cat 256 21 (.iadd) 1 0 0 (0) := ⟨rfl, rfl⟩
theorem c256_22 : q_cat 256 22 (.invokevirtual 82) 3 303 0 (0) := ⟨rfl, rfl⟩
theorem c256_25 : q_cat 256 25 (.isub) 1 0 0 (0) := ⟨rfl, rfl⟩
theorem c256_26 : q_cat 256 26 (.ireturn) 1 0 0 (0) := ⟨rfl, rfl⟩
theorem k256 {Γ : q_Γ} (hG : q_GG Γ) {h : q_F} (hZ : q_Bz h) (hR : q_Rb h) {v1 : Int} (hr1 : q_r32 v1) (hp0 : 0 ≤ v1 ∧ v1 < 3) :
    q_M Γ q_K 155 256 [(2, Int.ofNat 139), (0, v1)] h (fun t w h' => (t = 1 ∧ (∃ z, w = ((0, z) : q_V) ∧ q_r32 z) ∧ h' = h)) := by
  refine q_M.of (by decide) (Nat.le_of_ble_eq_true rfl) hG ?_
  refine r_aload_n c256_0 rfl rfl ?_
  refine r_bipush c256_1 rfl ?_
  refine r_iload_n c256_3 rfl rfl ?_
  refine r_iadd c256_4 (by first | exact q_w32_id (by omega) (by omega) | exact q_w32w _ | exact rfl) rfl ?_
  refine r_vcG c256_5 (by first | assumption | omega) (by decide) (by first | assumption | rfl) rfl rfl rfl (k303 hG hZ hR (by first | assumption | omega | exact ⟨q_rg1 _, q_rg2 _⟩ | exact ⟨q_rh1 _, q_rh2 _⟩ | exact q_rj ⟨q_rg1 _, q_rg2 _⟩ | exact q_rgi _ | exact q_rgj _ | exact q_rj (q_rgi _) | exact q_rj (by assumption)) (by first | assumption | omega)) ?_
  intro t1 w1 g1 p1
  obtain ⟨rfl, ⟨z1, rfl, hv1, hs1⟩, e1⟩ := p1
  have q91 : h = g1 := e1.symm
  subst q91
  refine Or.inr (Or.inl ⟨rfl, ?_⟩)
  refine r_aload_n c256_8 rfl rfl ?_
  refine r_bipush c256_9 rfl ?_
  refine r_iload_n c256_11 rfl rfl ?_
  refine r_iadd c256_12 (by first | exact q_w32_id (by omega) (by omega) | exact q_w32w _ | exact rfl) rfl ?_
  refine r_vcG c256_13 (by first | assumption | omega) (by decide) (by first | assumption | rfl) rfl rfl rfl (k303 hG hZ hR (by first | assumption | omega | exact ⟨q_rg1 _, q_rg2 _⟩ | exact ⟨q_rh1 _, q_rh2 _⟩ | exact q_rj ⟨q_rg1 _, q_rg2 _⟩ | exact q_rgi _ | exact q_rgj _ | exact q_rj (q_rgi _) | exact q_rj (by assumption)) (by first | assumption | omega)) ?_
  intro t2 w2 g2 p2
  obtain ⟨rfl, ⟨z2, rfl, hv2, hs2⟩, e2⟩ := p2
  have q92 : h = g2 := e2.symm
  subst q92
  refine Or.inr (Or.inl ⟨rfl, ?_⟩)
  refine r_isub c256_16 (by first | exact q_w32_id (by omega) (by omega) | exact q_w32w _ | exact rfl) rfl ?_
  refine r_aload_n c256_17 rfl rfl ?_
  refine r_bipush c256_18 rfl ?_
  refine r_iload_n c256_20 rfl rfl ?_
  refine r_iadd c256_21 (by first | exact q_w32_id (by omega) (by omega) | exact q_w32w _ | exact rfl) rfl ?_
  refine r_vcG c256_22 (by first | assumption | omega) (by decide) (by first | assumption | rfl) rfl rfl rfl (k303 hG hZ hR (by first | assumption | omega | exact ⟨q_rg1 _, q_rg2 _⟩ | exact ⟨q_rh1 _, q_rh2 _⟩ | exact q_rj ⟨q_rg1 _, q_rg2 _⟩ | exact q_rgi _ | exact q_rgj _ | exact q_rj (q_rgi _) | exact q_rj (by assumption)) (by first | assumption | omega)) ?_
  intro t3 w3 g3 p3
  obtain ⟨rfl, ⟨z3, rfl, hv3, hs3⟩, e3⟩ := p3
  have q93 : h = g3 := e3.symm
  subst q93
  refine Or.inr (Or.inl ⟨rfl, ?_⟩)
  refine r_isub c256_25 (by first | exact q_w32_id (by omega) (by omega) | exact q_w32w _ | exact rfl) rfl ?_
  exact r_iret c256_26 ⟨rfl, rfl, rfl⟩ ⟨rfl, ⟨_, rfl, (by first | assumption | omega | exact ⟨q_rg1 _, q_rg2 _⟩ | exact ⟨q_rh1 _, q_rh2 _⟩ | exact q_rj ⟨q_rg1 _, q_rg2 _⟩ | exact q_rgi _ | exact q_rgj _ | exact q_rj (q_rgi _) | exact q_rj (by assumption))⟩, rfl⟩
theorem c270_0 : q_cat 270 0 (.aload_n 0) 1 0 0 (0) := ⟨rfl, rfl⟩
theorem c270_1 : q_cat 270 1 (.getfield 7) 3 9 0 (3) := ⟨rfl, rfl⟩
theorem c270_4 : q_cat 270 4 (.iconst 3) 1 0 0 (0) := ⟨rfl, rfl⟩
theorem c270_5 : q_cat 270 5 (.laload) 1 0 0 (0) := ⟨rfl, rfl⟩
theorem c270_6 : q_cat 270 6 (.lconst 0) 1 0 0 (0) := ⟨rfl, rfl⟩
theorem c270_7 : q_cat 270 7 (.lcmp) 1 0 0 (0) := ⟨rfl, rfl⟩
theorem c270_8 : q_cat 270 8 (.ifCond .ne 14) 3 22 0 (0) := ⟨rfl, rfl⟩
theorem c270_11 : q_cat 270 11 (.aload_n 0) 1 0 0 (0) := ⟨rfl, rfl⟩
theorem c270_12 : q_cat 270 12 (.getfield 7) 3 9 0 (3) := ⟨rfl, rfl⟩
theorem c270_15 : q_cat 270 15 (.iconst 4) 1 0 0 (0) := ⟨rfl, rfl⟩
theorem c270_16 : q_cat 270 16 (.laload) 1 0 0 (0) := ⟨rfl, rfl⟩
theorem c270_17 : q_cat 270 17 (.lconst 0) 1 0 0 (0) := ⟨rfl, rfl⟩
theorem c270_18 : q_cat 270 18 (.lcmp) 1 0 0 (0) := ⟨rfl, rfl⟩
theorem c270_19 : q_cat 270 19 (.ifCond .eq 7) 3 26 0 (0) := ⟨rfl, rfl⟩
theorem c270_22 : q_cat 270 22 (.iconst 1) 1 0 0 (0) := ⟨rfl, rfl⟩
theorem c270_23 : q_cat 270 23 (.goto 4) 3 27 0 (0) := ⟨rfl, rfl⟩
theorem c270_26 : q_cat 270 26 (.iconst 0) 1 0 0 (0) := ⟨rfl, rfl⟩
theorem c270_27 : q_cat 270 27 (.ireturn) 1 0 0 (0) := ⟨rfl, rfl⟩
theorem k270 {Γ : q_Γ} (hG : q_GG Γ) {h : q_F} (hZ : q_Bz h) (hR : q_Rb h)   :
    q_M Γ q_K 155 270 [(2, Int.ofNat 139)] h (fun t w h' => (t = 1 ∧ (∃ z, w = ((0, z) : q_V) ∧ (z = 0 ∨ z = 1)) ∧ h' = h)) := by
  refine q_M.of (by decide) (Nat.le_of_ble_eq_true rfl) hG ?_
  refine r_aload_n c270_0 rfl rfl ?_
  refine r_getr c270_1 (by first | assumption | omega) (by decide) (by first | assumption | rfl) rfl rfl ?_
  refine r_iconst c270_4 rfl ?_
  refine r_laldw hR c270_5 (show q_w32 (3) = 3 from rfl) (by first | assumption | omega) (by first | assumption | omega) (show Int.toNat 3 = 3 from rfl) rfl ?_
  intro y1
  refine r_lconst c270_6 rfl ?_
  refine r_lcmpn c270_7 rfl (by first | exact q_w64_id (by omega) (by omega) | exact rfl) (show q_w64 (0) = 0 from rfl) ?_ ?_ ?_
  · intro b2
    refine r_if_ne c270_8 rfl (show q_w32 (-1) = -1 from rfl) ?_ ?_
    · intro b3
      refine r_iconst c270_22 rfl ?_
      refine r_goto c270_23 ?_
      exact r_zret c270_27 ⟨rfl, rfl, rfl⟩ (by decide) ⟨rfl, ⟨_, rfl, (by decide)⟩, rfl⟩
    · intro b3
      exact absurd b3.1 (by decide)
  · intro b2
    refine r_if_ne c270_8 rfl (show q_w32 (0) = 0 from rfl) ?_ ?_
    · intro b4
      exact absurd b4.1 (by decide)
    · intro b4
      refine r_aload_n c270_11 rfl rfl ?_
      refine r_getr c270_12 (by first | assumption | omega) (by decide) (by first | assumption | rfl) rfl rfl ?_
      refine r_iconst c270_15 rfl ?_
      refine r_laldw hR c270_16 (show q_w32 (4) = 4 from rfl) (by first | assumption | omega) (by first | assumption | omega) (show Int.toNat 4 = 4 from rfl) rfl ?_
      intro y5
      refine r_lconst c270_17 rfl ?_
      refine r_lcmpn c270_18 rfl (by first | exact q_w64_id (by omega) (by omega) | exact rfl) (show q_w64 (0) = 0 from rfl) ?_ ?_ ?_
      · intro b6
        refine r_if_eq c270_19 rfl (show q_w32 (-1) = -1 from rfl) ?_ ?_
        · intro b7
          exact absurd b7.1 (by decide)
        · intro b7
          refine r_iconst c270_22 rfl ?_
          refine r_goto c270_23 ?_
          exact r_zret c270_27 ⟨rfl, rfl, rfl⟩ (by decide) ⟨rfl, ⟨_, rfl, (by decide)⟩, rfl⟩
      · intro b6
        refine r_if_eq c270_19 rfl (show q_w32 (0) = 0 from rfl) ?_ ?_
        · intro b8
          refine r_iconst c270_26 rfl ?_
          exact r_zret c270_27 ⟨rfl, rfl, rfl⟩ (by decide) ⟨rfl, ⟨_, rfl, (by decide)⟩, rfl⟩
        · intro b8
          exact absurd b8.1 (by decide)
      · intro b6
        refine r_if_eq c270_19 rfl (show q_w32 (1) = 1 from rfl) ?_ ?_
        · intro b9
          exact absurd b9.1 (by decide)
        · intro b9
          refine r_iconst c270_22 rfl ?_
          refine r_goto c270_23 ?_
          exact r_zret c270_27 ⟨rfl, rfl, rfl⟩ (by decide) ⟨rfl, ⟨_, rfl, (by decide)⟩, rfl⟩
  · intro b2
    refine r_if_ne c270_8 rfl (show q_w32 (1) = 1 from rfl) ?_ ?_
    · intro b10
      refine r_iconst c270_22 rfl ?_
      refine r_goto c270_23 ?_
      exact r_zret c270_27 ⟨rfl, rfl, rfl⟩ (by decide) ⟨rfl, ⟨_, rfl, (by decide)⟩, rfl⟩
    · intro b10
      exact absurd b10.1 (by decide)
theorem c291_0 : q_cat 291 0 (.aload_n 0) 1 0 0 (0) := ⟨rfl, rfl⟩
theorem c291_1 : q_cat 291 1 (.getfield 7) 3 9 0 (3) := ⟨rfl, rfl⟩
theorem c291_4 : q_cat 291 4 (.iconst 3) 1 0 0 (0) := ⟨rfl, rfl⟩
theorem c291_5 : q_cat 291 5 (.laload) 1 0 0 (0) := ⟨rfl, rfl⟩
theorem c291_6 : q_cat 291 6 (.lconst 0) 1 0 0 (0) := ⟨rfl, rfl⟩
theorem c291_7 : q_cat 291 7 (.lcmp) 1 0 0 (0) := ⟨rfl, rfl⟩
theorem c291_8 : q_cat 291 8 (.ifCond .ne 28) 3 36 0 (0) := ⟨rfl, rfl⟩
theorem c291_11 : q_cat 291 11 (.aload_n 0) 1 0 0 (0) := ⟨rfl, rfl⟩
theorem c291_12 : q_cat 291 12 (.invokevirtual 277) 3 265 0 (0) := ⟨rfl, rfl⟩
theorem c291_15 : q_cat 291 15 (.iconst 3) 1 0 0 (0) := ⟨rfl, rfl⟩
theorem c291_16 : q_cat 291 16 (.if_icmp .ne 20) 3 36 0 (0) := ⟨rfl, rfl⟩
theorem c291_19 : q_cat 291 19 (.aload_n 0) 1 0 0 (0) := ⟨rfl, rfl⟩
theorem c291_20 : q_cat 291 20 (.getfield 7) 3 9 0 (3) := ⟨rfl, rfl⟩
theorem c291_23 : q_cat 291 23 (.iconst 4) 1 0 0 (0) := ⟨rfl, rfl⟩
theorem c291_24 : q_cat 291 24 (.laload) 1 0 0 (0) := ⟨rfl, rfl⟩
theorem c291_25 : q_cat 291 25 (.ldc2_w 302) 3 0 0 (16) := ⟨rfl, rfl⟩
theorem c291_28 : q_cat 291 28 (.lcmp) 1 0 0 (0) := ⟨rfl, rfl⟩
theorem c291_29 : q_cat 291 29 (.ifCond .ge 7) 3 36 0 (0) := ⟨rfl, rfl⟩
theorem c291_32 : q_cat 291 32 (.iconst 1) 1 0 0 (0) := ⟨rfl, rfl⟩
theorem c291_33 : q_cat 291 33 (.goto 4) 3 37 0 (0) := ⟨rfl, rfl⟩
theorem c291_36 : q_cat 291 36 (.iconst 0) 1 0 0 (0) := ⟨rfl, rfl⟩
theorem c291_37 : q_cat 291 37 (.ireturn) 1 0 0 (0) := ⟨rfl, rfl⟩
theorem k291 {Γ : q_Γ} (hG : q_GG Γ) {h : q_F} (hZ : q_Bz h) (hR : q_Rb h)   :
    q_M Γ q_K 155 291 [(2, Int.ofNat 139)] h (fun t w h' => (t = 1 ∧ (∃ z, w = ((0, z) : q_V) ∧ (z = 0 ∨ z = 1)) ∧ h' = h)) := by
  refine q_M.of (by decide) (Nat.le_of_ble_eq_true rfl) hG ?_
  refine r_aload_n c291_0 rfl rfl ?_
  refine r_getr c291_1 (by first | assumption | omega) (by decide) (by first | assumption | rfl) rfl rfl ?_
  refine r_iconst c291_4 rfl ?_
  refine r_laldw hR c291_5 (show q_w32 (3) = 3 from rfl) (by first | assumption | omega) (by first | assumption | omega) (show Int.toNat 3 = 3 from rfl) rfl ?_
  intro y1
  refine r_lconst c291_6 rfl ?_
  refine r_lcmpn c291_7 rfl (by first | exact q_w64_id (by omega) (by omega) | exact rfl) (show q_w64 (0) = 0 from rfl) ?_ ?_ ?_
  · intro b2
    refine r_if_ne c291_8 rfl (show q_w32 (-1) = -1 from rfl) ?_ ?_
    · intro b3
      refine r_iconst c291_36 rfl ?_
      exact r_zret c291_37 ⟨rfl, rfl, rfl⟩ (by decide) ⟨rfl, ⟨_, rfl, (by decide)⟩, rfl⟩
    · intro b3
      exact absurd b3.1 (by decide)
  · intro b2
    refine r_if_ne c291_8 rfl (show q_w32 (0) = 0 from rfl) ?_ ?_
    · intro b4
      exact absurd b4.1 (by decide)
    · intro b4
      refine r_aload_n c291_11 rfl rfl ?_
      refine r_vcG c291_12 (by first | assumption | omega) (by decide) (by first | assumption | rfl) rfl rfl rfl (k265 hG hZ hR) ?_
      intro t5 w5 g5 p5
      obtain ⟨rfl, ⟨z5, rfl, hv5⟩, e5⟩ := p5
      have q95 : h = g5 := e5.symm
      subst q95
      refine Or.inr (Or.inl ⟨rfl, ?_⟩)
      refine r_iconst c291_15 rfl ?_
      refine r_ic_ne c291_16 rfl (by first | exact q_w32_id (by omega) (by omega) | exact q_w32w _ | exact rfl) (show q_w32 (3) = 3 from rfl) ?_ ?_
      · intro b6
        refine r_iconst c291_36 rfl ?_
        exact r_zret c291_37 ⟨rfl, rfl, rfl⟩ (by decide) ⟨rfl, ⟨_, rfl, (by decide)⟩, rfl⟩
      · intro b6
        refine r_aload_n c291_19 rfl rfl ?_
        refine r_getr c291_20 (by first | assumption | omega) (by decide) (by first | assumption | rfl) rfl rfl ?_
        refine r_iconst c291_23 rfl ?_
        refine r_laldw hR c291_24 (show q_w32 (4) = 4 from rfl) (by first | assumption | omega) (by first | assumption | omega) (show Int.toNat 4 = 4 from rfl) rfl ?_
        intro y7
        refine r_ldc2 c291_25 rfl rfl ?_
        refine r_lcmpn c291_28 rfl (by first | exact q_w64_id (by omega) (by omega) | exact rfl) (show q_w64 (16) = 16 from rfl) ?_ ?_ ?_
        · intro b8
          refine r_if_ge c291_29 rfl (show q_w32 (-1) = -1 from rfl) ?_ ?_
          · intro b9
            exact absurd b9.1 (by decide)
          · intro b9
            refine r_iconst c291_32 rfl ?_
            refine r_goto c291_33 ?_
            exact r_zret c291_37 ⟨rfl, rfl, rfl⟩ (by decide) ⟨rfl, ⟨_, rfl, (by decide)⟩, rfl⟩
        · intro b8
          refine r_if_ge c291_29 rfl (show q_w32 (0) = 0 from rfl) ?_ ?_
          · intro b10
            refine r_iconst c291_36 rfl ?_
            exact r_zret c291_37 ⟨rfl, rfl, rfl⟩ (by decide) ⟨rfl, ⟨_, rfl, (by decide)⟩, rfl⟩
          · intro b10
            exact absurd b10.1 (by decide)
        · intro b8
          refine r_if_ge c291_29 rfl (show q_w32 (1) = 1 from rfl) ?_ ?_
          · intro b11
            refine r_iconst c291_36 rfl ?_
            exact r_zret c291_37 ⟨rfl, rfl, rfl⟩ (by decide) ⟨rfl, ⟨_, rfl, (by decide)⟩, rfl⟩
          · intro b11
            exact absurd b11.1 (by decide)
  · intro b2
    refine r_if_ne c291_8 rfl (show q_w32 (1) = 1 from rfl) ?_ ?_
    · intro b12
      refine r_iconst c291_36 rfl ?_
      exact r_zret c291_37 ⟨rfl, rfl, rfl⟩ (by decide) ⟨rfl, ⟨_, rfl, (by decide)⟩, rfl⟩
    · intro b12
      exact absurd b12.1 (by decide)
theorem c299_0 : q_cat 299 0 (.aload_n 0) 1 0 0 (0) := ⟨rfl, rfl⟩
theorem c299_1 : q_cat 299 1 (.iconst 0) 1 0 0 (0) := ⟨rfl, rfl⟩
theorem c299_2 : q_cat 299 2 (.putfield 60) 3 9 7 (0) := ⟨rfl, rfl⟩
theorem c299_5 : q_cat 299 5 (.aload_n 0) 1 0 0 (0) := ⟨rfl, rfl⟩
theorem c299_6 : q_cat 299 6 (.iload_n 1) 1 1 0 (0) := ⟨rfl, rfl⟩
theorem c299_7 : q_cat 299 7 (.i2l) 1 0 0 (0) := ⟨rfl, rfl⟩
theorem c299_8 : q_cat 299 8 (.lconst 0) 1 0 0 (0) := ⟨rfl, rfl⟩
theorem c299_9 : q_cat 299 9 (.aload_n 0) 1 0 0 (0) := ⟨rfl, rfl⟩
theorem c299_10 : q_cat 299 10 (.getfield 7) 3 9 0 (3) := ⟨rfl, rfl⟩
theorem c299_13 : q_cat 299 13 (.iconst 4) 1 0 0 (0) := ⟨rfl, rfl⟩
theorem c299_14 : q_cat 299 14 (.laload) 1 0 0 (0) := ⟨rfl, rfl⟩
theorem c299_15 : q_cat 299 15 (.lconst 1) 1 0 0 (1) := ⟨rfl, rfl⟩
theorem c299_16 : q_cat 299 16 (.lsub) 1 0 0 (0) := ⟨rfl, rfl⟩
theorem c299_17 : q_cat 299 17 (.invokestatic 163) 3 267 1 (0) := ⟨rfl, rfl⟩
theorem c299_20 : q_cat 299 20 (.ifCond .ne 7) 3 27 0 (0) := ⟨rfl, rfl⟩
theorem c299_23 : q_cat 299 23 (.iconst 1) 1 0 0 (0) := ⟨rfl, rfl⟩
theorem c299_24 : q_cat 299 24 (.goto 4) 3 28 0 (0) := ⟨rfl, rfl⟩
theorem c299_27 : q_cat 299 27 (.iconst 0) 1 0 0 (0) := ⟨rfl, rfl⟩
theorem c299_28 : q_cat 299 28 (.iconst 1) 1 0 0 (0) := ⟨rfl, rfl⟩
theorem c299_29 : q_cat 299 29 (.invokevirtual 273) 3 258 0 (0) := ⟨rfl, rfl⟩
theorem c299_32 : q_cat 299 32 (.ireturn) 1 0 0 (0) := ⟨rfl, rfl⟩
theorem k299 {Γ : q_Γ} (hG : q_GG Γ) {h : q_F} (hZ : q_Bz h) (hR : q_Rb h) {v1 : Int} (hr1 : q_r32 v1) :
    q_M Γ q_K 155 299 [(2, Int.ofNat 139), (0, v1)] h (fun t w h' => (t = 1 ∧ (∃ z, w = ((0, z) : q_V) ∧ (z = 0 ∨ z = 1) ∧ (z = 1 ∨ (0 ≤ v1 ∧ v1 < h' 140 4 ∧ h' 140 4 ≤ 16))) ∧ q_Gr (fun k j => k = 139 ∧ j = 7) h h')) := by
  refine q_M.of (by decide) (Nat.le_of_ble_eq_true rfl) hG ?_
  refine r_aload_n c299_0 rfl rfl ?_
  refine r_iconst c299_1 rfl ?_
  refine r_putiw c299_2 rfl rfl rfl (q_Rv0 (fun h9 => absurd h9 (by decide)) (fun _ => ⟨(by first | assumption | omega | exact ⟨q_rg1 _, q_rg2 _⟩ | exact ⟨q_rh1 _, q_rh2 _⟩ | exact q_rj ⟨q_rg1 _, q_rg2 _⟩ | exact q_rgi _ | exact q_rgj _ | exact q_rj (q_rgi _) | exact q_rj (by assumption)), Or.inr (by first | assumption | omega | exact ⟨q_rg1 _, q_rg2 _⟩ | exact ⟨q_rh1 _, q_rh2 _⟩ | exact q_rj ⟨q_rg1 _, q_rg2 _⟩ | exact q_rgi _ | exact q_rgj _ | exact q_rj (q_rgi _) | exact q_rj (by assumption)), by omega⟩) (fun h9 h8 => absurd h9 (by decide)) (fun h9 h8 => absurd h9 (by decide))) rfl ?_
  intro g1 f1 w1
  have m140004f1 := f1.1 140 4 (by omega)
  have m139014f1 := f1.1 139 14 (by omega)
  have m139005f1 := f1.1 139 5 (by omega)
  refine r_aload_n c299_5 rfl rfl ?_
  refine r_iload_n c299_6 rfl rfl ?_
  refine r_i2l c299_7 (by first | exact q_w32_id (by omega) (by omega) | exact q_w32w _ | exact rfl) rfl ?_
  refine r_lconst c299_8 rfl ?_
  refine r_aload_n c299_9 rfl rfl ?_
  refine r_getr c299_10 (by first | assumption | omega) (by decide) (by first | assumption | rfl) rfl rfl ?_
  refine r_iconst c299_13 rfl ?_
  refine r_laldw (q_Gr.rb (S := fun k j => k = 139 ∧ j = 7) hR (by repeat (first | exact q_Gr.rf | refine q_Gr.tr ?_ (by assumption) (by intro k9 j9 hk9; omega)))) c299_14 (show q_w32 (4) = 4 from rfl) (by first | assumption | omega) (by first | assumption | omega) (show Int.toNat 4 = 4 from rfl) rfl ?_
  intro y2
  refine r_lconst c299_15 rfl ?_
  refine r_lsub c299_16 (by first | exact q_w64_id (by omega) (by omega) | exact rfl) rfl ?_
  refine r_callG c299_17 (fun _ => rfl) rfl rfl rfl (k267 hG (q_Gr.bz (S := fun k j => k = 139 ∧ j = 7) hZ (by repeat (first | exact q_Gr.rf | refine q_Gr.tr ?_ (by assumption) (by intro k9 j9 hk9; omega)))) (q_Gr.rb (S := fun k j => k = 139 ∧ j = 7) hR (by repeat (first | exact q_Gr.rf | refine q_Gr.tr ?_ (by assumption) (by intro k9 j9 hk9; omega)))) (by first | assumption | omega | exact ⟨q_rg1 _, q_rg2 _⟩ | exact ⟨q_rh1 _, q_rh2 _⟩ | exact q_rj ⟨q_rg1 _, q_rg2 _⟩ | exact q_rgi _ | exact q_rgj _ | exact q_rj (q_rgi _) | exact q_rj (by assumption)) (by first | assumption | omega | exact ⟨q_rg1 _, q_rg2 _⟩ | exact ⟨q_rh1 _, q_rh2 _⟩ | exact q_rj ⟨q_rg1 _, q_rg2 _⟩ | exact q_rgi _ | exact q_rgj _ | exact q_rj (q_rgi _) | exact q_rj (by assumption)) (by first | assumption | omega | exact ⟨q_rg1 _, q_rg2 _⟩ | exact ⟨q_rh1 _, q_rh2 _⟩ | exact q_rj ⟨q_rg1 _, q_rg2 _⟩ | exact q_rgi _ | exact q_rgj _ | exact q_rj (q_rgi _) | exact q_rj (by assumption))) ?_
  intro t3 w3 g3 p3
  obtain ⟨rfl, ⟨z3, rfl, hz3, hs3⟩, e3⟩ := p3
  have q93 : g1 = g3 := e3.symm
  subst q93
  refine Or.inr (Or.inl ⟨rfl, ?_⟩)
  refine r_if_ne c299_20 rfl (by first | exact q_w32_id (by omega) (by omega) | exact q_w32w _ | exact rfl) ?_ ?_
  · intro b4
    refine r_iconst c299_27 rfl ?_
    refine r_iconst c299_28 rfl ?_
    refine r_vcG c299_29 (by first | assumption | omega) (by decide) (by first | assumption | rfl) rfl rfl rfl (k258 hG (q_Gr.bz (S := fun k j => k = 139 ∧ j = 7) hZ (by repeat (first | exact q_Gr.rf | refine q_Gr.tr ?_ (by assumption) (by intro k9 j9 hk9; omega)))) (q_Gr.rb (S := fun k j => k = 139 ∧ j = 7) hR (by repeat (first | exact q_Gr.rf | refine q_Gr.tr ?_ (by assumption) (by intro k9 j9 hk9; omega)))) (by first | assumption | decide | omega) (by first | assumption | omega | exact ⟨q_rg1 _, q_rg2 _⟩ | exact ⟨q_rh1 _, q_rh2 _⟩ | exact q_rj ⟨q_rg1 _, q_rg2 _⟩ | exact q_rgi _ | exact q_rgj _ | exact q_rj (q_rgi _) | exact q_rj (by assumption))) ?_
    intro t5 w5 g5 p5
    obtain ⟨rfl, ⟨z5, rfl, hz5, hs5⟩, e5⟩ := p5
    have m140004e5 := e5.1 140 4 (by omega)
    have m139014e5 := e5.1 139 14 (by omega)
    have m139005e5 := e5.1 139 5 (by omega)
    refine Or.inr (Or.inl ⟨rfl, ?_⟩)
    exact r_zret c299_32 ⟨rfl, rfl, rfl⟩ (by first | assumption | omega) ⟨rfl, ⟨_, rfl, (by first | assumption | omega), (by omega)⟩, (by repeat (first | exact q_Gr.rf | refine q_Gr.tr ?_ (by assumption) (by intro k9 j9 hk9; omega)))⟩
  · intro b4
    refine r_iconst c299_23 rfl ?_
    refine r_goto c299_24 ?_
    refine r_iconst c299_28 rfl ?_
    refine r_vcG c299_29 (by first | assumption | omega) (by decide) (by first | assumption | rfl) rfl rfl rfl (k258 hG (q_Gr.bz (S := fun k j => k = 139 ∧ j = 7) hZ (by repeat (first | exact q_Gr.rf | refine q_Gr.tr ?_ (by assumption) (by intro k9 j9 hk9; omega)))) (q_Gr.rb (S := fun k j => k = 139 ∧ j = 7) hR (by repeat (first | exact q_Gr.rf | refine q_Gr.tr ?_ (by assumption) (by intro k9 j9 hk9; omega)))) (by first | assumption | decide | omega) (by first | assumption | omega | exact ⟨q_rg1 _, q_rg2 _⟩ | exact ⟨q_rh1 _, q_rh2 _⟩ | exact q_rj ⟨q_rg1 _, q_rg2 _⟩ | exact q_rgi _ | exact q_rgj _ | exact q_rj (q_rgi _) | exact q_rj (by assumption))) ?_
    intro t6 w6 g6 p6
    obtain ⟨rfl, ⟨z6, rfl, hz6, hs6⟩, e6⟩ := p6
    have m140004e6 := e6.1 140 4 (by omega)
    have m139014e6 := e6.1 139 14 (by omega)
    have m139005e6 := e6.1 139 5 (by omega)
    refine Or.inr (Or.inl ⟨rfl, ?_⟩)
    exact r_zret c299_32 ⟨rfl, rfl, rfl⟩ (by first | assumption | omega) ⟨rfl, ⟨_, rfl, (by first | assumption | omega), (by omega)⟩, (by repeat (first | exact q_Gr.rf | refine q_Gr.tr ?_ (by assumption) (by intro k9 j9 hk9; omega)))⟩
theorem c300_0 : q_cat 300 0 (.aload_n 0) 1 0 0 (0) := ⟨rfl, rfl⟩
theorem c300_1 : q_cat 300 1 (.iload_n 1) 1 1 0 (0) := ⟨rfl, rfl⟩
theorem c300_2 : q_cat 300 2 (.invokevirtual 328) 3 299 0 (0) := ⟨rfl, rfl⟩
theorem c300_5 : q_cat 300 5 (.ifCond .ne 11) 3 16 0 (0) := ⟨rfl, rfl⟩
theorem c300_8 : q_cat 300 8 (.aload_n 0) 1 0 0 (0) := ⟨rfl, rfl⟩
theorem c300_9 : q_cat 300 9 (.iload_n 2) 1 2 0 (0) := ⟨rfl, rfl⟩
theorem c300_10 : q_cat 300 10 (.invokevirtual 280) 3 298 0 (0) := ⟨rfl, rfl⟩
theorem c300_13 : q_cat 300 13 (.ifCond .eq 7) 3 20 0 (0) := ⟨rfl, rfl⟩
theorem c300_16 : q_cat 300 16 (.iconst 1) 1 0 0 (0) := ⟨rfl, rfl⟩
theorem c300_17 : q_cat 300 17 (.goto 4) 3 21 0 (0) := ⟨rfl, rfl⟩
theorem c300_20 : q_cat 300 20 (.iconst 0) 1 0 0 (0) := ⟨rfl, rfl⟩
theorem c300_21 : q_cat 300 21 (.ireturn) 1 0 0 (0) := ⟨rfl, rfl⟩
theorem k300 {Γ : q_Γ} (hG : q_GG Γ) {h : q_F} (hZ : q_Bz h) (hR : q_Rb h) {v1 : Int} {v2 : Int} (hr1 : q_r32 v1) (hr2 : q_r32 v2) :
    q_M Γ q_K 155 300 [(2, Int.ofNat 139), (0, v1), (0, v2)] h (fun t w h' => (t = 1 ∧ (∃ z, w = ((0, z) : q_V) ∧ (z = 0 ∨ z = 1) ∧ (z = 1 ∨ (0 ≤ v1 ∧ v1 < h' 140 4 ∧ h' 140 4 ≤ 16 ∧ 0 ≤ v2 ∧ v2 < 3))) ∧ q_Gr (fun k j => k = 139 ∧ j = 7) h h')) := by
  refine q_M.of (by decide) (Nat.le_of_ble_eq_true rfl) hG ?_
  refine r_aload_n c300_0 rfl rfl ?_
  refine r_iload_n c300_1 rfl rfl ?_
  refine r_vcG c300_2 (by first | assumption | omega) (by decide) (by first | assumption | rfl) rfl rfl rfl (k299 hG (q_Gr.bz (S := fun k j => k = 139 ∧ j = 7) hZ (by repeat (first | exact q_Gr.rf | refine q_Gr.tr ?_ (by assumption) (by intro k9 j9 hk9; omega)))) (q_Gr.rb (S := fun k j => k = 139 ∧ j = 7) hR (by repeat (first | exact q_Gr.rf | refine q_Gr.tr ?_ (by assumption) (by intro k9 j9 hk9; omega)))) (by first | assumption | omega | exact ⟨q_rg1 _, q_rg2 _⟩ | exact ⟨q_rh1 _, q_rh2 _⟩ | exact q_rj ⟨q_rg1 _, q_rg2 _⟩ | exact q_rgi _ | exact q_rgj _ | exact q_rj (q_rgi _) | exact q_rj (by assumption))) ?_
  intro t1 w1 g1 p1
  obtain ⟨rfl, ⟨z1, rfl, hz1, hs1⟩, e1⟩ := p1
  have m140004e1 := e1.1 140 4 (by omega)
  have m139014e1 := e1.1 139 14 (by omega)
  have m139005e1 := e1.1 139 5 (by omega)
  refine Or.inr (Or.inl ⟨rfl, ?_⟩)
  refine r_if_ne c300_5 rfl (by first | exact q_w32_id (by omega) (by omega) | exact q_w32w _ | exact rfl) ?_ ?_
  · intro b2
    refine r_iconst c300_16 rfl ?_
    refine r_goto c300_17 ?_
    exact r_zret c300_21 ⟨rfl, rfl, rfl⟩ (by decide) ⟨rfl, ⟨_, rfl, (by decide), (by omega)⟩, (by repeat (first | exact q_Gr.rf | refine q_Gr.tr ?_ (by assumption) (by intro k9 j9 hk9; omega)))⟩
  · intro b2
    refine r_aload_n c300_8 rfl rfl ?_
    refine r_iload_n c300_9 rfl rfl ?_
    refine r_vcG c300_10 (by first | assumption | omega) (by decide) (by first | assumption | rfl) rfl rfl rfl (k298 hG (q_Gr.bz (S := fun k j => k = 139 ∧ j = 7) hZ (by repeat (first | exact q_Gr.rf | refine q_Gr.tr ?_ (by assumption) (by intro k9 j9 hk9; omega)))) (q_Gr.rb (S := fun k j => k = 139 ∧ j = 7) hR (by repeat (first | exact q_Gr.rf | refine q_Gr.tr ?_ (by assumption) (by intro k9 j9 hk9; omega)))) (by first | assumption | omega | exact ⟨q_rg1 _, q_rg2 _⟩ | exact ⟨q_rh1 _, q_rh2 _⟩ | exact q_rj ⟨q_rg1 _, q_rg2 _⟩ | exact q_rgi _ | exact q_rgj _ | exact q_rj (q_rgi _) | exact q_rj (by assumption))) ?_
    intro t3 w3 g3 p3
    obtain ⟨rfl, ⟨z3, rfl, hz3, hs3⟩, e3⟩ := p3
    have m140004e3 := e3.1 140 4 (by omega)
    have m139014e3 := e3.1 139 14 (by omega)
    have m139005e3 := e3.1 139 5 (by omega)
    refine Or.inr (Or.inl ⟨rfl, ?_⟩)
    refine r_if_eq c300_13 rfl (by first | exact q_w32_id (by omega) (by omega) | exact q_w32w _ | exact rfl) ?_ ?_
    · intro b4
      refine r_iconst c300_20 rfl ?_
      exact r_zret c300_21 ⟨rfl, rfl, rfl⟩ (by decide) ⟨rfl, ⟨_, rfl, (by decide), (by omega)⟩, (by repeat (first | exact q_Gr.rf | refine q_Gr.tr ?_ (by assumption) (by intro k9 j9 hk9; omega)))⟩
    · intro b4
      refine r_iconst c300_16 rfl ?_
      refine r_goto c300_17 ?_
      exact r_zret c300_21 ⟨rfl, rfl, rfl⟩ (by decide) ⟨rfl, ⟨_, rfl, (by decide), (by omega)⟩, (by repeat (first | exact q_Gr.rf | refine q_Gr.tr ?_ (by assumption) (by intro k9 j9 hk9; omega)))⟩
theorem c255_0 : q_cat 255 0 (.aload_n 0) 1 0 0 (0) := ⟨rfl, rfl⟩
theorem c255_1 : q_cat 255 1 (.iconst 0) 1 0 0 (0) := ⟨rfl, rfl⟩
theorem c255_2 : q_cat 255 2 (.putfield 60) 3 9 7 (0) := ⟨rfl, rfl⟩
theorem c255_5 : q_cat 255 5 (.aload_n 0) 1 0 0 (0) := ⟨rfl, rfl⟩
theorem c255_6 : q_cat 255 6 (.getfield 264) 3 9 15 (0) := ⟨rfl, rfl⟩
theorem c255_9 : q_cat 255 9 (.ireturn) 1 0 0 (0) := ⟨rfl, rfl⟩
theorem k255 {Γ : q_Γ} (hG : q_GG Γ) {h : q_F} (hZ : q_Bz h) (hR : q_Rb h)   :
    q_M Γ q_K 155 255 [(2, Int.ofNat 139)] h (fun t w h' => (t = 1 ∧ (∃ z, w = ((0, z) : q_V) ∧ q_r32 z) ∧ q_Gr (fun k j => k = 139 ∧ j = 7) h h')) := by
  refine q_M.of (by decide) (Nat.le_of_ble_eq_true rfl) hG ?_
  refine r_aload_n c255_0 rfl rfl ?_
  refine r_iconst c255_1 rfl ?_
  refine r_putiw c255_2 rfl rfl rfl (q_Rv0 (fun h9 => absurd h9 (by decide)) (fun _ => ⟨(by first | assumption | omega | exact ⟨q_rg1 _, q_rg2 _⟩ | exact ⟨q_rh1 _, q_rh2 _⟩ | exact q_rj ⟨q_rg1 _, q_rg2 _⟩ | exact q_rgi _ | exact q_rgj _ | exact q_rj (q_rgi _) | exact q_rj (by assumption)), Or.inr (by first | assumption | omega | exact ⟨q_rg1 _, q_rg2 _⟩ | exact ⟨q_rh1 _, q_rh2 _⟩ | exact q_rj ⟨q_rg1 _, q_rg2 _⟩ | exact q_rgi _ | exact q_rgj _ | exact q_rj (q_rgi _) | exact q_rj (by assumption)), by omega⟩) (fun h9 h8 => absurd h9 (by decide)) (fun h9 h8 => absurd h9 (by decide))) rfl ?_
  intro g1 f1 w1
  have m140004f1 := f1.1 140 4 (by omega)
  have m139014f1 := f1.1 139 14 (by omega)
  have m139005f1 := f1.1 139 5 (by omega)
  refine r_aload_n c255_5 rfl rfl ?_
  refine r_getf (q_Gr.rb (S := fun k j => k = 139 ∧ j = 7) hR (by repeat (first | exact q_Gr.rf | refine q_Gr.tr ?_ (by assumption) (by intro k9 j9 hk9; omega)))) c255_6 rfl (by decide) rfl ?_
  intro y2
  exact r_iret c255_9 ⟨rfl, rfl, rfl⟩ ⟨rfl, ⟨_, rfl, (by first | assumption | omega | exact ⟨q_rg1 _, q_rg2 _⟩ | exact ⟨q_rh1 _, q_rh2 _⟩ | exact q_rj ⟨q_rg1 _, q_rg2 _⟩ | exact q_rgi _ | exact q_rgj _ | exact q_rj (q_rgi _) | exact q_rj (by assumption))⟩, (by repeat (first | exact q_Gr.rf | refine q_Gr.tr ?_ (by assumption) (by intro k9 j9 hk9; omega)))⟩
theorem c257_0 : q_cat 257 0 (.aload_n 0) 1 0 0 (0) := ⟨rfl, rfl⟩
theorem c257_1 : q_cat 257 1 (.iconst 0) 1 0 0 (0) := ⟨rfl, rfl⟩
theorem c257_2 : q_cat 257 2 (.putfield 60) 3 9 7 (0) := ⟨rfl, rfl⟩
theorem c257_5 : q_cat 257 5 (.aload_n 0) 1 0 0 (0) := ⟨rfl, rfl⟩
theorem c257_6 : q_cat 257 6 (.getfield 44) 3 9 16 (0) := ⟨rfl, rfl⟩
theorem c257_9 : q_cat 257 9 (.ireturn) 1 0 0 (0) := ⟨rfl, rfl⟩
theorem k257 {Γ : q_Γ} (hG : q_GG Γ) {h : q_F} (hZ : q_Bz h) (hR : q_Rb h)   :
    q_M Γ q_K 155 257 [(2, Int.ofNat 139)] h (fun t w h' => (t = 1 ∧ (∃ z, w = ((0, z) : q_V) ∧ q_r32 z) ∧ q_Gr (fun k j => k = 139 ∧ j = 7) h h')) := by
  refine q_M.of (by decide) (Nat.le_of_ble_eq_true rfl) hG ?_
  refine r_aload_n c257_0 rfl rfl ?_
  refine r_iconst c257_1 rfl ?_
  refine r_putiw c257_2 rfl rfl rfl (q_Rv0 (fun h9 => absurd h9 (by decide)) (fun _ => ⟨(by first | assumption | omega | exact ⟨q_rg1 _, q_rg2 _⟩ | exact ⟨q_rh1 _, q_rh2 _⟩ | exact q_rj ⟨q_rg1 _, q_rg2 _⟩ | exact q_rgi _ | exact q_rgj _ | exact q_rj (q_rgi _) | exact q_rj (by assumption)), Or.inr (by first | assumption | omega | exact ⟨q_rg1 _, q_rg2 _⟩ | exact ⟨q_rh1 _, q_rh2 _⟩ | exact q_rj ⟨q_rg1 _, q_rg2 _⟩ | exact q_rgi _ | exact q_rgj _ | exact q_rj (q_rgi _) | exact q_rj (by assumption)), by omega⟩) (fun h9 h8 => absurd h9 (by decide)) (fun h9 h8 => absurd h9 (by decide))) rfl ?_
  intro g1 f1 w1
  have m140004f1 := f1.1 140 4 (by omega)
  have m139014f1 := f1.1 139 14 (by omega)
  have m139005f1 := f1.1 139 5 (by omega)
  refine r_aload_n c257_5 rfl rfl ?_
  refine r_getf (q_Gr.rb (S := fun k j => k = 139 ∧ j = 7) hR (by repeat (first | exact q_Gr.rf | refine q_Gr.tr ?_ (by assumption) (by intro k9 j9 hk9; omega)))) c257_6 rfl (by decide) rfl ?_
  intro y2
  exact r_iret c257_9 ⟨rfl, rfl, rfl⟩ ⟨rfl, ⟨_, rfl, (by first | assumption | omega | exact ⟨q_rg1 _, q_rg2 _⟩ | exact ⟨q_rh1 _, q_rh2 _⟩ | exact q_rj ⟨q_rg1 _, q_rg2 _⟩ | exact q_rgi _ | exact q_rgj _ | exact q_rj (q_rgi _) | exact q_rj (by assumption))⟩, (by repeat (first | exact q_Gr.rf | refine q_Gr.tr ?_ (by assumption) (by intro k9 j9 hk9; omega)))⟩
theorem c250_0 : q_cat 250 0 (.aload_n 0) 1 0 0 (0) := ⟨rfl, rfl⟩
theorem c250_1 : q_cat 250 1 (.iconst 0) 1 0 0 (0) := ⟨rfl, rfl⟩
theorem c250_2 : q_cat 250 2 (.putfield 60) 3 9 7 (0) := ⟨rfl, rfl⟩
theorem c250_5 : q_cat 250 5 (.aload_n 0) 1 0 0 (0) := ⟨rfl, rfl⟩
theorem c250_6 : q_cat 250 6 (.iload_n 1) 1 1 0 (0) := ⟨rfl, rfl⟩
theorem c250_7 : q_cat 250 7 (.i2l) 1 0 0 (0) := ⟨rfl, rfl⟩
theorem c250_8 : q_cat 250 8 (.lconst 0) 1 0 0 (0) := ⟨rfl, rfl⟩
theorem c250_9 : q_cat 250 9 (.ldc2_w 271) 3 0 0 (6) := ⟨rfl, rfl⟩
theorem c250_12 : q_cat 250 12 (.invokestatic 163) 3 267 1 (0) := ⟨rfl, rfl⟩
theorem c250_15 : q_cat 250 15 (.ifCond .ne 7) 3 22 0 (0) := ⟨rfl, rfl⟩
theorem c250_18 : q_cat 250 18 (.iconst 1) 1 0 0 (0) := ⟨rfl, rfl⟩
theorem c250_19 : q_cat 250 19 (.goto 4) 3 23 0 (0) := ⟨rfl, rfl⟩
theorem c250_22 : q_cat 250 22 (.iconst 0) 1 0 0 (0) := ⟨rfl, rfl⟩
theorem c250_23 : q_cat 250 23 (.iconst 1) 1 0 0 (0) := ⟨rfl, rfl⟩
theorem c250_24 : q_cat 250 24 (.invokevirtual 273) 3 258 0 (0) := ⟨rfl, rfl⟩
theorem c250_27 : q_cat 250 27 (.ifCond .eq 5) 3 32 0 (0) := ⟨rfl, rfl⟩
theorem c250_30 : q_cat 250 30 (.iconst 0) 1 0 0 (0) := ⟨rfl, rfl⟩
theorem c250_31 : q_cat 250 31 (.ireturn) 1 0 0 (0) := ⟨rfl, rfl⟩
theorem c250_32 : q_cat 250 32 (.iload_n 1) 1 1 0 (0) := ⟨rfl, rfl⟩
theorem c250_33 : q_cat 250 33 (.iconst 5) 1 0 0 (0) := ⟨rfl, rfl⟩
theorem c250_34 : q_cat 250 34 (.if_icmp .ne 10) 3 44 0 (0) := ⟨rfl, rfl⟩
theorem c250_37 : q_cat 250 37 (.aload_n 0) 1 0 0 (0) := ⟨rfl, rfl⟩
theorem c250_38 : q_cat 250 38 (.invokevirtual 277) 3 265 0 (0) := ⟨rfl, rfl⟩
theorem c250_41 : q_cat 250 41 (.goto 21) 3 62 0 (0) := ⟨rfl, rfl⟩
theorem c250_44 : q_cat 250 44 (.iload_n 1) 1 1 0 (0) := ⟨rfl, rfl⟩
theorem c250_45 : q_cat 250 45 (.bipush 6) 2 0 0 (0) := ⟨rfl, rfl⟩
theorem c250_47 : q_cat 250 47 (.if_icmp .ne 10) 3 57 0 (0) := ⟨rfl, rfl⟩
theorem c250_50 : q_cat 250 50 (.aload_n 0) 1 0 0 (0) := ⟨rfl, rfl⟩
theorem c250_51 : q_cat 250 51 (.getfield 73) 3 9 5 (0) := ⟨rfl, rfl⟩
theorem c250_54 : q_cat 250 54 (.goto 8) 3 62 0 (0) := ⟨rfl, rfl⟩
theorem c250_57 : q_cat 250 57 (.aload_n 0) 1 0 0 (0) := ⟨rfl, rfl⟩
theorem c250_58 : q_cat 250 58 (.iload_n 1) 1 1 0 (0) := ⟨rfl, rfl⟩
theorem c250_59 : q_cat 250 59 (.invokevirtual 82) 3 303 0 (0) := ⟨rfl, rfl⟩
theorem c250_62 : q_cat 250 62 (.ireturn) 1 0 0 (0) := ⟨rfl, rfl⟩
theorem k250 {Γ : q_Γ} (hG : q_GG Γ) {h : q_F} (hZ : q_Bz h) (hR : q_Rb h) {v1 : Int} (hr1 : q_r32 v1) :
    q_M Γ q_K 155 250 [(2, Int.ofNat 139), (0, v1)] h (fun t w h' => (t = 1 ∧ (∃ z, w = ((0, z) : q_V) ∧ q_r32 z) ∧ q_Gr (fun k j => k = 139 ∧ j = 7) h h')) := by
  refine q_M.of (by decide) (Nat.le_of_ble_eq_true rfl) hG ?_
  refine r_aload_n c250_0 rfl rfl ?_
  refine r_iconst c250_1 rfl ?_
  refine r_putiw c250_2 rfl rfl rfl (q_Rv0 (fun h9 => absurd h9 (by decide)) (fun _ => ⟨(by first | assumption | omega | exact ⟨q_rg1 _, q_rg2 _⟩ | exact ⟨q_rh1 _, q_rh2 _⟩ | exact q_rj ⟨q_rg1 _, q_rg2 _⟩ | exact q_rgi _ | exact q_rgj _ | exact q_rj (q_rgi _) | exact q_rj (by assumption)), Or.inr (by first | assumption | omega | exact ⟨q_rg1 _, q_rg2 _⟩ | exact ⟨q_rh1 _, q_rh2 _⟩ | exact q_rj ⟨q_rg1 _, q_rg2 _⟩ | exact q_rgi _ | exact q_rgj _ | exact q_rj (q_rgi _) | exact q_rj (by assumption)), by omega⟩) (fun h9 h8 => absurd h9 (by decide)) (fun h9 h8 => absurd h9 (by decide))) rfl ?_
  intro g1 f1 w1
  have m140004f1 := f1.1 140 4 (by omega)
  have m139014f1 := f1.1 139 14 (by omega)
  have m139005f1 := f1.1 139 5 (by omega)
  refine r_aload_n c250_5 rfl rfl ?_
  refine r_iload_n c250_6 rfl rfl ?_
  refine r_i2l c250_7 (by first | exact q_w32_id (by omega) (by omega) | exact q_w32w _ | exact rfl) rfl ?_
  refine r_lconst c250_8 rfl ?_
  refine r_ldc2 c250_9 rfl rfl ?_
  refine r_callG c250_12 (fun _ => rfl) rfl rfl rfl (k267 hG (q_Gr.bz (S := fun k j => k = 139 ∧ j = 7) hZ (by repeat (first | exact q_Gr.rf | refine q_Gr.tr ?_ (by assumption) (by intro k9 j9 hk9; omega)))) (q_Gr.rb (S := fun k j => k = 139 ∧ j = 7) hR (by repeat (first | exact q_Gr.rf | refine q_Gr.tr ?_ (by assumption) (by intro k9 j9 hk9; omega)))) (by first | assumption | omega | exact ⟨q_rg1 _, q_rg2 _⟩ | exact ⟨q_rh1 _, q_rh2 _⟩ | exact q_rj ⟨q_rg1 _, q_rg2 _⟩ | exact q_rgi _ | exact q_rgj _ | exact q_rj (q_rgi _) | exact q_rj (by assumption)) (by first | assumption | omega | exact ⟨q_rg1 _, q_rg2 _⟩ | exact ⟨q_rh1 _, q_rh2 _⟩ | exact q_rj ⟨q_rg1 _, q_rg2 _⟩ | exact q_rgi _ | exact q_rgj _ | exact q_rj (q_rgi _) | exact q_rj (by assumption)) (by first | assumption | omega | exact ⟨q_rg1 _, q_rg2 _⟩ | exact ⟨q_rh1 _, q_rh2 _⟩ | exact q_rj ⟨q_rg1 _, q_rg2 _⟩ | exact q_rgi _ | exact q_rgj _ | exact q_rj (q_rgi _) | exact q_rj (by assumption))) ?_
  intro t2 w2 g2 p2
  obtain ⟨rfl, ⟨z2, rfl, hz2, hs2⟩, e2⟩ := p2
  have q92 : g1 = g2 := e2.symm
  subst q92
  refine Or.inr (Or.inl ⟨rfl, ?_⟩)
  refine r_if_ne c250_15 rfl (by first | exact q_w32_id (by omega) (by omega) | exact q_w32w _ | exact rfl) ?_ ?_
  · intro b3
    refine r_iconst c250_22 rfl ?_
    refine r_iconst c250_23 rfl ?_
    refine r_vcG c250_24 (by first | assumption | omega) (by decide) (by first | assumption | rfl) rfl rfl rfl (k258 hG (q_Gr.bz (S := fun k j => k = 139 ∧ j = 7) hZ (by repeat (first | exact q_Gr.rf | refine q_Gr.tr ?_ (by assumption) (by intro k9 j9 hk9; omega)))) (q_Gr.rb (S := fun k j => k = 139 ∧ j = 7) hR (by repeat (first | exact q_Gr.rf | refine q_Gr.tr ?_ (by assumption) (by intro k9 j9 hk9; omega)))) (by first | assumption | decide | omega) (by first | assumption | omega | exact ⟨q_rg1 _, q_rg2 _⟩ | exact ⟨q_rh1 _, q_rh2 _⟩ | exact q_rj ⟨q_rg1 _, q_rg2 _⟩ | exact q_rgi _ | exact q_rgj _ | exact q_rj (q_rgi _) | exact q_rj (by assumption))) ?_
    intro t4 w4 g4 p4
    obtain ⟨rfl, ⟨z4, rfl, hz4, hs4⟩, e4⟩ := p4
    have m140004e4 := e4.1 140 4 (by omega)
    have m139014e4 := e4.1 139 14 (by omega)
    have m139005e4 := e4.1 139 5 (by omega)
    refine Or.inr (Or.inl ⟨rfl, ?_⟩)
    refine r_if_eq c250_27 rfl (by first | exact q_w32_id (by omega) (by omega) | exact q_w32w _ | exact rfl) ?_ ?_
    · intro b5
      refine r_iload_n c250_32 rfl rfl ?_
      refine r_iconst c250_33 rfl ?_
      refine r_ic_ne c250_34 rfl (by first | exact q_w32_id (by omega) (by omega) | exact q_w32w _ | exact rfl) (show q_w32 (5) = 5 from rfl) ?_ ?_
      · intro b6
        refine r_iload_n c250_44 rfl rfl ?_
        refine r_bipush c250_45 rfl ?_
        refine r_ic_ne c250_47 rfl (by first | exact q_w32_id (by omega) (by omega) | exact q_w32w _ | exact rfl) (show q_w32 (6) = 6 from rfl) ?_ ?_
        · intro b7
          refine r_aload_n c250_57 rfl rfl ?_
          refine r_iload_n c250_58 rfl rfl ?_
          refine r_vcG c250_59 (by first | assumption | omega) (by decide) (by first | assumption | rfl) rfl rfl rfl (k303 hG (q_Gr.bz (S := fun k j => k = 139 ∧ j = 7) hZ (by repeat (first | exact q_Gr.rf | refine q_Gr.tr ?_ (by assumption) (by intro k9 j9 hk9; omega)))) (q_Gr.rb (S := fun k j => k = 139 ∧ j = 7) hR (by repeat (first | exact q_Gr.rf | refine q_Gr.tr ?_ (by assumption) (by intro k9 j9 hk9; omega)))) (by first | assumption | omega | exact ⟨q_rg1 _, q_rg2 _⟩ | exact ⟨q_rh1 _, q_rh2 _⟩ | exact q_rj ⟨q_rg1 _, q_rg2 _⟩ | exact q_rgi _ | exact q_rgj _ | exact q_rj (q_rgi _) | exact q_rj (by assumption)) (by first | assumption | omega)) ?_
          intro t8 w8 g8 p8
          obtain ⟨rfl, ⟨z8, rfl, hv8, hs8⟩, e8⟩ := p8
          have q98 : g4 = g8 := e8.symm
          subst q98
          refine Or.inr (Or.inl ⟨rfl, ?_⟩)
          exact r_iret c250_62 ⟨rfl, rfl, rfl⟩ ⟨rfl, ⟨_, rfl, (by first | assumption | omega | exact ⟨q_rg1 _, q_rg2 _⟩ | exact ⟨q_rh1 _, q_rh2 _⟩ | exact q_rj ⟨q_rg1 _, q_rg2 _⟩ | exact q_rgi _ | exact q_rgj _ | exact q_rj (q_rgi _) | exact q_rj (by assumption))⟩, (by repeat (first | exact q_Gr.rf | refine q_Gr.tr ?_ (by assumption) (by intro k9 j9 hk9; omega)))⟩
        · intro b7
          refine r_aload_n c250_50 rfl rfl ?_
          refine r_getf (q_Gr.rb (S := fun k j => k = 139 ∧ j = 7) hR (by repeat (first | exact q_Gr.rf | refine q_Gr.tr ?_ (by assumption) (by intro k9 j9 hk9; omega)))) c250_51 rfl (by decide) rfl ?_
          intro y9
          refine r_goto c250_54 ?_
          exact r_iret c250_62 ⟨rfl, rfl, rfl⟩ ⟨rfl, ⟨_, rfl, (by first | assumption | omega | exact ⟨q_rg1 _, q_rg2 _⟩ | exact ⟨q_rh1 _, q_rh2 _⟩ | exact q_rj ⟨q_rg1 _, q_rg2 _⟩ | exact q_rgi _ | exact q_rgj _ | exact q_rj (q_rgi _) | exact q_rj (by assumption))⟩, (by repeat (first | exact q_Gr.rf | refine q_Gr.tr ?_ (by assumption) (by intro k9 j9 hk9; omega)))⟩
      · intro b6
        refine r_aload_n c250_37 rfl rfl ?_
        refine r_vcG c250_38 (by first | assumption | omega) (by decide) (by first | assumption | rfl) rfl rfl rfl (k265 hG (q_Gr.bz (S := fun k j => k = 139 ∧ j = 7) hZ (by repeat (first | exact q_Gr.rf | refine q_Gr.tr ?_ (by assumption) (by intro k9 j9 hk9; omega)))) (q_Gr.rb (S := fun k j => k = 139 ∧ j = 7) hR (by repeat (first | exact q_Gr.rf | refine q_Gr.tr ?_ (by assumption) (by intro k9 j9 hk9; omega))))) ?_
        intro t10 w10 g10 p10
        obtain ⟨rfl, ⟨z10, rfl, hv10⟩, e10⟩ := p10
        have q910 : g4 = g10 := e10.symm
        subst q910
        refine Or.inr (Or.inl ⟨rfl, ?_⟩)
        refine r_goto c250_41 ?_
        exact r_iret c250_62 ⟨rfl, rfl, rfl⟩ ⟨rfl, ⟨_, rfl, (by first | assumption | omega | exact ⟨q_rg1 _, q_rg2 _⟩ | exact ⟨q_rh1 _, q_rh2 _⟩ | exact q_rj ⟨q_rg1 _, q_rg2 _⟩ | exact q_rgi _ | exact q_rgj _ | exact q_rj (q_rgi _) | exact q_rj (by assumption))⟩, (by repeat (first | exact q_Gr.rf | refine q_Gr.tr ?_ (by assumption) (by intro k9 j9 hk9; omega)))⟩
    · intro b5
      refine r_iconst c250_30 rfl ?_
      exact r_iret c250_31 ⟨rfl, rfl, rfl⟩ ⟨rfl, ⟨_, rfl, (by first | assumption | omega | exact ⟨q_rg1 _, q_rg2 _⟩ | exact ⟨q_rh1 _, q_rh2 _⟩ | exact q_rj ⟨q_rg1 _, q_rg2 _⟩ | exact q_rgi _ | exact q_rgj _ | exact q_rj (q_rgi _) | exact q_rj (by assumption))⟩, (by repeat (first | exact q_Gr.rf | refine q_Gr.tr ?_ (by assumption) (by intro k9 j9 hk9; omega)))⟩
  · intro b3
    refine r_iconst c250_18 rfl ?_
    refine r_goto c250_19 ?_
    refine r_iconst c250_23 rfl ?_
    refine r_vcG c250_24 (by first | assumption | omega) (by decide) (by first | assumption | rfl) rfl rfl rfl (k258 hG (q_Gr.bz (S := fun k j => k = 139 ∧ j = 7) hZ (by repeat (first | exact q_Gr.rf | refine q_Gr.tr ?_ (by assumption) (by intro k9 j9 hk9; omega)))) (q_Gr.rb (S := fun k j => k = 139 ∧ j = 7) hR (by repeat (first | exact q_Gr.rf | refine q_Gr.tr ?_ (by assumption) (by intro k9 j9 hk9; omega)))) (by first | assumption | decide | omega) (by first | assumption | omega | exact ⟨q_rg1 _, q_rg2 _⟩ | exact ⟨q_rh1 _, q_rh2 _⟩ | exact q_rj ⟨q_rg1 _, q_rg2 _⟩ | exact q_rgi _ | exact q_rgj _ | exact q_rj (q_rgi _) | exact q_rj (by assumption))) ?_
    intro t11 w11 g11 p11
    obtain ⟨rfl, ⟨z11, rfl, hz11, hs11⟩, e11⟩ := p11
    have m140004e11 := e11.1 140 4 (by omega)
    have m139014e11 := e11.1 139 14 (by omega)
    have m139005e11 := e11.1 139 5 (by omega)
    refine Or.inr (Or.inl ⟨rfl, ?_⟩)
    refine r_if_eq c250_27 rfl (by first | exact q_w32_id (by omega) (by omega) | exact q_w32w _ | exact rfl) ?_ ?_
    · intro b12
      refine r_iload_n c250_32 rfl rfl ?_
      refine r_iconst c250_33 rfl ?_
      refine r_ic_ne c250_34 rfl (by first | exact q_w32_id (by omega) (by omega) | exact q_w32w _ | exact rfl) (show q_w32 (5) = 5 from rfl) ?_ ?_
      · intro b13
        refine r_iload_n c250_44 rfl rfl ?_
        refine r_bipush c250_45 rfl ?_
        refine r_ic_ne c250_47 rfl (by first | exact q_w32_id (by omega) (by omega) | exact q_w32w _ | exact rfl) (show q_w32 (6) = 6 from rfl) ?_ ?_
        · intro b14
          refine r_aload_n c250_57 rfl rfl ?_
          refine r_iload_n c250_58 rfl rfl ?_
          refine r_vcG c250_59 (by first | assumption | omega) (by decide) (by first | assumption | rfl) rfl rfl rfl (k303 hG (q_Gr.bz (S := fun k j => k = 139 ∧ j = 7) hZ (by repeat (first | exact q_Gr.rf | refine q_Gr.tr ?_ (by assumption) (by intro k9 j9 hk9; omega)))) (q_Gr.rb (S := fun k j => k = 139 ∧ j = 7) hR (by repeat (first | exact q_Gr.rf | refine q_Gr.tr ?_ (by assumption) (by intro k9 j9 hk9; omega)))) (by first | assumption | omega | exact ⟨q_rg1 _, q_rg2 _⟩ | exact ⟨q_rh1 _, q_rh2 _⟩ | exact q_rj ⟨q_rg1 _, q_rg2 _⟩ | exact q_rgi _ | exact q_rgj _ | exact q_rj (q_rgi _) | exact q_rj (by assumption)) (by first | assumption | omega)) ?_
          intro t15 w15 g15 p15
          obtain ⟨rfl, ⟨z15, rfl, hv15, hs15⟩, e15⟩ := p15
          have q915 : g11 = g15 := e15.symm
          subst q915
          refine Or.inr (Or.inl ⟨rfl, ?_⟩)
          exact r_iret c250_62 ⟨rfl, rfl, rfl⟩ ⟨rfl, ⟨_, rfl, (by first | assumption | omega | exact ⟨q_rg1 _, q_rg2 _⟩ | exact ⟨q_rh1 _, q_rh2 _⟩ | exact q_rj ⟨q_rg1 _, q_rg2 _⟩ | exact q_rgi _ | exact q_rgj _ | exact q_rj (q_rgi _) | exact q_rj (by assumption))⟩, (by repeat (first | exact q_Gr.rf | refine q_Gr.tr ?_ (by assumption) (by intro k9 j9 hk9; omega)))⟩
        · intro b14
          refine r_aload_n c250_50 rfl rfl ?_
          refine r_getf (q_Gr.rb (S := fun k j => k = 139 ∧ j = 7) hR (by repeat (first | exact q_Gr.rf | refine q_Gr.tr ?_ (by assumption) (by intro k9 j9 hk9; omega)))) c250_51 rfl (by decide) rfl ?_
          intro y16
          refine r_goto c250_54 ?_
          exact r_iret c250_62 ⟨rfl, rfl, rfl⟩ ⟨rfl, ⟨_, rfl, (by first | assumption | omega | exact ⟨q_rg1 _, q_rg2 _⟩ | exact ⟨q_rh1 _, q_rh2 _⟩ | exact q_rj ⟨q_rg1 _, q_rg2 _⟩ | exact q_rgi _ | exact q_rgj _ | exact q_rj (q_rgi _) | exact q_rj (by assumption))⟩, (by repeat (first | exact q_Gr.rf | refine q_Gr.tr ?_ (by assumption) (by intro k9 j9 hk9; omega)))⟩
      · intro b13
        refine r_aload_n c250_37 rfl rfl ?_
        refine r_vcG c250_38 (by first | assumption | omega) (by decide) (by first | assumption | rfl) rfl rfl rfl (k265 hG (q_Gr.bz (S := fun k j => k = 139 ∧ j = 7) hZ (by repeat (first | exact q_Gr.rf | refine q_Gr.tr ?_ (by assumption) (by intro k9 j9 hk9; omega)))) (q_Gr.rb (S := fun k j => k = 139 ∧ j = 7) hR (by repeat (first | exact q_Gr.rf | refine q_Gr.tr ?_ (by assumption) (by intro k9 j9 hk9; omega))))) ?_
        intro t17 w17 g17 p17
        obtain ⟨rfl, ⟨z17, rfl, hv17⟩, e17⟩ := p17
        have q917 : g11 = g17 := e17.symm
        subst q917
        refine Or.inr (Or.inl ⟨rfl, ?_⟩)
        refine r_goto c250_41 ?_
        exact r_iret c250_62 ⟨rfl, rfl, rfl⟩ ⟨rfl, ⟨_, rfl, (by first | assumption | omega | exact ⟨q_rg1 _, q_rg2 _⟩ | exact ⟨q_rh1 _, q_rh2 _⟩ | exact q_rj ⟨q_rg1 _, q_rg2 _⟩ | exact q_rgi _ | exact q_rgj _ | exact q_rj (q_rgi _) | exact q_rj (by assumption))⟩, (by repeat (first | exact q_Gr.rf | refine q_Gr.tr ?_ (by assumption) (by intro k9 j9 hk9; omega)))⟩
    · intro b12
      refine r_iconst c250_30 rfl ?_
      exact r_iret c250_31 ⟨rfl, rfl, rfl⟩ ⟨rfl, ⟨_, rfl, (by first | assumption | omega | exact ⟨q_rg1 _, q_rg2 _⟩ | exact ⟨q_rh1 _, q_rh2 _⟩ | exact q_rj ⟨q_rg1 _, q_rg2 _⟩ | exact q_rgi _ | exact q_rgj _ | exact q_rj (q_rgi _) | exact q_rj (by assumption))⟩, (by repeat (first | exact q_Gr.rf | refine q_Gr.tr ?_ (by assumption) (by intro k9 j9 hk9; omega)))⟩
theorem c239_0 : q_cat 239 0 (.aload_n 0) 1 0 0 (0) := ⟨rfl, rfl⟩
theorem c239_1 : q_cat 239 1 (.iload_n 1) 1 1 0 (0) := ⟨rfl, rfl⟩
theorem c239_2 : q_cat 239 2 (.invokevirtual 280) 3 298 0 (0) := ⟨rfl, rfl⟩
theorem c239_5 : q_cat 239 5 (.ifCond .ne 28) 3 33 0 (0) := ⟨rfl, rfl⟩
theorem c239_8 : q_cat 239 8 (.aload_n 0) 1 0 0 (0) := ⟨rfl, rfl⟩
theorem c239_9 : q_cat 239 9 (.iload_n 2) 1 2 0 (0) := ⟨rfl, rfl⟩
theorem c239_10 : q_cat 239 10 (.i2l) 1 0 0 (0) := ⟨rfl, rfl⟩
theorem c239_11 : q_cat 239 11 (.lconst 0) 1 0 0 (0) := ⟨rfl, rfl⟩
theorem c239_12 : q_cat 239 12 (.ldc2_w 283) 3 0 0 (12) := ⟨rfl, rfl⟩
theorem c239_15 : q_cat 239 15 (.invokestatic 163) 3 267 1 (0) := ⟨rfl, rfl⟩
theorem c239_18 : q_cat 239 18 (.ifCond .ne 7) 3 25 0 (0) := ⟨rfl, rfl⟩
theorem c239_21 : q_cat 239 21 (.iconst 1) 1 0 0 (0) := ⟨rfl, rfl⟩
theorem c239_22 : q_cat 239 22 (.goto 4) 3 26 0 (0) := ⟨rfl, rfl⟩
theorem c239_25 : q_cat 239 25 (.iconst 0) 1 0 0 (0) := ⟨rfl, rfl⟩
theorem c239_26 : q_cat 239 26 (.iconst 2) 1 0 0 (0) := ⟨rfl, rfl⟩
theorem c239_27 : q_cat 239 27 (.invokevirtual 273) 3 258 0 (0) := ⟨rfl, rfl⟩
theorem c239_30 : q_cat 239 30 (.ifCond .eq 5) 3 35 0 (0) := ⟨rfl, rfl⟩
theorem c239_33 : q_cat 239 33 (.iconst 0) 1 0 0 (0) := ⟨rfl, rfl⟩
theorem c239_34 : q_cat 239 34 (.ireturn) 1 0 0 (0) := ⟨rfl, rfl⟩
theorem c239_35 : q_cat 239 35 (.aload_n 0) 1 0 0 (0) := ⟨rfl, rfl⟩
theorem c239_36 : q_cat 239 36 (.bipush 8) 2 0 0 (0) := ⟨rfl, rfl⟩
theorem c239_38 : q_cat 239 38 (.iconst 3) 1 0 0 (0) := ⟨rfl, rfl⟩
theorem c239_39 : q_cat 239 39 (.iload_n 2) 1 2 0 (0) := ⟨rfl, rfl⟩
theorem c239_40 : q_cat 239 40 (.imul) 1 0 0 (0) := ⟨rfl, rfl⟩
theorem c239_41 : q_cat 239 41 (.iadd) 1 0 0 (0) := ⟨rfl, rfl⟩
theorem c239_42 : q_cat 239 42 (.iload_n 1) 1 1 0 (0) := ⟨rfl, rfl⟩
theorem c239_43 : q_cat 239 43 (.iadd) 1 0 0 (0) := ⟨rfl, rfl⟩
theorem c239_44 : q_cat 239 44 (.invokevirtual 82) 3 303 0 (0) := ⟨rfl, rfl⟩
theorem c239_47 : q_cat 239 47 (.ireturn) 1 0 0 (0) := ⟨rfl, rfl⟩
theorem k239 {Γ : q_Γ} (hG : q_GG Γ) {h : q_F} (hZ : q_Bz h) (hR : q_Rb h) {v1 : Int} {v2 : Int} (hr1 : q_r32 v1) (hr2 : q_r32 v2) :
    q_M Γ q_K 155 239 [(2, Int.ofNat 139), (0, v1), (0, v2)] h (fun t w h' => (t = 1 ∧ (∃ z, w = ((0, z) : q_V) ∧ q_r32 z) ∧ q_Gr (fun k j => k = 139 ∧ j = 7) h h')) := by
  refine q_M.of (by decide) (Nat.le_of_ble_eq_true rfl) hG ?_
  refine r_aload_n c239_0 rfl rfl ?_
  refine r_iload_n c239_1 rfl rfl ?_
  refine r_vcG c239_2 (by first | assumption | omega) (by decide) (by first | assumption | rfl) rfl rfl rfl (k298 hG (q_Gr.bz (S := fun k j => k = 139 ∧ j = 7) hZ (by repeat (first | exact q_Gr.rf | refine q_Gr.tr ?_ (by assumption) (by intro k9 j9 hk9; omega)))) (q_Gr.rb (S := fun k j => k = 139 ∧ j = 7) hR (by repeat (first | exact q_Gr.rf | refine q_Gr.tr ?_ (by assumption) (by intro k9 j9 hk9; omega)))) (by first | assumption | omega | exact ⟨q_rg1 _, q_rg2 _⟩ | exact ⟨q_rh1 _, q_rh2 _⟩ | exact q_rj ⟨q_rg1 _, q_rg2 _⟩ | exact q_rgi _ | exact q_rgj _ | exact q_rj (q_rgi _) | exact q_rj (by assumption))) ?_
  intro t1 w1 g1 p1
  obtain ⟨rfl, ⟨z1, rfl, hz1, hs1⟩, e1⟩ := p1
  have m140004e1 := e1.1 140 4 (by omega)
  have m139014e1 := e1.1 139 14 (by omega)
  have m139005e1 := e1.1 139 5 (by omega)
  refine Or.inr (Or.inl ⟨rfl, ?_⟩)
  refine r_if_ne c239_5 rfl (by first | exact q_w32_id (by omega) (by omega) | exact q_w32w _ | exact rfl) ?_ ?_
  · intro b2
    refine r_iconst c239_33 rfl ?_
    exact r_iret c239_34 ⟨rfl, rfl, rfl⟩ ⟨rfl, ⟨_, rfl, (by first | assumption | omega | exact ⟨q_rg1 _, q_rg2 _⟩ | exact ⟨q_rh1 _, q_rh2 _⟩ | exact q_rj ⟨q_rg1 _, q_rg2 _⟩ | exact q_rgi _ | exact q_rgj _ | exact q_rj (q_rgi _) | exact q_rj (by assumption))⟩, (by repeat (first | exact q_Gr.rf | refine q_Gr.tr ?_ (by assumption) (by intro k9 j9 hk9; omega)))⟩
  · intro b2
    refine r_aload_n c239_8 rfl rfl ?_
    refine r_iload_n c239_9 rfl rfl ?_
    refine r_i2l c239_10 (by first | exact q_w32_id (by omega) (by omega) | exact q_w32w _ | exact rfl) rfl ?_
    refine r_lconst c239_11 rfl ?_
    refine r_ldc2 c239_12 rfl rfl ?_
    refine r_callG c239_15 (fun _ => rfl) rfl rfl rfl (k267 hG (q_Gr.bz (S := fun k j => k = 139 ∧ j = 7) hZ (by repeat (first | exact q_Gr.rf | refine q_Gr.tr ?_ (by assumption) (by intro k9 j9 hk9; omega)))) (q_Gr.rb (S := fun k j => k = 139 ∧ j = 7) hR (by repeat (first | exact q_Gr.rf | refine q_Gr.tr ?_ (by assumption) (by intro k9 j9 hk9; omega)))) (by first | assumption | omega | exact ⟨q_rg1 _, q_rg2 _⟩ | exact ⟨q_rh1 _, q_rh2 _⟩ | exact q_rj ⟨q_rg1 _, q_rg2 _⟩ | exact q_rgi _ | exact q_rgj _ | exact q_rj (q_rgi _) | exact q_rj (by assumption)) (by first | assumption | omega | exact ⟨q_rg1 _, q_rg2 _⟩ | exact ⟨q_rh1 _, q_rh2 _⟩ | exact q_rj ⟨q_rg1 _, q_rg2 _⟩ | exact q_rgi _ | exact q_rgj _ | exact q_rj (q_rgi _) | exact q_rj (by assumption)) (by first | assumption | omega | exact ⟨q_rg1 _, q_rg2 _⟩ | exact ⟨q_rh1 _, q_rh2 _⟩ | exact q_rj ⟨q_rg1 _, q_rg2 _⟩ | exact q_rgi _ | exact q_rgj _ | exact q_rj (q_rgi _) | exact q_rj (by assumption))) ?_
    intro t3 w3 g3 p3
    obtain ⟨rfl, ⟨z3, rfl, hz3, hs3⟩, e3⟩ := p3
    have q93 : g1 = g3 := e3.symm
    subst q93
    refine Or.inr (Or.inl ⟨rfl, ?_⟩)
    refine r_if_ne c239_18 rfl (by first | exact q_w32_id (by omega) (by omega) | exact q_w32w _ | exact rfl) ?_ ?_
    · intro b4
      refine r_iconst c239_25 rfl ?_
      refine r_iconst c239_26 rfl ?_
      refine r_vcG c239_27 (by first | assumption | omega) (by decide) (by first | assumption | rfl) rfl rfl rfl (k258 hG (q_Gr.bz (S := fun k j => k = 139 ∧ j = 7) hZ (by repeat (first | exact q_Gr.rf | refine q_Gr.tr ?_ (by assumption) (by intro k9 j9 hk9; omega)))) (q_Gr.rb (S := fun k j => k = 139 ∧ j = 7) hR (by repeat (first | exact q_Gr.rf | refine q_Gr.tr ?_ (by assumption) (by intro k9 j9 hk9; omega)))) (by first | assumption | decide | omega) (by first | assumption | omega | exact ⟨q_rg1 _, q_rg2 _⟩ | exact ⟨q_rh1 _, q_rh2 _⟩ | exact q_rj ⟨q_rg1 _, q_rg2 _⟩ | exact q_rgi _ | exact q_rgj _ | exact q_rj (q_rgi _) | exact q_rj (by assumption))) ?_
      intro t5 w5 g5 p5
      obtain ⟨rfl, ⟨z5, rfl, hz5, hs5⟩, e5⟩ := p5
      have m140004e5 := e5.1 140 4 (by omega)
      have m139014e5 := e5.1 139 14 (by omega)
      have m139005e5 := e5.1 139 5 (by omega)
      refine Or.inr (Or.inl ⟨rfl, ?_⟩)
      refine r_if_eq c239_30 rfl (by first | exact q_w32_id (by omega) (by omega) | exact q_w32w _ | exact rfl) ?_ ?_
      · intro b6
        refine r_aload_n c239_35 rfl rfl ?_
        refine r_bipush c239_36 rfl ?_
        refine r_iconst c239_38 rfl ?_
        refine r_iload_n c239_39 rfl rfl ?_
        refine r_imul c239_40 (by first | exact q_w32_id (by omega) (by omega) | exact q_w32w _ | exact rfl) rfl ?_
        refine r_iadd c239_41 (by first | exact q_w32_id (by omega) (by omega) | exact q_w32w _ | exact rfl) rfl ?_
        refine r_iload_n c239_42 rfl rfl ?_
        refine r_iadd c239_43 (by first | exact q_w32_id (by omega) (by omega) | exact q_w32w _ | exact rfl) rfl ?_
        refine r_vcG c239_44 (by first | assumption | omega) (by decide) (by first | assumption | rfl) rfl rfl rfl (k303 hG (q_Gr.bz (S := fun k j => k = 139 ∧ j = 7) hZ (by repeat (first | exact q_Gr.rf | refine q_Gr.tr ?_ (by assumption) (by intro k9 j9 hk9; omega)))) (q_Gr.rb (S := fun k j => k = 139 ∧ j = 7) hR (by repeat (first | exact q_Gr.rf | refine q_Gr.tr ?_ (by assumption) (by intro k9 j9 hk9; omega)))) (by first | assumption | omega | exact ⟨q_rg1 _, q_rg2 _⟩ | exact ⟨q_rh1 _, q_rh2 _⟩ | exact q_rj ⟨q_rg1 _, q_rg2 _⟩ | exact q_rgi _ | exact q_rgj _ | exact q_rj (q_rgi _) | exact q_rj (by assumption)) (by first | assumption | omega)) ?_
        intro t7 w7 g7 p7
        obtain ⟨rfl, ⟨z7, rfl, hv7, hs7⟩, e7⟩ := p7
        have q97 : g5 = g7 := e7.symm
        subst q97
        refine Or.inr (Or.inl ⟨rfl, ?_⟩)
        exact r_iret c239_47 ⟨rfl, rfl, rfl⟩ ⟨rfl, ⟨_, rfl, (by first | assumption | omega | exact ⟨q_rg1 _, q_rg2 _⟩ | exact ⟨q_rh1 _, q_rh2 _⟩ | exact q_rj ⟨q_rg1 _, q_rg2 _⟩ | exact q_rgi _ | exact q_rgj _ | exact q_rj (q_rgi _) | exact q_rj (by assumption))⟩, (by repeat (first | exact q_Gr.rf | refine q_Gr.tr ?_ (by assumption) (by intro k9 j9 hk9; omega)))⟩
      · intro b6
        refine r_iconst c239_33 rfl ?_
        exact r_iret c239_34 ⟨rfl, rfl, rfl⟩ ⟨rfl, ⟨_, rfl, (by first | assumption | omega | exact ⟨q_rg1 _, q_rg2 _⟩ | exact ⟨q_rh1 _, q_rh2 _⟩ | exact q_rj ⟨q_rg1 _, q_rg2 _⟩ | exact q_rgi _ | exact q_rgj _ | exact q_rj (q_rgi _) | exact q_rj (by assumption))⟩, (by repeat (first | exact q_Gr.rf | refine q_Gr.tr ?_ (by assumption) (by intro k9 j9 hk9; omega)))⟩
    · intro b4
      refine r_iconst c239_21 rfl ?_
      refine r_goto c239_22 ?_
      refine r_iconst c239_26 rfl ?_
      refine r_vcG c239_27 (by first | assumption | omega) (by decide) (by first | assumption | rfl) rfl rfl rfl (k258 hG (q_Gr.bz (S := fun k j => k = 139 ∧ j = 7) hZ (by repeat (first | exact q_Gr.rf | refine q_Gr.tr ?_ (by assumption) (by intro k9 j9 hk9; omega)))) (q_Gr.rb (S := fun k j => k = 139 ∧ j = 7) hR (by repeat (first | exact q_Gr.rf | refine q_Gr.tr ?_ (by assumption) (by intro k9 j9 hk9; omega)))) (by first | assumption | decide | omega) (by first | assumption | omega | exact ⟨q_rg1 _, q_rg2 _⟩ | exact ⟨q_rh1 _, q_rh2 _⟩ | exact q_rj ⟨q_rg1 _, q_rg2 _⟩ | exact q_rgi _ | exact q_rgj _ | exact q_rj (q_rgi _) | exact q_rj (by assumption))) ?_
      intro t8 w8 g8 p8
      obtain ⟨rfl, ⟨z8, rfl, hz8, hs8⟩, e8⟩ := p8
      have m140004e8 := e8.1 140 4 (by omega)
      have m139014e8 := e8.1 139 14 (by omega)
      have m139005e8 := e8.1 139 5 (by omega)
      refine Or.inr (Or.inl ⟨rfl, ?_⟩)
      refine r_if_eq c239_30 rfl (by first | exact q_w32_id (by omega) (by omega) | exact q_w32w _ | exact rfl) ?_ ?_
      · intro b9
        refine r_aload_n c239_35 rfl rfl ?_
        refine r_bipush c239_36 rfl ?_
        refine r_iconst c239_38 rfl ?_
        refine r_iload_n c239_39 rfl rfl ?_
        refine r_imul c239_40 (by first | exact q_w32_id (by omega) (by omega) | exact q_w32w _ | exact rfl) rfl ?_
        refine r_iadd c239_41 (by first | exact q_w32_id (by omega) (by omega) | exact q_w32w _ | exact rfl) rfl ?_
        refine r_iload_n c239_42 rfl rfl ?_
        refine r_iadd c239_43 (by first | exact q_w32_id (by omega) (by omega) | exact q_w32w _ | exact rfl) rfl ?_
        refine r_vcG c239_44 (by first | assumption | omega) (by decide) (by first | assumption | rfl) rfl rfl rfl (k303 hG (q_Gr.bz (S := fun k j => k = 139 ∧ j = 7) hZ (by repeat (first | exact q_Gr.rf | refine q_Gr.tr ?_ (by assumption) (by intro k9 j9 hk9; omega)))) (q_Gr.rb (S := fun k j => k = 139 ∧ j = 7) hR (by repeat (first | exact q_Gr.rf | refine q_Gr.tr ?_ (by assumption) (by intro k9 j9 hk9; omega)))) (by first | assumption | omega | exact ⟨q_rg1 _, q_rg2 _⟩ | exact ⟨q_rh1 _, q_rh2 _⟩ | exact q_rj ⟨q_rg1 _, q_rg2 _⟩ | exact q_rgi _ | exact q_rgj _ | exact q_rj (q_rgi _) | exact q_rj (by assumption)) (by first | assumption | omega)) ?_
        intro t10 w10 g10 p10
        obtain ⟨rfl, ⟨z10, rfl, hv10, hs10⟩, e10⟩ := p10
        have q910 : g8 = g10 := e10.symm
        subst q910
        refine Or.inr (Or.inl ⟨rfl, ?_⟩)
        exact r_iret c239_47 ⟨rfl, rfl, rfl⟩ ⟨rfl, ⟨_, rfl, (by first | assumption | omega | exact ⟨q_rg1 _, q_rg2 _⟩ | exact ⟨q_rh1 _, q_rh2 _⟩ | exact q_rj ⟨q_rg1 _, q_rg2 _⟩ | exact q_rgi _ | exact q_rgj _ | exact q_rj (q_rgi _) | exact q_rj (by assumption))⟩, (by repeat (first | exact q_Gr.rf | refine q_Gr.tr ?_ (by assumption) (by intro k9 j9 hk9; omega)))⟩
      · intro b9
        refine r_iconst c239_33 rfl ?_
        exact r_iret c239_34 ⟨rfl, rfl, rfl⟩ ⟨rfl, ⟨_, rfl, (by first | assumption | omega | exact ⟨q_rg1 _, q_rg2 _⟩ | exact ⟨q_rh1 _, q_rh2 _⟩ | exact q_rj ⟨q_rg1 _, q_rg2 _⟩ | exact q_rgi _ | exact q_rgj _ | exact q_rj (q_rgi _) | exact q_rj (by assumption))⟩, (by repeat (first | exact q_Gr.rf | refine q_Gr.tr ?_ (by assumption) (by intro k9 j9 hk9; omega)))⟩
theorem c248_0 : q_cat 248 0 (.aload_n 0) 1 0 0 (0) := ⟨rfl, rfl⟩
theorem c248_1 : q_cat 248 1 (.iload_n 1) 1 1 0 (0) := ⟨rfl, rfl⟩
theorem c248_2 : q_cat 248 2 (.invokevirtual 280) 3 298 0 (0) := ⟨rfl, rfl⟩
theorem c248_5 : q_cat 248 5 (.ifCond .ne 12) 3 17 0 (0) := ⟨rfl, rfl⟩
theorem c248_8 : q_cat 248 8 (.aload_n 0) 1 0 0 (0) := ⟨rfl, rfl⟩
theorem c248_9 : q_cat 248 9 (.iload_n 1) 1 1 0 (0) := ⟨rfl, rfl⟩
theorem c248_10 : q_cat 248 10 (.iconst 2) 1 0 0 (0) := ⟨rfl, rfl⟩
theorem c248_11 : q_cat 248 11 (.invokevirtual 285) 3 302 0 (0) := ⟨rfl, rfl⟩
theorem c248_14 : q_cat 248 14 (.ifCond .eq 7) 3 21 0 (0) := ⟨rfl, rfl⟩
theorem c248_17 : q_cat 248 17 (.iconst 0) 1 0 0 (0) := ⟨rfl, rfl⟩
theorem c248_18 : q_cat 248 18 (.goto 11) 3 29 0 (0) := ⟨rfl, rfl⟩
theorem c248_21 : q_cat 248 21 (.aload_n 0) 1 0 0 (0) := ⟨rfl, rfl⟩
theorem c248_22 : q_cat 248 22 (.bipush 47) 2 0 0 (0) := ⟨rfl, rfl⟩
theorem c248_24 : q_cat 248 24 (.iload_n 1) 1 1 0 (0) := ⟨rfl, rfl⟩
theorem c248_25 : q_cat 248 25 (.iadd) 1 0 0 (0) := ⟨rfl, rfl⟩
theorem c248_26 : q_cat 248 26 (.invokevirtual 82) 3 303 0 (0) := ⟨rfl, rfl⟩
theorem c248_29 : q_cat 248 29 (.ireturn) 1 0 0 (0) := ⟨rfl, rfl⟩
theorem k248 {Γ : q_Γ} (hG : q_GG Γ) {h : q_F} (hZ : q_Bz h) (hR : q_Rb h) {v1 : Int} (hr1 : q_r32 v1) :
    q_M Γ q_K 155 248 [(2, Int.ofNat 139), (0, v1)] h (fun t w h' => (t = 1 ∧ (∃ z, w = ((0, z) : q_V) ∧ q_r32 z) ∧ q_Gr (fun k j => k = 139 ∧ j = 7) h h')) := by
  refine q_M.of (by decide) (Nat.le_of_ble_eq_true rfl) hG ?_
  refine r_aload_n c248_0 rfl rfl ?_
  refine r_iload_n c248_1 rfl rfl ?_
  refine r_vcG c248_2 (by first | assumption | omega) (by decide) (by first | assumption | rfl) rfl rfl rfl (k298 hG (q_Gr.bz (S := fun k j => k = 139 ∧ j = 7) hZ (by repeat (first | exact q_Gr.rf | refine q_Gr.tr ?_ (by assumption) (by intro k9 j9 hk9; omega)))) (q_Gr.rb (S := fun k j => k = 139 ∧ j = 7) hR (by repeat (first | exact q_Gr.rf | refine q_Gr.tr ?_ (by assumption) (by intro k9 j9 hk9; omega)))) (by first | assumption | omega | exact ⟨q_rg1 _, q_rg2 _⟩ | exact ⟨q_rh1 _, q_rh2 _⟩ | exact q_rj ⟨q_rg1 _, q_rg2 _⟩ | exact q_rgi _ | exact q_rgj _ | exact q_rj (q_rgi _) | exact q_rj (by assumption))) ?_
  intro t1 w1 g1 p1
  obtain ⟨rfl, ⟨z1, rfl, hz1, hs1⟩, e1⟩ := p1
  have m140004e1 := e1.1 140 4 (by omega)
  have m139014e1 := e1.1 139 14 (by omega)
  have m139005e1 := e1.1 139 5 (by omega)
  refine Or.inr (Or.inl ⟨rfl, ?_⟩)
  refine r_if_ne c248_5 rfl (by first | exact q_w32_id (by omega) (by omega) | exact q_w32w _ | exact rfl) ?_ ?_
  · intro b2
    refine r_iconst c248_17 rfl ?_
    refine r_goto c248_18 ?_
    exact r_iret c248_29 ⟨rfl, rfl, rfl⟩ ⟨rfl, ⟨_, rfl, (by first | assumption | omega | exact ⟨q_rg1 _, q_rg2 _⟩ | exact ⟨q_rh1 _, q_rh2 _⟩ | exact q_rj ⟨q_rg1 _, q_rg2 _⟩ | exact q_rgi _ | exact q_rgj _ | exact q_rj (q_rgi _) | exact q_rj (by assumption))⟩, (by repeat (first | exact q_Gr.rf | refine q_Gr.tr ?_ (by assumption) (by intro k9 j9 hk9; omega)))⟩
  · intro b2
    refine r_aload_n c248_8 rfl rfl ?_
    refine r_iload_n c248_9 rfl rfl ?_
    refine r_iconst c248_10 rfl ?_
    refine r_vcG c248_11 (by first | assumption | omega) (by decide) (by first | assumption | rfl) rfl rfl rfl (k302 hG (q_Gr.bz (S := fun k j => k = 139 ∧ j = 7) hZ (by repeat (first | exact q_Gr.rf | refine q_Gr.tr ?_ (by assumption) (by intro k9 j9 hk9; omega)))) (q_Gr.rb (S := fun k j => k = 139 ∧ j = 7) hR (by repeat (first | exact q_Gr.rf | refine q_Gr.tr ?_ (by assumption) (by intro k9 j9 hk9; omega)))) (by first | assumption | omega | exact ⟨q_rg1 _, q_rg2 _⟩ | exact ⟨q_rh1 _, q_rh2 _⟩ | exact q_rj ⟨q_rg1 _, q_rg2 _⟩ | exact q_rgi _ | exact q_rgj _ | exact q_rj (q_rgi _) | exact q_rj (by assumption)) (by first | assumption | omega | exact ⟨q_rg1 _, q_rg2 _⟩ | exact ⟨q_rh1 _, q_rh2 _⟩ | exact q_rj ⟨q_rg1 _, q_rg2 _⟩ | exact q_rgi _ | exact q_rgj _ | exact q_rj (q_rgi _) | exact q_rj (by assumption)) (by first | assumption | omega)) ?_
    intro t3 w3 g3 p3
    obtain ⟨rfl, ⟨z3, rfl, hz3⟩, e3⟩ := p3
    have m140004e3 := e3.1 140 4 (by omega)
    have m139014e3 := e3.1 139 14 (by omega)
    have m139005e3 := e3.1 139 5 (by omega)
    refine Or.inr (Or.inl ⟨rfl, ?_⟩)
    refine r_if_eq c248_14 rfl (by first | exact q_w32_id (by omega) (by omega) | exact q_w32w _ | exact rfl) ?_ ?_
    · intro b4
      refine r_aload_n c248_21 rfl rfl ?_
      refine r_bipush c248_22 rfl ?_
      refine r_iload_n c248_24 rfl rfl ?_
      refine r_iadd c248_25 (by first | exact q_w32_id (by omega) (by omega) | exact q_w32w _ | exact rfl) rfl ?_
      refine r_vcG c248_26 (by first | assumption | omega) (by decide) (by first | assumption | rfl) rfl rfl rfl (k303 hG (q_Gr.bz (S := fun k j => k = 139 ∧ j = 7) hZ (by repeat (first | exact q_Gr.rf | refine q_Gr.tr ?_ (by assumption) (by intro k9 j9 hk9; omega)))) (q_Gr.rb (S := fun k j => k = 139 ∧ j = 7) hR (by repeat (first | exact q_Gr.rf | refine q_Gr.tr ?_ (by assumption) (by intro k9 j9 hk9; omega)))) (by first | assumption | omega | exact ⟨q_rg1 _, q_rg2 _⟩ | exact ⟨q_rh1 _, q_rh2 _⟩ | exact q_rj ⟨q_rg1 _, q_rg2 _⟩ | exact q_rgi _ | exact q_rgj _ | exact q_rj (q_rgi _) | exact q_rj (by assumption)) (by first | assumption | omega)) ?_
      intro t5 w5 g5 p5
      obtain ⟨rfl, ⟨z5, rfl, hv5, hs5⟩, e5⟩ := p5
      have q95 : g3 = g5 := e5.symm
      subst q95
      refine Or.inr (Or.inl ⟨rfl, ?_⟩)
      exact r_iret c248_29 ⟨rfl, rfl, rfl⟩ ⟨rfl, ⟨_, rfl, (by first | assumption | omega | exact ⟨q_rg1 _, q_rg2 _⟩ | exact ⟨q_rh1 _, q_rh2 _⟩ | exact q_rj ⟨q_rg1 _, q_rg2 _⟩ | exact q_rgi _ | exact q_rgj _ | exact q_rj (q_rgi _) | exact q_rj (by assumption))⟩, (by repeat (first | exact q_Gr.rf | refine q_Gr.tr ?_ (by assumption) (by intro k9 j9 hk9; omega)))⟩
    · intro b4
      refine r_iconst c248_17 rfl ?_
      refine r_goto c248_18 ?_
      exact r_iret c248_29 ⟨rfl, rfl, rfl⟩ ⟨rfl, ⟨_, rfl, (by first | assumption | omega | exact ⟨q_rg1 _, q_rg2 _⟩ | exact ⟨q_rh1 _, q_rh2 _⟩ | exact q_rj ⟨q_rg1 _, q_rg2 _⟩ | exact q_rgi _ | exact q_rgj _ | exact q_rj (q_rgi _) | exact q_rj (by assumption))⟩, (by repeat (first | exact q_Gr.rf | refine q_Gr.tr ?_ (by assumption) (by intro k9 j9 hk9; omega)))⟩
theorem c254_0 : q_cat 254 0 (.aload_n 0) 1 0 0 (0) := ⟨rfl, rfl⟩
theorem c254_1 : q_cat 254 1 (.iload_n 1) 1 1 0 (0) := ⟨rfl, rfl⟩
theorem c254_2 : q_cat 254 2 (.invokevirtual 280) 3 298 0 (0) := ⟨rfl, rfl⟩
theorem c254_5 : q_cat 254 5 (.ifCond .ne 12) 3 17 0 (0) := ⟨rfl, rfl⟩
theorem c254_8 : q_cat 254 8 (.aload_n 0) 1 0 0 (0) := ⟨rfl, rfl⟩
theorem c254_9 : q_cat 254 9 (.iload_n 1) 1 1 0 (0) := ⟨rfl, rfl⟩
theorem c254_10 : q_cat 254 10 (.iconst 2) 1 0 0 (0) := ⟨rfl, rfl⟩
theorem c254_11 : q_cat 254 11 (.invokevirtual 285) 3 302 0 (0) := ⟨rfl, rfl⟩
theorem c254_14 : q_cat 254 14 (.ifCond .eq 7) 3 21 0 (0) := ⟨rfl, rfl⟩
theorem c254_17 : q_cat 254 17 (.iconst 0) 1 0 0 (0) := ⟨rfl, rfl⟩
theorem c254_18 : q_cat 254 18 (.goto 8) 3 26 0 (0) := ⟨rfl, rfl⟩
theorem c254_21 : q_cat 254 21 (.aload_n 0) 1 0 0 (0) := ⟨rfl, rfl⟩
theorem c254_22 : q_cat 254 22 (.iload_n 1) 1 1 0 (0) := ⟨rfl, rfl⟩
theorem c254_23 : q_cat 254 23 (.invokevirtual 288) 3 256 0 (0) := ⟨rfl, rfl⟩
theorem c254_26 : q_cat 254 26 (.ireturn) 1 0 0 (0) := ⟨rfl, rfl⟩
theorem k254 {Γ : q_Γ} (hG : q_GG Γ) {h : q_F} (hZ : q_Bz h) (hR : q_Rb h) {v1 : Int} (hr1 : q_r32 v1) :
    q_M Γ q_K 155 254 [(2, Int.ofNat 139), (0, v1)] h (fun t w h' => (t = 1 ∧ (∃ z, w = ((0, z) : q_V) ∧ q_r32 z) ∧ q_Gr (fun k j => k = 139 ∧ j = 7) h h')) := by
  refine q_M.of (by decide) (Nat.le_of_ble_eq_true rfl) hG ?_
  refine r_aload_n c254_0 rfl rfl ?_
  refine r_iload_n c254_1 rfl rfl ?_
  refine r_vcG c254_2 (by first | assumption | omega) (by decide) (by first | assumption | rfl) rfl rfl rfl (k298 hG (q_Gr.bz (S := fun k j => k = 139 ∧ j = 7) hZ (by repeat (first | exact q_Gr.rf | refine q_Gr.tr ?_ (by assumption) (by intro k9 j9 hk9; omega)))) (q_Gr.rb (S := fun k j => k = 139 ∧ j = 7) hR (by repeat (first | exact q_Gr.rf | refine q_Gr.tr ?_ (by assumption) (by intro k9 j9 hk9; omega)))) (by first | assumption | omega | exact ⟨q_rg1 _, q_rg2 _⟩ | exact ⟨q_rh1 _, q_rh2 _⟩ | exact q_rj ⟨q_rg1 _, q_rg2 _⟩ | exact q_rgi _ | exact q_rgj _ | exact q_rj (q_rgi _) | exact q_rj (by assumption))) ?_
  intro t1 w1 g1 p1
  obtain ⟨rfl, ⟨z1, rfl, hz1, hs1⟩, e1⟩ := p1
  have m140004e1 := e1.1 140 4 (by omega)
  have m139014e1 := e1.1 139 14 (by omega)
  have m139005e1 := e1.1 139 5 (by omega)
  refine Or.inr (Or.inl ⟨rfl, ?_⟩)
  refine r_if_ne c254_5 rfl (by first | exact q_w32_id (by omega) (by omega) | exact q_w32w _ | exact rfl) ?_ ?_
  · intro b2
    refine r_iconst c254_17 rfl ?_
    refine r_goto c254_18 ?_
    exact r_iret c254_26 ⟨rfl, rfl, rfl⟩ ⟨rfl, ⟨_, rfl, (by first | assumption | omega | exact ⟨q_rg1 _, q_rg2 _⟩ | exact ⟨q_rh1 _, q_rh2 _⟩ | exact q_rj ⟨q_rg1 _, q_rg2 _⟩ | exact q_rgi _ | exact q_rgj _ | exact q_rj (q_rgi _) | exact q_rj (by assumption))⟩, (by repeat (first | exact q_Gr.rf | refine q_Gr.tr ?_ (by assumption) (by intro k9 j9 hk9; omega)))⟩
  · intro b2
    refine r_aload_n c254_8 rfl rfl ?_
    refine r_iload_n c254_9 rfl rfl ?_
    refine r_iconst c254_10 rfl ?_
    refine r_vcG c254_11 (by first | assumption | omega) (by decide) (by first | assumption | rfl) rfl rfl rfl (k302 hG (q_Gr.bz (S := fun k j => k = 139 ∧ j = 7) hZ (by repeat (first | exact q_Gr.rf | refine q_Gr.tr ?_ (by assumption) (by intro k9 j9 hk9; omega)))) (q_Gr.rb (S := fun k j => k = 139 ∧ j = 7) hR (by repeat (first | exact q_Gr.rf | refine q_Gr.tr ?_ (by assumption) (by intro k9 j9 hk9; omega)))) (by first | assumption | omega | exact ⟨q_rg1 _, q_rg2 _⟩ | exact ⟨q_rh1 _, q_rh2 _⟩ | exact q_rj ⟨q_rg1 _, q_rg2 _⟩ | exact q_rgi _ | exact q_rgj _ | exact q_rj (q_rgi _) | exact q_rj (by assumption)) (by first | assumption | omega | exact ⟨q_rg1 _, q_rg2 _⟩ | exact ⟨q_rh1 _, q_rh2 _⟩ | exact q_rj ⟨q_rg1 _, q_rg2 _⟩ | exact q_rgi _ | exact q_rgj _ | exact q_rj (q_rgi _) | exact q_rj (by assumption)) (by first | assumption | omega)) ?_
    intro t3 w3 g3 p3
    obtain ⟨rfl, ⟨z3, rfl, hz3⟩, e3⟩ := p3
    have m140004e3 := e3.1 140 4 (by omega)
    have m139014e3 := e3.1 139 14 (by omega)
    have m139005e3 := e3.1 139 5 (by omega)
    refine Or.inr (Or.inl ⟨rfl, ?_⟩)
    refine r_if_eq c254_14 rfl (by first | exact q_w32_id (by omega) (by omega) | exact q_w32w _ | exact rfl) ?_ ?_
    · intro b4
      refine r_aload_n c254_21 rfl rfl ?_
      refine r_iload_n c254_22 rfl rfl ?_
      refine r_vcG c254_23 (by first | assumption | omega) (by decide) (by first | assumption | rfl) rfl rfl rfl (k256 hG (q_Gr.bz (S := fun k j => k = 139 ∧ j = 7) hZ (by repeat (first | exact q_Gr.rf | refine q_Gr.tr ?_ (by assumption) (by intro k9 j9 hk9; omega)))) (q_Gr.rb (S := fun k j => k = 139 ∧ j = 7) hR (by repeat (first | exact q_Gr.rf | refine q_Gr.tr ?_ (by assumption) (by intro k9 j9 hk9; omega)))) (by first | assumption | omega | exact ⟨q_rg1 _, q_rg2 _⟩ | exact ⟨q_rh1 _, q_rh2 _⟩ | exact q_rj ⟨q_rg1 _, q_rg2 _⟩ | exact q_rgi _ | exact q_rgj _ | exact q_rj (q_rgi _) | exact q_rj (by assumption)) (by first | assumption | omega)) ?_
      intro t5 w5 g5 p5
      obtain ⟨rfl, ⟨z5, rfl, hv5⟩, e5⟩ := p5
      have q95 : g3 = g5 := e5.symm
      subst q95
      refine Or.inr (Or.inl ⟨rfl, ?_⟩)
      exact r_iret c254_26 ⟨rfl, rfl, rfl⟩ ⟨rfl, ⟨_, rfl, (by first | assumption | omega | exact ⟨q_rg1 _, q_rg2 _⟩ | exact ⟨q_rh1 _, q_rh2 _⟩ | exact q_rj ⟨q_rg1 _, q_rg2 _⟩ | exact q_rgi _ | exact q_rgj _ | exact q_rj (q_rgi _) | exact q_rj (by assumption))⟩, (by repeat (first | exact q_Gr.rf | refine q_Gr.tr ?_ (by assumption) (by intro k9 j9 hk9; omega)))⟩
    · intro b4
      refine r_iconst c254_17 rfl ?_
      refine r_goto c254_18 ?_
      exact r_iret c254_26 ⟨rfl, rfl, rfl⟩ ⟨rfl, ⟨_, rfl, (by first | assumption | omega | exact ⟨q_rg1 _, q_rg2 _⟩ | exact ⟨q_rh1 _, q_rh2 _⟩ | exact q_rj ⟨q_rg1 _, q_rg2 _⟩ | exact q_rgi _ | exact q_rgj _ | exact q_rj (q_rgi _) | exact q_rj (by assumption))⟩, (by repeat (first | exact q_Gr.rf | refine q_Gr.tr ?_ (by assumption) (by intro k9 j9 hk9; omega)))⟩
theorem c319_0 : q_cat 319 0 (.aload_n 0) 1 0 0 (0) := ⟨rfl, rfl⟩
theorem c319_1 : q_cat 319 1 (.iload_n 1) 1 1 0 (0) := ⟨rfl, rfl⟩
theorem c319_2 : q_cat 319 2 (.invokevirtual 280) 3 298 0 (0) := ⟨rfl, rfl⟩
theorem c319_5 : q_cat 319 5 (.ifCond .ne 15) 3 20 0 (0) := ⟨rfl, rfl⟩
theorem c319_8 : q_cat 319 8 (.aload_n 0) 1 0 0 (0) := ⟨rfl, rfl⟩
theorem c319_9 : q_cat 319 9 (.iload_n 1) 1 1 0 (0) := ⟨rfl, rfl⟩
theorem c319_10 : q_cat 319 10 (.invokevirtual 86) 3 318 0 (0) := ⟨rfl, rfl⟩
theorem c319_13 : q_cat 319 13 (.ifCond .eq 7) 3 20 0 (0) := ⟨rfl, rfl⟩
theorem c319_16 : q_cat 319 16 (.iconst 1) 1 0 0 (0) := ⟨rfl, rfl⟩
theorem c319_17 : q_cat 319 17 (.goto 4) 3 21 0 (0) := ⟨rfl, rfl⟩
theorem c319_20 : q_cat 319 20 (.iconst 0) 1 0 0 (0) := ⟨rfl, rfl⟩
theorem c319_21 : q_cat 319 21 (.ireturn) 1 0 0 (0) := ⟨rfl, rfl⟩
theorem k319 {Γ : q_Γ} (hG : q_GG Γ) {h : q_F} (hZ : q_Bz h) (hR : q_Rb h) {v1 : Int} (hr1 : q_r32 v1) :
    q_M Γ q_K 155 319 [(2, Int.ofNat 139), (0, v1)] h (fun t w h' => (t = 1 ∧ (∃ z, w = ((0, z) : q_V) ∧ (z = 0 ∨ z = 1)) ∧ q_Gr (fun k j => k = 139 ∧ j = 7) h h')) := by
  refine q_M.of (by decide) (Nat.le_of_ble_eq_true rfl) hG ?_
  refine r_aload_n c319_0 rfl rfl ?_
  refine r_iload_n c319_1 rfl rfl ?_
  refine r_vcG c319_2 (by first | assumption | omega) (by decide) (by first | assumption | rfl) rfl rfl rfl (k298 hG (q_Gr.bz (S := fun k j => k = 139 ∧ j = 7) hZ (by repeat (first | exact q_Gr.rf | refine q_Gr.tr ?_ (by assumption) (by intro k9 j9 hk9; omega)))) (q_Gr.rb (S := fun k j => k = 139 ∧ j = 7) hR (by repeat (first | exact q_Gr.rf | refine q_Gr.tr ?_ (by assumption) (by intro k9 j9 hk9; omega)))) (by first | assumption | omega | exact ⟨q_rg1 _, q_rg2 _⟩ | exact ⟨q_rh1 _, q_rh2 _⟩ | exact q_rj ⟨q_rg1 _, q_rg2 _⟩ | exact q_rgi _ | exact q_rgj _ | exact q_rj (q_rgi _) | exact q_rj (by assumption))) ?_
  intro t1 w1 g1 p1
  obtain ⟨rfl, ⟨z1, rfl, hz1, hs1⟩, e1⟩ := p1
  have m140004e1 := e1.1 140 4 (by omega)
  have m139014e1 := e1.1 139 14 (by omega)
  have m139005e1 := e1.1 139 5 (by omega)
  refine Or.inr (Or.inl ⟨rfl, ?_⟩)
  refine r_if_ne c319_5 rfl (by first | exact q_w32_id (by omega) (by omega) | exact q_w32w _ | exact rfl) ?_ ?_
  · intro b2
    refine r_iconst c319_20 rfl ?_
    exact r_zret c319_21 ⟨rfl, rfl, rfl⟩ (by decide) ⟨rfl, ⟨_, rfl, (by decide)⟩, (by repeat (first | exact q_Gr.rf | refine q_Gr.tr ?_ (by assumption) (by intro k9 j9 hk9; omega)))⟩
  · intro b2
    refine r_aload_n c319_8 rfl rfl ?_
    refine r_iload_n c319_9 rfl rfl ?_
    refine r_vcG c319_10 (by first | assumption | omega) (by decide) (by first | assumption | rfl) rfl rfl rfl (k318 hG (q_Gr.bz (S := fun k j => k = 139 ∧ j = 7) hZ (by repeat (first | exact q_Gr.rf | refine q_Gr.tr ?_ (by assumption) (by intro k9 j9 hk9; omega)))) (q_Gr.rb (S := fun k j => k = 139 ∧ j = 7) hR (by repeat (first | exact q_Gr.rf | refine q_Gr.tr ?_ (by assumption) (by intro k9 j9 hk9; omega)))) (by first | assumption | omega | exact ⟨q_rg1 _, q_rg2 _⟩ | exact ⟨q_rh1 _, q_rh2 _⟩ | exact q_rj ⟨q_rg1 _, q_rg2 _⟩ | exact q_rgi _ | exact q_rgj _ | exact q_rj (q_rgi _) | exact q_rj (by assumption)) (by first | assumption | omega)) ?_
    intro t3 w3 g3 p3
    obtain ⟨rfl, ⟨z3, rfl, hz3⟩, e3⟩ := p3
    have q93 : g1 = g3 := e3.symm
    subst q93
    refine Or.inr (Or.inl ⟨rfl, ?_⟩)
    refine r_if_eq c319_13 rfl (by first | exact q_w32_id (by omega) (by omega) | exact q_w32w _ | exact rfl) ?_ ?_
    · intro b4
      refine r_iconst c319_20 rfl ?_
      exact r_zret c319_21 ⟨rfl, rfl, rfl⟩ (by decide) ⟨rfl, ⟨_, rfl, (by decide)⟩, (by repeat (first | exact q_Gr.rf | refine q_Gr.tr ?_ (by assumption) (by intro k9 j9 hk9; omega)))⟩
    · intro b4
      refine r_iconst c319_16 rfl ?_
      refine r_goto c319_17 ?_
      exact r_zret c319_21 ⟨rfl, rfl, rfl⟩ (by decide) ⟨rfl, ⟨_, rfl, (by decide)⟩, (by repeat (first | exact q_Gr.rf | refine q_Gr.tr ?_ (by assumption) (by intro k9 j9 hk9; omega)))⟩
theorem c352_0 : q_cat 352 0 (.aload_n 0) 1 0 0 (0) := ⟨rfl, rfl⟩
theorem c352_1 : q_cat 352 1 (.iconst 0) 1 0 0 (0) := ⟨rfl, rfl⟩
theorem c352_2 : q_cat 352 2 (.putfield 60) 3 9 7 (0) := ⟨rfl, rfl⟩
theorem c352_5 : q_cat 352 5 (.aload_n 0) 1 0 0 (0) := ⟨rfl, rfl⟩
theorem c352_6 : q_cat 352 6 (.getfield 7) 3 9 0 (3) := ⟨rfl, rfl⟩
theorem c352_9 : q_cat 352 9 (.iconst 5) 1 0 0 (0) := ⟨rfl, rfl⟩
theorem c352_10 : q_cat 352 10 (.laload) 1 0 0 (0) := ⟨rfl, rfl⟩
theorem c352_11 : q_cat 352 11 (.lreturn) 1 0 0 (0) := ⟨rfl, rfl⟩
theorem k352 {Γ : q_Γ} (hG : q_GG Γ) {h : q_F} (hZ : q_Bz h) (hR : q_Rb h)   :
    q_M Γ q_K 155 352 [(2, Int.ofNat 139)] h (fun t w h' => (t = 1 ∧ (∃ z, w = ((1, z) : q_V) ∧ q_r64 z) ∧ q_Gr (fun k j => k = 139 ∧ j = 7) h h')) := by
  refine q_M.of (by decide) (Nat.le_of_ble_eq_true rfl) hG ?_
  refine r_aload_n c352_0 rfl rfl ?_
  refine r_iconst c352_1 rfl ?_
  refine r_putiw c352_2 rfl rfl rfl (q_Rv0 (fun h9 => absurd h9 (by decide)) (fun _ => ⟨(by first | assumption | omega | exact ⟨q_rg1 _, q_rg2 _⟩ | exact ⟨q_rh1 _, q_rh2 _⟩ | exact q_rj ⟨q_rg1 _, q_rg2 _⟩ | exact q_rgi _ | exact q_rgj _ | exact q_rj (q_rgi _) | exact q_rj (by assumption)), Or.inr (by first | assumption | omega | exact ⟨q_rg1 _, q_rg2 _⟩ | exact ⟨q_rh1 _, q_rh2 _⟩ | exact q_rj ⟨q_rg1 _, q_rg2 _⟩ | exact q_rgi _ | exact q_rgj _ | exact q_rj (q_rgi _) | exact q_rj (by assumption)), by omega⟩) (fun h9 h8 => absurd h9 (by decide)) (fun h9 h8 => absurd h9 (by decide))) rfl ?_
  intro g1 f1 w1
  have m140004f1 := f1.1 140 4 (by omega)
  have m139014f1 := f1.1 139 14 (by omega)
  have m139005f1 := f1.1 139 5 (by omega)
  refine r_aload_n c352_5 rfl rfl ?_
  refine r_getr c352_6 (by first | assumption | omega) (by decide) (by first | assumption | rfl) rfl rfl ?_
  refine r_iconst c352_9 rfl ?_
  refine r_laldw (q_Gr.rb (S := fun k j => k = 139 ∧ j = 7) hR (by repeat (first | exact q_Gr.rf | refine q_Gr.tr ?_ (by assumption) (by intro k9 j9 hk9; omega)))) c352_10 (show q_w32 (5) = 5 from rfl) (by first | assumption | omega) (by first | assumption | omega) (show Int.toNat 5 = 5 from rfl) rfl ?_
  intro y2
  exact r_lret c352_11 ⟨rfl, rfl, rfl⟩ ⟨rfl, ⟨_, rfl, (by first | assumption | omega | exact ⟨q_rg1 _, q_rg2 _⟩ | exact ⟨q_rh1 _, q_rh2 _⟩ | exact q_rj ⟨q_rg1 _, q_rg2 _⟩ | exact q_rgi _ | exact q_rgj _ | exact q_rj (q_rgi _) | exact q_rj (by assumption))⟩, (by repeat (first | exact q_Gr.rf | refine q_Gr.tr ?_ (by assumption) (by intro k9 j9 hk9; omega)))⟩
theorem c284_0 : q_cat 284 0 (.aload_n 0) 1 0 0 (0) := ⟨rfl, rfl⟩
theorem c284_1 : q_cat 284 1 (.bipush 35) 2 0 0 (0) := ⟨rfl, rfl⟩
theorem c284_3 : q_cat 284 3 (.invokevirtual 82) 3 303 0 (0) := ⟨rfl, rfl⟩
theorem c284_6 : q_cat 284 6 (.aload_n 0) 1 0 0 (0) := ⟨rfl, rfl⟩
theorem c284_7 : q_cat 284 7 (.bipush 36) 2 0 0 (0) := ⟨rfl, rfl⟩
theorem c284_9 : q_cat 284 9 (.invokevirtual 82) 3 303 0 (0) := ⟨rfl, rfl⟩
theorem c284_12 : q_cat 284 12 (.iadd) 1 0 0 (0) := ⟨rfl, rfl⟩
theorem c284_13 : q_cat 284 13 (.aload_n 0) 1 0 0 (0) := ⟨rfl, rfl⟩
theorem c284_14 : q_cat 284 14 (.bipush 37) 2 0 0 (0) := ⟨rfl, rfl⟩
theorem c284_16 : q_cat 284 16 (.invokevirtual 82) 3 303 0 (0) := ⟨rfl, rfl⟩
theorem c284_19 : q_cat 284 19 (.iadd) 1 0 0 (0) := ⟨rfl, rfl⟩
theorem c284_20 : q_cat 284 20 (.ireturn) 1 0 0 (0) := ⟨rfl, rfl⟩
theorem k284 {Γ : q_Γ} (hG : q_GG Γ) {h : q_F} (hZ : q_Bz h) (hR : q_Rb h)   :
    q_M Γ q_K 155 284 [(2, Int.ofNat 139)] h (fun t w h' => (t = 1 ∧ (∃ z, w = ((0, z) : q_V) ∧ q_r32 z) ∧ h' = h)) := by
  refine q_M.of (by decide) (Nat.le_of_ble_eq_true rfl) hG ?_
  refine r_aload_n c284_0 rfl rfl ?_
  refine r_bipush c284_1 rfl ?_
  refine r_vcG c284_3 (by first | assumption | omega) (by decide) (by first | assumption | rfl) rfl rfl rfl (k303 hG hZ hR (by first | assumption | omega | exact ⟨q_rg1 _, q_rg2 _⟩ | exact ⟨q_rh1 _, q_rh2 _⟩ | exact q_rj ⟨q_rg1 _, q_rg2 _⟩ | exact q_rgi _ | exact q_rgj _ | exact q_rj (q_rgi _) | exact q_rj (by assumption)) (by first | assumption | omega)) ?_
  intro t1 w1 g1 p1
  obtain ⟨rfl, ⟨z1, rfl, hv1, hs1⟩, e1⟩ := p1
  have q91 : h = g1 := e1.symm
  subst q91
  refine Or.inr (Or.inl ⟨rfl, ?_⟩)
  refine r_aload_n c284_6 rfl rfl ?_
  refine r_bipush c284_7 rfl ?_
  refine r_vcG c284_9 (by first | assumption | omega) (by decide) (by first | assumption | rfl) rfl rfl rfl (k303 hG hZ hR (by first | assumption | omega | exact ⟨q_rg1 _, q_rg2 _⟩ | exact ⟨q_rh1 _, q_rh2 _⟩ | exact q_rj ⟨q_rg1 _, q_rg2 _⟩ | exact q_rgi _ | exact q_rgj _ | exact q_rj (q_rgi _) | exact q_rj (by assumption)) (by first | assumption | omega)) ?_
  intro t2 w2 g2 p2
  obtain ⟨rfl, ⟨z2, rfl, hv2, hs2⟩, e2⟩ := p2
  have q92 : h = g2 := e2.symm
  subst q92
  refine Or.inr (Or.inl ⟨rfl, ?_⟩)
  refine r_iadd c284_12 (by first | exact q_w32_id (by omega) (by omega) | exact q_w32w _ | exact rfl) rfl ?_
  refine r_aload_n c284_13 rfl rfl ?_
  refine r_bipush c284_14 rfl ?_
  refine r_vcG c284_16 (by first | assumption | omega) (by decide) (by first | assumption | rfl) rfl rfl rfl (k303 hG hZ hR (by first | assumption | omega | exact ⟨q_rg1 _, q_rg2 _⟩ | exact ⟨q_rh1 _, q_rh2 _⟩ | exact q_rj ⟨q_rg1 _, q_rg2 _⟩ | exact q_rgi _ | exact q_rgj _ | exact q_rj (q_rgi _) | exact q_rj (by assumption)) (by first | assumption | omega)) ?_
  intro t3 w3 g3 p3
  obtain ⟨rfl, ⟨z3, rfl, hv3, hs3⟩, e3⟩ := p3
  have q93 : h = g3 := e3.symm
  subst q93
  refine Or.inr (Or.inl ⟨rfl, ?_⟩)
  refine r_iadd c284_19 (by first | exact q_w32_id (by omega) (by omega) | exact q_w32w _ | exact rfl) rfl ?_
  exact r_iret c284_20 ⟨rfl, rfl, rfl⟩ ⟨rfl, ⟨_, rfl, (by first | assumption | omega | exact ⟨q_rg1 _, q_rg2 _⟩ | exact ⟨q_rh1 _, q_rh2 _⟩ | exact q_rj ⟨q_rg1 _, q_rg2 _⟩ | exact q_rgi _ | exact q_rgj _ | exact q_rj (q_rgi _) | exact q_rj (by assumption))⟩, rfl⟩
theorem c234_0 : q_cat 234 0 (.aload_n 0) 1 0 0 (0) := ⟨rfl, rfl⟩
theorem c234_1 : q_cat 234 1 (.iload_n 1) 1 1 0 (0) := ⟨rfl, rfl⟩
theorem c234_2 : q_cat 234 2 (.invokevirtual 280) 3 298 0 (0) := ⟨rfl, rfl⟩
theorem c234_5 : q_cat 234 5 (.ifCond .ne 28) 3 33 0 (0) := ⟨rfl, rfl⟩
theorem c234_8 : q_cat 234 8 (.aload_n 0) 1 0 0 (0) := ⟨rfl, rfl⟩
theorem c234_9 : q_cat 234 9 (.iload_n 2) 1 2 0 (0) := ⟨rfl, rfl⟩
theorem c234_10 : q_cat 234 10 (.i2l) 1 0 0 (0) := ⟨rfl, rfl⟩
theorem c234_11 : q_cat 234 11 (.lconst 0) 1 0 0 (0) := ⟨rfl, rfl⟩
theorem c234_12 : q_cat 234 12 (.ldc2_w 69) 3 0 0 (5) := ⟨rfl, rfl⟩
theorem c234_15 : q_cat 234 15 (.invokestatic 163) 3 267 1 (0) := ⟨rfl, rfl⟩
theorem c234_18 : q_cat 234 18 (.ifCond .ne 7) 3 25 0 (0) := ⟨rfl, rfl⟩
theorem c234_21 : q_cat 234 21 (.iconst 1) 1 0 0 (0) := ⟨rfl, rfl⟩
theorem c234_22 : q_cat 234 22 (.goto 4) 3 26 0 (0) := ⟨rfl, rfl⟩
theorem c234_25 : q_cat 234 25 (.iconst 0) 1 0 0 (0) := ⟨rfl, rfl⟩
theorem c234_26 : q_cat 234 26 (.iconst 2) 1 0 0 (0) := ⟨rfl, rfl⟩
theorem c234_27 : q_cat 234 27 (.invokevirtual 273) 3 258 0 (0) := ⟨rfl, rfl⟩
theorem c234_30 : q_cat 234 30 (.ifCond .eq 5) 3 35 0 (0) := ⟨rfl, rfl⟩
theorem c234_33 : q_cat 234 33 (.iconst 0) 1 0 0 (0) := ⟨rfl, rfl⟩
theorem c234_34 : q_cat 234 34 (.ireturn) 1 0 0 (0) := ⟨rfl, rfl⟩
theorem c234_35 : q_cat 234 35 (.aload_n 0) 1 0 0 (0) := ⟨rfl, rfl⟩
theorem c234_36 : q_cat 234 36 (.bipush 56) 2 0 0 (0) := ⟨rfl, rfl⟩
theorem c234_38 : q_cat 234 38 (.iconst 3) 1 0 0 (0) := ⟨rfl, rfl⟩
theorem c234_39 : q_cat 234 39 (.iload_n 2) 1 2 0 (0) := ⟨rfl, rfl⟩
theorem c234_40 : q_cat 234 40 (.imul) 1 0 0 (0) := ⟨rfl, rfl⟩
theorem c234_41 : q_cat 234 41 (.iadd) 1 0 0 (0) := ⟨rfl, rfl⟩
theorem c234_42 : q_cat 234 42 (.iload_n 1) 1 1 0 (0) := ⟨rfl, rfl⟩
theorem c234_43 : q_cat 234 43 (.iadd) 1 0 0 (0) := ⟨rfl, rfl⟩
theorem c234_44 : q_cat 234 44 (.invokevirtual 82) 3 303 0 (0) := ⟨rfl, rfl⟩
theorem c234_47 : q_cat 234 47 (.ireturn) 1 0 0 (0) := ⟨rfl, rfl⟩
theorem k234 {Γ : q_Γ} (hG : q_GG Γ) {h : q_F} (hZ : q_Bz h) (hR : q_Rb h) {v1 : Int} {v2 : Int} (hr1 : q_r32 v1) (hr2 : q_r32 v2) :
    q_M Γ q_K 155 234 [(2, Int.ofNat 139), (0, v1), (0, v2)] h (fun t w h' => (t = 1 ∧ (∃ z, w = ((0, z) : q_V) ∧ q_r32 z) ∧ q_Gr (fun k j => k = 139 ∧ j = 7) h h')) := by
  refine q_M.of (by decide) (Nat.le_of_ble_eq_true rfl) hG ?_
  refine r_aload_n c234_0 rfl rfl ?_
  refine r_iload_n c234_1 rfl rfl ?_
  refine r_vcG c234_2 (by first | assumption | omega) (by decide) (by first | assumption | rfl) rfl rfl rfl (k298 hG (q_Gr.bz (S := fun k j => k = 139 ∧ j = 7) hZ (by repeat (first | exact q_Gr.rf | refine q_Gr.tr ?_ (by assumption) (by intro k9 j9 hk9; omega)))) (q_Gr.rb (S := fun k j => k = 139 ∧ j = 7) hR (by repeat (first | exact q_Gr.rf | refine q_Gr.tr ?_ (by assumption) (by intro k9 j9 hk9; omega)))) (by first | assumption | omega | exact ⟨q_rg1 _, q_rg2 _⟩ | exact ⟨q_rh1 _, q_rh2 _⟩ | exact q_rj ⟨q_rg1 _, q_rg2 _⟩ | exact q_rgi _ | exact q_rgj _ | exact q_rj (q_rgi _) | exact q_rj (by assumption))) ?_
  intro t1 w1 g1 p1
  obtain ⟨rfl, ⟨z1, rfl, hz1, hs1⟩, e1⟩ := p1
  have m140004e1 := e1.1 140 4 (by omega)
  have m139014e1 := e1.1 139 14 (by omega)
  have m139005e1 := e1.1 139 5 (by omega)
  refine Or.inr (Or.inl ⟨rfl, ?_⟩)
  refine r_if_ne c234_5 rfl (by first | exact q_w32_id (by omega) (by omega) | exact q_w32w _ | exact rfl) ?_ ?_
  · intro b2
    refine r_iconst c234_33 rfl ?_
    exact r_iret c234_34 ⟨rfl, rfl, rfl⟩ ⟨rfl, ⟨_, rfl, (by first | assumption | omega | exact ⟨q_rg1 _, q_rg2 _⟩ | exact ⟨q_rh1 _, q_rh2 _⟩ | exact q_rj ⟨q_rg1 _, q_rg2 _⟩ | exact q_rgi _ | exact q_rgj _ | exact q_rj (q_rgi _) | exact q_rj (by assumption))⟩, (by repeat (first | exact q_Gr.rf | refine q_Gr.tr ?_ (by assumption) (by intro k9 j9 hk9; omega)))⟩
  · intro b2
    refine r_aload_n c234_8 rfl rfl ?_
    refine r_iload_n c234_9 rfl rfl ?_
    refine r_i2l c234_10 (by first | exact q_w32_id (by omega) (by omega) | exact q_w32w _ | exact rfl) rfl ?_
    refine r_lconst c234_11 rfl ?_
    refine r_ldc2 c234_12 rfl rfl ?_
    refine r_callG c234_15 (fun _ => rfl) rfl rfl rfl (k267 hG (q_Gr.bz (S := fun k j => k = 139 ∧ j = 7) hZ (by repeat (first | exact q_Gr.rf | refine q_Gr.tr ?_ (by assumption) (by intro k9 j9 hk9; omega)))) (q_Gr.rb (S := fun k j => k = 139 ∧ j = 7) hR (by repeat (first | exact q_Gr.rf | refine q_Gr.tr ?_ (by assumption) (by intro k9 j9 hk9; omega)))) (by first | assumption | omega | exact ⟨q_rg1 _, q_rg2 _⟩ | exact ⟨q_rh1 _, q_rh2 _⟩ | exact q_rj ⟨q_rg1 _, q_rg2 _⟩ | exact q_rgi _ | exact q_rgj _ | exact q_rj (q_rgi _) | exact q_rj (by assumption)) (by first | assumption | omega | exact ⟨q_rg1 _, q_rg2 _⟩ | exact ⟨q_rh1 _, q_rh2 _⟩ | exact q_rj ⟨q_rg1 _, q_rg2 _⟩ | exact q_rgi _ | exact q_rgj _ | exact q_rj (q_rgi _) | exact q_rj (by assumption)) (by first | assumption | omega | exact ⟨q_rg1 _, q_rg2 _⟩ | exact ⟨q_rh1 _, q_rh2 _⟩ | exact q_rj ⟨q_rg1 _, q_rg2 _⟩ | exact q_rgi _ | exact q_rgj _ | exact q_rj (q_rgi _) | exact q_rj (by assumption))) ?_
    intro t3 w3 g3 p3
    obtain ⟨rfl, ⟨z3, rfl, hz3, hs3⟩, e3⟩ := p3
    have q93 : g1 = g3 := e3.symm
    subst q93
    refine Or.inr (Or.inl ⟨rfl, ?_⟩)
    refine r_if_ne c234_18 rfl (by first | exact q_w32_id (by omega) (by omega) | exact q_w32w _ | exact rfl) ?_ ?_
    · intro b4
      refine r_iconst c234_25 rfl ?_
      refine r_iconst c234_26 rfl ?_
      refine r_vcG c234_27 (by first | assumption | omega) (by decide) (by first | assumption | rfl) rfl rfl rfl (k258 hG (q_Gr.bz (S := fun k j => k = 139 ∧ j = 7) hZ (by repeat (first | exact q_Gr.rf | refine q_Gr.tr ?_ (by assumption) (by intro k9 j9 hk9; omega)))) (q_Gr.rb (S := fun k j => k = 139 ∧ j = 7) hR (by repeat (first | exact q_Gr.rf | refine q_Gr.tr ?_ (by assumption) (by intro k9 j9 hk9; omega)))) (by first | assumption | decide | omega) (by first | assumption | omega | exact ⟨q_rg1 _, q_rg2 _⟩ | exact ⟨q_rh1 _, q_rh2 _⟩ | exact q_rj ⟨q_rg1 _, q_rg2 _⟩ | exact q_rgi _ | exact q_rgj _ | exact q_rj (q_rgi _) | exact q_rj (by assumption))) ?_
      intro t5 w5 g5 p5
      obtain ⟨rfl, ⟨z5, rfl, hz5, hs5⟩, e5⟩ := p5
      have m140004e5 := e5.1 140 4 (by omega)
      have m139014e5 := e5.1 139 14 (by omega)
      have m139005e5 := e5.1 139 5 (by omega)
      refine Or.inr (Or.inl ⟨rfl, ?_⟩)
      refine r_if_eq c234_30 rfl (by first | exact q_w32_id (by omega) (by omega) | exact q_w32w _ | exact rfl) ?_ ?_
      · intro b6
        refine r_aload_n c234_35 rfl rfl ?_
        refine r_bipush c234_36 rfl ?_
        refine r_iconst c234_38 rfl ?_
        refine r_iload_n c234_39 rfl rfl ?_
        refine r_imul c234_40 (by first | exact q_w32_id (by omega) (by omega) | exact q_w32w _ | exact rfl) rfl ?_
        refine r_iadd c234_41 (by first | exact q_w32_id (by omega) (by omega) | exact q_w32w _ | exact rfl) rfl ?_
        refine r_iload_n c234_42 rfl rfl ?_
        refine r_iadd c234_43 (by first | exact q_w32_id (by omega) (by omega) | exact q_w32w _ | exact rfl) rfl ?_
        refine r_vcG c234_44 (by first | assumption | omega) (by decide) (by first | assumption | rfl) rfl rfl rfl (k303 hG (q_Gr.bz (S := fun k j => k = 139 ∧ j = 7) hZ (by repeat (first | exact q_Gr.rf | refine q_Gr.tr ?_ (by assumption) (by intro k9 j9 hk9; omega)))) (q_Gr.rb (S := fun k j => k = 139 ∧ j = 7) hR (by repeat (first | exact q_Gr.rf | refine q_Gr.tr ?_ (by assumption) (by intro k9 j9 hk9; omega)))) (by first | assumption | omega | exact ⟨q_rg1 _, q_rg2 _⟩ | exact ⟨q_rh1 _, q_rh2 _⟩ | exact q_rj ⟨q_rg1 _, q_rg2 _⟩ | exact q_rgi _ | exact q_rgj _ | exact q_rj (q_rgi _) | exact q_rj (by assumption)) (by first | assumption | omega)) ?_
        intro t7 w7 g7 p7
        obtain ⟨rfl, ⟨z7, rfl, hv7, hs7⟩, e7⟩ := p7
        have q97 : g5 = g7 := e7.symm
        subst q97
        refine Or.inr (Or.inl ⟨rfl, ?_⟩)
        exact r_iret c234_47 ⟨rfl, rfl, rfl⟩ ⟨rfl, ⟨_, rfl, (by first | assumption | omega | exact ⟨q_rg1 _, q_rg2 _⟩ | exact ⟨q_rh1 _, q_rh2 _⟩ | exact q_rj ⟨q_rg1 _, q_rg2 _⟩ | exact q_rgi _ | exact q_rgj _ | exact q_rj (q_rgi _) | exact q_rj (by assumption))⟩, (by repeat (first | exact q_Gr.rf | refine q_Gr.tr ?_ (by assumption) (by intro k9 j9 hk9; omega)))⟩
      · intro b6
        refine r_iconst c234_33 rfl ?_
        exact r_iret c234_34 ⟨rfl, rfl, rfl⟩ ⟨rfl, ⟨_, rfl, (by first | assumption | omega | exact ⟨q_rg1 _, q_rg2 _⟩ | exact ⟨q_rh1 _, q_rh2 _⟩ | exact q_rj ⟨q_rg1 _, q_rg2 _⟩ | exact q_rgi _ | exact q_rgj _ | exact q_rj (q_rgi _) | exact q_rj (by assumption))⟩, (by repeat (first | exact q_Gr.rf | refine q_Gr.tr ?_ (by assumption) (by intro k9 j9 hk9; omega)))⟩
    · intro b4
      refine r_iconst c234_21 rfl ?_
      refine r_goto c234_22 ?_
      refine r_iconst c234_26 rfl ?_
      refine r_vcG c234_27 (by first | assumption | omega) (by decide) (by first | assumption | rfl) rfl rfl rfl (k258 hG (q_Gr.bz (S := fun k j => k = 139 ∧ j = 7) hZ (by repeat (first | exact q_Gr.rf | refine q_Gr.tr ?_ (by assumption) (by intro k9 j9 hk9; omega)))) (q_Gr.rb (S := fun k j => k = 139 ∧ j = 7) hR (by repeat (first | exact q_Gr.rf | refine q_Gr.tr ?_ (by assumption) (by intro k9 j9 hk9; omega)))) (by first | assumption | decide | omega) (by first | assumption | omega | exact ⟨q_rg1 _, q_rg2 _⟩ | exact ⟨q_rh1 _, q_rh2 _⟩ | exact q_rj ⟨q_rg1 _, q_rg2 _⟩ | exact q_rgi _ | exact q_rgj _ | exact q_rj (q_rgi _) | exact q_rj (by assumption))) ?_
      intro t8 w8 g8 p8
      obtain ⟨rfl, ⟨z8, rfl, hz8, hs8⟩, e8⟩ := p8
      have m140004e8 := e8.1 140 4 (by omega)
      have m139014e8 := e8.1 139 14 (by omega)
      have m139005e8 := e8.1 139 5 (by omega)
      refine Or.inr (Or.inl ⟨rfl, ?_⟩)
      refine r_if_eq c234_30 rfl (by first | exact q_w32_id (by omega) (by omega) | exact q_w32w _ | exact rfl) ?_ ?_
      · intro b9
        refine r_aload_n c234_35 rfl rfl ?_
        refine r_bipush c234_36 rfl ?_
        refine r_iconst c234_38 rfl ?_
        refine r_iload_n c234_39 rfl rfl ?_
        refine r_imul c234_40 (by first | exact q_w32_id (by omega) (by omega) | exact q_w32w _ | exact rfl) rfl ?_
        refine r_iadd c234_41 (by first | exact q_w32_id (by omega) (by omega) | exact q_w32w _ | exact rfl) rfl ?_
        refine r_iload_n c234_42 rfl rfl ?_
        refine r_iadd c234_43 (by first | exact q_w32_id (by omega) (by omega) | exact q_w32w _ | exact rfl) rfl ?_
        refine r_vcG c234_44 (by first | assumption | omega) (by decide) (by first | assumption | rfl) rfl rfl rfl (k303 hG (q_Gr.bz (S := fun k j => k = 139 ∧ j = 7) hZ (by repeat (first | exact q_Gr.rf | refine q_Gr.tr ?_ (by assumption) (by intro k9 j9 hk9; omega)))) (q_Gr.rb (S := fun k j => k = 139 ∧ j = 7) hR (by repeat (first | exact q_Gr.rf | refine q_Gr.tr ?_ (by assumption) (by intro k9 j9 hk9; omega)))) (by first | assumption | omega | exact ⟨q_rg1 _, q_rg2 _⟩ | exact ⟨q_rh1 _, q_rh2 _⟩ | exact q_rj ⟨q_rg1 _, q_rg2 _⟩ | exact q_rgi _ | exact q_rgj _ | exact q_rj (q_rgi _) | exact q_rj (by assumption)) (by first | assumption | omega)) ?_
        intro t10 w10 g10 p10
        obtain ⟨rfl, ⟨z10, rfl, hv10, hs10⟩, e10⟩ := p10
        have q910 : g8 = g10 := e10.symm
        subst q910
        refine Or.inr (Or.inl ⟨rfl, ?_⟩)
        exact r_iret c234_47 ⟨rfl, rfl, rfl⟩ ⟨rfl, ⟨_, rfl, (by first | assumption | omega | exact ⟨q_rg1 _, q_rg2 _⟩ | exact ⟨q_rh1 _, q_rh2 _⟩ | exact q_rj ⟨q_rg1 _, q_rg2 _⟩ | exact q_rgi _ | exact q_rgj _ | exact q_rj (q_rgi _) | exact q_rj (by assumption))⟩, (by repeat (first | exact q_Gr.rf | refine q_Gr.tr ?_ (by assumption) (by intro k9 j9 hk9; omega)))⟩
      · intro b9
        refine r_iconst c234_33 rfl ?_
        exact r_iret c234_34 ⟨rfl, rfl, rfl⟩ ⟨rfl, ⟨_, rfl, (by first | assumption | omega | exact ⟨q_rg1 _, q_rg2 _⟩ | exact ⟨q_rh1 _, q_rh2 _⟩ | exact q_rj ⟨q_rg1 _, q_rg2 _⟩ | exact q_rgi _ | exact q_rgj _ | exact q_rj (q_rgi _) | exact q_rj (by assumption))⟩, (by repeat (first | exact q_Gr.rf | refine q_Gr.tr ?_ (by assumption) (by intro k9 j9 hk9; omega)))⟩
theorem c304_0 : q_cat 304 0 (.aload_n 0) 1 0 0 (0) := ⟨rfl, rfl⟩
theorem c304_1 : q_cat 304 1 (.iconst 0) 1 0 0 (0) := ⟨rfl, rfl⟩
theorem c304_2 : q_cat 304 2 (.putfield 60) 3 9 7 (0) := ⟨rfl, rfl⟩
theorem c304_5 : q_cat 304 5 (.iload_n 1) 1 1 0 (0) := ⟨rfl, rfl⟩
theorem c304_6 : q_cat 304 6 (.i2l) 1 0 0 (0) := ⟨rfl, rfl⟩
theorem c304_7 : q_cat 304 7 (.lconst 0) 1 0 0 (0) := ⟨rfl, rfl⟩
theorem c304_8 : q_cat 304 8 (.aload_n 0) 1 0 0 (0) := ⟨rfl, rfl⟩
theorem c304_9 : q_cat 304 9 (.getfield 407) 3 9 27 (0) := ⟨rfl, rfl⟩
theorem c304_12 : q_cat 304 12 (.iconst 1) 1 0 0 (0) := ⟨rfl, rfl⟩
theorem c304_13 : q_cat 304 13 (.isub) 1 0 0 (0) := ⟨rfl, rfl⟩
theorem c304_14 : q_cat 304 14 (.i2l) 1 0 0 (0) := ⟨rfl, rfl⟩
theorem c304_15 : q_cat 304 15 (.invokestatic 163) 3 267 1 (0) := ⟨rfl, rfl⟩
theorem c304_18 : q_cat 304 18 (.ifCond .eq 12) 3 30 0 (0) := ⟨rfl, rfl⟩
theorem c304_21 : q_cat 304 21 (.aload_n 0) 1 0 0 (0) := ⟨rfl, rfl⟩
theorem c304_22 : q_cat 304 22 (.getfield 51) 3 9 26 (3) := ⟨rfl, rfl⟩
theorem c304_25 : q_cat 304 25 (.iload_n 1) 1 1 0 (0) := ⟨rfl, rfl⟩
theorem c304_26 : q_cat 304 26 (.iaload) 1 0 0 (0) := ⟨rfl, rfl⟩
theorem c304_27 : q_cat 304 27 (.goto 4) 3 31 0 (0) := ⟨rfl, rfl⟩
theorem c304_30 : q_cat 304 30 (.iconst (-1)) 1 0 0 (0) := ⟨rfl, rfl⟩
theorem c304_31 : q_cat 304 31 (.ireturn) 1 0 0 (0) := ⟨rfl, rfl⟩
theorem k304 {Γ : q_Γ} (hG : q_GG Γ) {h : q_F} (hZ : q_Bz h) (hR : q_Rb h) {v1 : Int} (hr1 : q_r32 v1) :
    q_M Γ q_K 155 304 [(2, Int.ofNat 139), (0, v1)] h (fun t w h' => (t = 1 ∧ (∃ z, w = ((0, z) : q_V) ∧ q_r32 z) ∧ q_Gr (fun k j => k = 139 ∧ j = 7) h h')) := by
  refine q_M.of (by decide) (Nat.le_of_ble_eq_true rfl) hG ?_
  refine r_aload_n c304_0 rfl rfl ?_
  refine r_iconst c304_1 rfl ?_
  refine r_putiw c304_2 rfl rfl rfl (q_Rv0 (fun h9 => absurd h9 (by decide)) (fun _ => ⟨(by first | assumption | omega | exact ⟨q_rg1 _, q_rg2 _⟩ | exact ⟨q_rh1 _, q_rh2 _⟩ | exact q_rj ⟨q_rg1 _, q_rg2 _⟩ | exact q_rgi _ | exact q_rgj _ | exact q_rj (q_rgi _) | exact q_rj (by assumption)), Or.inr (by first | assumption | omega | exact ⟨q_rg1 _, q_rg2 _⟩ | exact ⟨q_rh1 _, q_rh2 _⟩ | exact q_rj ⟨q_rg1 _, q_rg2 _⟩ | exact q_rgi _ | exact q_rgj _ | exact q_rj (q_rgi _) | exact q_rj (by assumption)), by omega⟩) (fun h9 h8 => absurd h9 (by decide)) (fun h9 h8 => absurd h9 (by decide))) rfl ?_
  intro g1 f1 w1
  have m140004f1 := f1.1 140 4 (by omega)
  have m139014f1 := f1.1 139 14 (by omega)
  have m139005f1 := f1.1 139 5 (by omega)
  refine r_iload_n c304_5 rfl rfl ?_
  refine r_i2l c304_6 (by first | exact q_w32_id (by omega) (by omega) | exact q_w32w _ | exact rfl) rfl ?_
  refine r_lconst c304_7 rfl ?_
  refine r_aload_n c304_8 rfl rfl ?_
  refine r_getf (q_Gr.rb (S := fun k j => k = 139 ∧ j = 7) hR (by repeat (first | exact q_Gr.rf | refine q_Gr.tr ?_ (by assumption) (by intro k9 j9 hk9; omega)))) c304_9 rfl (by decide) rfl ?_
  intro y2
  refine r_iconst c304_12 rfl ?_
  refine r_isub c304_13 (by first | exact q_w32_id (by omega) (by omega) | exact q_w32w _ | exact rfl) rfl ?_
  refine r_i2l c304_14 (by first | exact q_w32_id (by omega) (by omega) | exact q_w32w _ | exact rfl) rfl ?_
  refine r_callG c304_15 (fun _ => rfl) rfl rfl rfl (k267 hG (q_Gr.bz (S := fun k j => k = 139 ∧ j = 7) hZ (by repeat (first | exact q_Gr.rf | refine q_Gr.tr ?_ (by assumption) (by intro k9 j9 hk9; omega)))) (q_Gr.rb (S := fun k j => k = 139 ∧ j = 7) hR (by repeat (first | exact q_Gr.rf | refine q_Gr.tr ?_ (by assumption) (by intro k9 j9 hk9; omega)))) (by first | assumption | omega | exact ⟨q_rg1 _, q_rg2 _⟩ | exact ⟨q_rh1 _, q_rh2 _⟩ | exact q_rj ⟨q_rg1 _, q_rg2 _⟩ | exact q_rgi _ | exact q_rgj _ | exact q_rj (q_rgi _) | exact q_rj (by assumption)) (by first | assumption | omega | exact ⟨q_rg1 _, q_rg2 _⟩ | exact ⟨q_rh1 _, q_rh2 _⟩ | exact q_rj ⟨q_rg1 _, q_rg2 _⟩ | exact q_rgi _ | exact q_rgj _ | exact q_rj (q_rgi _) | exact q_rj (by assumption)) (by first | assumption | omega | exact ⟨q_rg1 _, q_rg2 _⟩ | exact ⟨q_rh1 _, q_rh2 _⟩ | exact q_rj ⟨q_rg1 _, q_rg2 _⟩ | exact q_rgi _ | exact q_rgj _ | exact q_rj (q_rgi _) | exact q_rj (by assumption))) ?_
  intro t3 w3 g3 p3
  obtain ⟨rfl, ⟨z3, rfl, hz3, hs3⟩, e3⟩ := p3
  have q93 : g1 = g3 := e3.symm
  subst q93
  refine Or.inr (Or.inl ⟨rfl, ?_⟩)
  refine r_if_eq c304_18 rfl (by first | exact q_w32_id (by omega) (by omega) | exact q_w32w _ | exact rfl) ?_ ?_
  · intro b4
    refine r_iconst c304_30 rfl ?_
    exact r_iret c304_31 ⟨rfl, rfl, rfl⟩ ⟨rfl, ⟨_, rfl, (by first | assumption | omega | exact ⟨q_rg1 _, q_rg2 _⟩ | exact ⟨q_rh1 _, q_rh2 _⟩ | exact q_rj ⟨q_rg1 _, q_rg2 _⟩ | exact q_rgi _ | exact q_rgj _ | exact q_rj (q_rgi _) | exact q_rj (by assumption))⟩, (by repeat (first | exact q_Gr.rf | refine q_Gr.tr ?_ (by assumption) (by intro k9 j9 hk9; omega)))⟩
  · intro b4
    refine r_aload_n c304_21 rfl rfl ?_
    refine r_getr c304_22 (by first | assumption | omega) (by decide) (by first | assumption | rfl) rfl rfl ?_
    refine r_iload_n c304_25 rfl rfl ?_
    refine r_ialdr (q_Gr.rb (S := fun k j => k = 139 ∧ j = 7) hR (by repeat (first | exact q_Gr.rf | refine q_Gr.tr ?_ (by assumption) (by intro k9 j9 hk9; omega)))) c304_26 (by decide) (by decide) rfl (by decide) (by first | exact q_w32_id (by omega) (by omega) | exact q_w32w _ | exact rfl) (by first | assumption | omega) (by first | assumption | omega) rfl ?_
    intro y5
    refine r_goto c304_27 ?_
    exact r_iret c304_31 ⟨rfl, rfl, rfl⟩ ⟨rfl, ⟨_, rfl, (by first | assumption | omega | exact ⟨q_rg1 _, q_rg2 _⟩ | exact ⟨q_rh1 _, q_rh2 _⟩ | exact q_rj ⟨q_rg1 _, q_rg2 _⟩ | exact q_rgi _ | exact q_rgj _ | exact q_rj (q_rgi _) | exact q_rj (by assumption))⟩, (by repeat (first | exact q_Gr.rf | refine q_Gr.tr ?_ (by assumption) (by intro k9 j9 hk9; omega)))⟩
theorem c350_0 : q_cat 350 0 (.aload_n 0) 1 0 0 (0) := ⟨rfl, rfl⟩
theorem c350_1 : q_cat 350 1 (.iload_n 1) 1 1 0 (0) := ⟨rfl, rfl⟩
theorem c350_2 : q_cat 350 2 (.iload_n 2) 1 2 0 (0) := ⟨rfl, rfl⟩
theorem c350_3 : q_cat 350 3 (.invokevirtual 347) 3 300 0 (0) := ⟨rfl, rfl⟩
theorem c350_6 : q_cat 350 6 (.ifCond .eq 7) 3 13 0 (0) := ⟨rfl, rfl⟩
theorem c350_9 : q_cat 350 9 (.iconst 0) 1 0 0 (0) := ⟨rfl, rfl⟩
theorem c350_10 : q_cat 350 10 (.goto 15) 3 25 0 (0) := ⟨rfl, rfl⟩
theorem c350_13 : q_cat 350 13 (.aload_n 0) 1 0 0 (0) := ⟨rfl, rfl⟩
theorem c350_14 : q_cat 350 14 (.bipush 74) 2 0 0 (0) := ⟨rfl, rfl⟩
theorem c350_16 : q_cat 350 16 (.iconst 3) 1 0 0 (0) := ⟨rfl, rfl⟩
theorem c350_17 : q_cat 350 17 (.iload_n 1) 1 1 0 (0) := ⟨rfl, rfl⟩
theorem c350_18 : q_cat 350 18 (.imul) 1 0 0 (0) := ⟨rfl, rfl⟩
theorem c350_19 : q_cat 350 19 (.iadd) 1 0 0 (0) := ⟨rfl, rfl⟩
theorem c350_20 : q_cat 350 20 (.iload_n 2) 1 2 0 (0) := ⟨rfl, rfl⟩
theorem c350_21 : q_cat 350 21 (.iadd) 1 0 0 (0) := ⟨rfl, rfl⟩
theorem c350_22 : q_cat 350 22 (.invokevirtual 82) 3 303 0 (0) := ⟨rfl, rfl⟩
theorem c350_25 : q_cat 350 25 (.ireturn) 1 0 0 (0) := ⟨rfl, rfl⟩
theorem k350 {Γ : q_Γ} (hG : q_GG Γ) {h : q_F} (hZ : q_Bz h) (hR : q_Rb h) {v1 : Int} {v2 : Int} (hr1 : q_r32 v1) (hr2 : q_r32 v2) :
    q_M Γ q_K 155 350 [(2, Int.ofNat 139), (0, v1), (0, v2)] h (fun t w h' => (t = 1 ∧ (∃ z, w = ((0, z) : q_V) ∧ q_r32 z) ∧ q_Gr (fun k j => k = 139 ∧ j = 7) h h')) := by
  refine q_M.of (by decide) (Nat.le_of_ble_eq_true rfl) hG ?_
  refine r_aload_n c350_0 rfl rfl ?_
  refine r_iload_n c350_1 rfl rfl ?_
  refine r_iload_n c350_2 rfl rfl ?_
  refine r_vcG c350_3 (by first | assumption | omega) (by decide) (by first | assumption | rfl) rfl rfl rfl (k300 hG (q_Gr.bz (S := fun k j => k = 139 ∧ j = 7) hZ (by repeat (first | exact q_Gr.rf | refine q_Gr.tr ?_ (by assumption) (by intro k9 j9 hk9; omega)))) (q_Gr.rb (S := fun k j => k = 139 ∧ j = 7) hR (by repeat (first | exact q_Gr.rf | refine q_Gr.tr ?_ (by assumption) (by intro k9 j9 hk9; omega)))) (by first | assumption | omega | exact ⟨q_rg1 _, q_rg2 _⟩ | exact ⟨q_rh1 _, q_rh2 _⟩ | exact q_rj ⟨q_rg1 _, q_rg2 _⟩ | exact q_rgi _ | exact q_rgj _ | exact q_rj (q_rgi _) | exact q_rj (by assumption)) (by first | assumption | omega | exact ⟨q_rg1 _, q_rg2 _⟩ | exact ⟨q_rh1 _, q_rh2 _⟩ | exact q_rj ⟨q_rg1 _, q_rg2 _⟩ | exact q_rgi _ | exact q_rgj _ | exact q_rj (q_rgi _) | exact q_rj (by assumption))) ?_
  intro t1 w1 g1 p1
  obtain ⟨rfl, ⟨z1, rfl, hz1, hs1⟩, e1⟩ := p1
  have m140004e1 := e1.1 140 4 (by omega)
  have m139014e1 := e1.1 139 14 (by omega)
  have m139005e1 := e1.1 139 5 (by omega)
  refine Or.inr (Or.inl ⟨rfl, ?_⟩)
  refine r_if_eq c350_6 rfl (by first | exact q_w32_id (by omega) (by omega) | exact q_w32w _ | exact rfl) ?_ ?_
  · intro b2
    refine r_aload_n c350_13 rfl rfl ?_
    refine r_bipush c350_14 rfl ?_
    refine r_iconst c350_16 rfl ?_
    refine r_iload_n c350_17 rfl rfl ?_
    refine r_imul c350_18 (by first | exact q_w32_id (by omega) (by omega) | exact q_w32w _ | exact rfl) rfl ?_
    refine r_iadd c350_19 (by first | exact q_w32_id (by omega) (by omega) | exact q_w32w _ | exact rfl) rfl ?_
    refine r_iload_n c350_20 rfl rfl ?_
    refine r_iadd c350_21 (by first | exact q_w32_id (by omega) (by omega) | exact q_w32w _ | exact rfl) rfl ?_
    refine r_vcG c350_22 (by first | assumption | omega) (by decide) (by first | assumption | rfl) rfl rfl rfl (k303 hG (q_Gr.bz (S := fun k j => k = 139 ∧ j = 7) hZ (by repeat (first | exact q_Gr.rf | refine q_Gr.tr ?_ (by assumption) (by intro k9 j9 hk9; omega)))) (q_Gr.rb (S := fun k j => k = 139 ∧ j = 7) hR (by repeat (first | exact q_Gr.rf | refine q_Gr.tr ?_ (by assumption) (by intro k9 j9 hk9; omega)))) (by first | assumption | omega | exact ⟨q_rg1 _, q_rg2 _⟩ | exact ⟨q_rh1 _, q_rh2 _⟩ | exact q_rj ⟨q_rg1 _, q_rg2 _⟩ | exact q_rgi _ | exact q_rgj _ | exact q_rj (q_rgi _) | exact q_rj (by assumption)) (by first | assumption | omega)) ?_
    intro t3 w3 g3 p3
    obtain ⟨rfl, ⟨z3, rfl, hv3, hs3⟩, e3⟩ := p3
    have q93 : g1 = g3 := e3.symm
    subst q93
    refine Or.inr (Or.inl ⟨rfl, ?_⟩)
    exact r_iret c350_25 ⟨rfl, rfl, rfl⟩ ⟨rfl, ⟨_, rfl, (by first | assumption | omega | exact ⟨q_rg1 _, q_rg2 _⟩ | exact ⟨q_rh1 _, q_rh2 _⟩ | exact q_rj ⟨q_rg1 _, q_rg2 _⟩ | exact q_rgi _ | exact q_rgj _ | exact q_rj (q_rgi _) | exact q_rj (by assumption))⟩, (by repeat (first | exact q_Gr.rf | refine q_Gr.tr ?_ (by assumption) (by intro k9 j9 hk9; omega)))⟩
  · intro b2
    refine r_iconst c350_9 rfl ?_
    refine r_goto c350_10 ?_
    exact r_iret c350_25 ⟨rfl, rfl, rfl⟩ ⟨rfl, ⟨_, rfl, (by first | assumption | omega | exact ⟨q_rg1 _, q_rg2 _⟩ | exact ⟨q_rh1 _, q_rh2 _⟩ | exact q_rj ⟨q_rg1 _, q_rg2 _⟩ | exact q_rgi _ | exact q_rgj _ | exact q_rj (q_rgi _) | exact q_rj (by assumption))⟩, (by repeat (first | exact q_Gr.rf | refine q_Gr.tr ?_ (by assumption) (by intro k9 j9 hk9; omega)))⟩
