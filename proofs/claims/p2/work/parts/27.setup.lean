/-! Part 27.setup: the class over any heap, gone on with. Printed by wip/tools/genk.py. -/
theorem c115_0 : q_cat 115 0 (.aload_n 0) 1 0 0 (0) := ⟨rfl, rfl⟩
theorem c115_1 : q_cat 115 1 (.getfield 11) 3 5 0 (3) := ⟨rfl, rfl⟩
theorem c115_4 : q_cat 115 4 (.iload_n 1) 1 1 0 (0) := ⟨rfl, rfl⟩
theorem c115_5 : q_cat 115 5 (.bipush 6) 2 0 0 (0) := ⟨rfl, rfl⟩
theorem c115_7 : q_cat 115 7 (.imul) 1 0 0 (0) := ⟨rfl, rfl⟩
theorem c115_8 : q_cat 115 8 (.iload_n 2) 1 2 0 (0) := ⟨rfl, rfl⟩
theorem c115_9 : q_cat 115 9 (.iadd) 1 0 0 (0) := ⟨rfl, rfl⟩
theorem c115_10 : q_cat 115 10 (.invokestatic 25) 3 175 3 (0) := ⟨rfl, rfl⟩
theorem c115_13 : q_cat 115 13 (.ireturn) 1 0 0 (0) := ⟨rfl, rfl⟩
theorem k115 {Γ : q_Γ} (hG : q_GG Γ) {h : q_F} (hZ : q_Bz h) {v1 : Int} {v2 : Int}  :
    q_M Γ q_K 155 115 [(2, Int.ofNat 3), (0, v1), (0, v2)] h (fun t w h' => (t = 1 ∧ (∃ z, w = ((0, z) : q_V)) ∧ h' = h)) := by
  refine q_M.of (by decide) (Nat.le_of_ble_eq_true rfl) hG ?_
  refine r_aload_n c115_0 rfl rfl ?_
  refine r_getr c115_1 (by first | assumption | omega) (by decide) (by first | assumption | rfl) rfl rfl ?_
  refine r_iload_n c115_4 rfl rfl ?_
  refine r_bipush c115_5 rfl ?_
  refine r_imul c115_7 (by first | exact q_w32_id (by omega) (by omega) | exact q_w32w _ | exact rfl) rfl ?_
  refine r_iload_n c115_8 rfl rfl ?_
  refine r_iadd c115_9 (by first | exact q_w32_id (by omega) (by omega) | exact q_w32w _ | exact rfl) rfl ?_
  refine r_callG c115_10 (fun _ => rfl) rfl rfl rfl (k175 hG hZ (by first | assumption | omega) (by first | assumption | rfl) (by first | assumption | decide)) ?_
  intro t1 w1 g1 p1
  obtain ⟨rfl, ⟨z1, rfl⟩, rfl⟩ := p1
  refine Or.inr (Or.inl ⟨rfl, ?_⟩)
  exact r_iret c115_13 ⟨rfl, rfl, rfl⟩ ⟨rfl, ⟨_, rfl⟩, rfl⟩
theorem c107_0 : q_cat 107 0 (.aload_n 0) 1 0 0 (0) := ⟨rfl, rfl⟩
theorem c107_1 : q_cat 107 1 (.getfield 29) 3 5 3 (0) := ⟨rfl, rfl⟩
theorem c107_4 : q_cat 107 4 (.iload_n 1) 1 1 0 (0) := ⟨rfl, rfl⟩
theorem c107_5 : q_cat 107 5 (.ishr) 1 0 0 (0) := ⟨rfl, rfl⟩
theorem c107_6 : q_cat 107 6 (.iconst 1) 1 0 0 (0) := ⟨rfl, rfl⟩
theorem c107_7 : q_cat 107 7 (.iand) 1 0 0 (0) := ⟨rfl, rfl⟩
theorem c107_8 : q_cat 107 8 (.iconst 1) 1 0 0 (0) := ⟨rfl, rfl⟩
theorem c107_9 : q_cat 107 9 (.if_icmp .ne 7) 3 16 0 (0) := ⟨rfl, rfl⟩
theorem c107_12 : q_cat 107 12 (.iconst 1) 1 0 0 (0) := ⟨rfl, rfl⟩
theorem c107_13 : q_cat 107 13 (.goto 4) 3 17 0 (0) := ⟨rfl, rfl⟩
theorem c107_16 : q_cat 107 16 (.iconst 0) 1 0 0 (0) := ⟨rfl, rfl⟩
theorem c107_17 : q_cat 107 17 (.ireturn) 1 0 0 (0) := ⟨rfl, rfl⟩
theorem k107 {Γ : q_Γ} (hG : q_GG Γ) {h : q_F} (hZ : q_Bz h) {v1 : Int}  :
    q_M Γ q_K 155 107 [(2, Int.ofNat 3), (0, v1)] h (fun t w h' => (t = 1 ∧ (∃ z, w = ((0, z) : q_V) ∧ (z = 0 ∨ z = 1)) ∧ h' = h)) := by
  refine q_M.of (by decide) (Nat.le_of_ble_eq_true rfl) hG ?_
  refine r_aload_n c107_0 rfl rfl ?_
  refine r_geti c107_1 (by first | assumption | omega) (by decide) (by first | assumption | rfl) rfl rfl ?_
  refine r_iload_n c107_4 rfl rfl ?_
  refine r_ishr c107_5 rfl rfl ?_
  refine r_iconst c107_6 rfl ?_
  refine r_iand c107_7 rfl rfl ?_
  refine r_iconst c107_8 rfl ?_
  refine r_ic_ne c107_9 rfl (by first | exact q_w32_id (by omega) (by omega) | exact q_w32w _ | exact rfl) (show q_w32 (1) = 1 from rfl) ?_ ?_
  · intro b1
    refine r_iconst c107_16 rfl ?_
    exact r_zret c107_17 ⟨rfl, rfl, rfl⟩ (by decide) ⟨rfl, ⟨_, rfl, (by decide)⟩, rfl⟩
  · intro b1
    refine r_iconst c107_12 rfl ?_
    refine r_goto c107_13 ?_
    exact r_zret c107_17 ⟨rfl, rfl, rfl⟩ (by decide) ⟨rfl, ⟨_, rfl, (by decide)⟩, rfl⟩
theorem c103_0 : q_cat 103 0 (.aload_n 0) 1 0 0 (0) := ⟨rfl, rfl⟩
theorem c103_1 : q_cat 103 1 (.iload_n 1) 1 1 0 (0) := ⟨rfl, rfl⟩
theorem c103_2 : q_cat 103 2 (.putfield 18) 3 5 4 (0) := ⟨rfl, rfl⟩
theorem c103_5 : q_cat 103 5 (.aload_n 0) 1 0 0 (0) := ⟨rfl, rfl⟩
theorem c103_6 : q_cat 103 6 (.iload_n 2) 1 2 0 (0) := ⟨rfl, rfl⟩
theorem c103_7 : q_cat 103 7 (.putfield 22) 3 5 5 (0) := ⟨rfl, rfl⟩
theorem c103_10 : q_cat 103 10 (.return_) 1 0 0 (0) := ⟨rfl, rfl⟩
theorem k103 {Γ : q_Γ} (hG : q_GG Γ) {h : q_F} (hZ : q_Bz h) {v1 : Int} {v2 : Int}  :
    q_M Γ q_K 155 103 [(2, Int.ofNat 3), (0, v1), (0, v2)] h (fun t w h' => (t = 0 ∧ q_Fr (fun k => 3 ≤ k ∧ k ≤ 5) h h')) := by
  refine q_M.of (by decide) (Nat.le_of_ble_eq_true rfl) hG ?_
  refine r_aload_n c103_0 rfl rfl ?_
  refine r_iload_n c103_1 rfl rfl ?_
  refine r_puti c103_2 (by first | assumption | omega) (by decide) (by first | assumption | rfl) rfl rfl rfl ?_
  refine r_aload_n c103_5 rfl rfl ?_
  refine r_iload_n c103_6 rfl rfl ?_
  refine r_puti c103_7 (by first | assumption | omega) (by decide) (by first | assumption | rfl) rfl rfl rfl ?_
  exact r_vret c103_10 ⟨rfl, rfl, rfl⟩ ⟨rfl, (by repeat (first | exact q_Fr.rf | refine q_Fr.ud ?_ (by omega) (by first | assumption | rfl) rfl | refine q_Fr.udz ?_ (by omega) (by first | assumption | decide | omega) | refine q_Fr.tr ?_ (by assumption) (by intro k9 hk9; omega)))⟩
theorem c116_0 : q_cat 116 0 (.iload_n 0) 1 0 0 (0) := ⟨rfl, rfl⟩
theorem c116_1 : q_cat 116 1 (.iconst 3) 1 0 0 (0) := ⟨rfl, rfl⟩
theorem c116_2 : q_cat 116 2 (.if_icmp .ge 6) 3 8 0 (0) := ⟨rfl, rfl⟩
theorem c116_5 : q_cat 116 5 (.bipush 6) 2 0 0 (0) := ⟨rfl, rfl⟩
theorem c116_7 : q_cat 116 7 (.ireturn) 1 0 0 (0) := ⟨rfl, rfl⟩
theorem c116_8 : q_cat 116 8 (.iload_n 0) 1 0 0 (0) := ⟨rfl, rfl⟩
theorem c116_9 : q_cat 116 9 (.iconst 3) 1 0 0 (0) := ⟨rfl, rfl⟩
theorem c116_10 : q_cat 116 10 (.if_icmp .ne 5) 3 15 0 (0) := ⟨rfl, rfl⟩
theorem c116_13 : q_cat 116 13 (.iconst 3) 1 0 0 (0) := ⟨rfl, rfl⟩
theorem c116_14 : q_cat 116 14 (.ireturn) 1 0 0 (0) := ⟨rfl, rfl⟩
theorem c116_15 : q_cat 116 15 (.iload_n 0) 1 0 0 (0) := ⟨rfl, rfl⟩
theorem c116_16 : q_cat 116 16 (.iconst 4) 1 0 0 (0) := ⟨rfl, rfl⟩
theorem c116_17 : q_cat 116 17 (.if_icmp .ne 7) 3 24 0 (0) := ⟨rfl, rfl⟩
theorem c116_20 : q_cat 116 20 (.iconst 1) 1 0 0 (0) := ⟨rfl, rfl⟩
theorem c116_21 : q_cat 116 21 (.goto 4) 3 25 0 (0) := ⟨rfl, rfl⟩
theorem c116_24 : q_cat 116 24 (.iconst 0) 1 0 0 (0) := ⟨rfl, rfl⟩
theorem c116_25 : q_cat 116 25 (.ireturn) 1 0 0 (0) := ⟨rfl, rfl⟩
theorem k116 {Γ : q_Γ} (hG : q_GG Γ) {h : q_F} (hZ : q_Bz h) {v0 : Int}  :
    q_M Γ q_K 155 116 [(0, v0)] h (fun t w h' => (t = 1 ∧ (∃ z, w = ((0, z) : q_V)) ∧ h' = h)) := by
  refine q_M.of (by decide) (Nat.le_of_ble_eq_true rfl) hG ?_
  refine r_iload_n c116_0 rfl rfl ?_
  refine r_iconst c116_1 rfl ?_
  refine r_ic_ge c116_2 rfl (by first | exact q_w32_id (by omega) (by omega) | exact q_w32w _ | exact rfl) (show q_w32 (3) = 3 from rfl) ?_ ?_
  · intro b1
    refine r_iload_n c116_8 rfl rfl ?_
    refine r_iconst c116_9 rfl ?_
    refine r_ic_ne c116_10 rfl (by first | exact q_w32_id (by omega) (by omega) | exact q_w32w _ | exact rfl) (show q_w32 (3) = 3 from rfl) ?_ ?_
    · intro b2
      refine r_iload_n c116_15 rfl rfl ?_
      refine r_iconst c116_16 rfl ?_
      refine r_ic_ne c116_17 rfl (by first | exact q_w32_id (by omega) (by omega) | exact q_w32w _ | exact rfl) (show q_w32 (4) = 4 from rfl) ?_ ?_
      · intro b3
        refine r_iconst c116_24 rfl ?_
        exact r_iret c116_25 ⟨rfl, rfl, rfl⟩ ⟨rfl, ⟨_, rfl⟩, rfl⟩
      · intro b3
        refine r_iconst c116_20 rfl ?_
        refine r_goto c116_21 ?_
        exact r_iret c116_25 ⟨rfl, rfl, rfl⟩ ⟨rfl, ⟨_, rfl⟩, rfl⟩
    · intro b2
      refine r_iconst c116_13 rfl ?_
      exact r_iret c116_14 ⟨rfl, rfl, rfl⟩ ⟨rfl, ⟨_, rfl⟩, rfl⟩
  · intro b1
    refine r_bipush c116_5 rfl ?_
    exact r_iret c116_7 ⟨rfl, rfl, rfl⟩ ⟨rfl, ⟨_, rfl⟩, rfl⟩
theorem c122_0 : q_cat 122 0 (.iload_n 0) 1 0 0 (0) := ⟨rfl, rfl⟩
theorem c122_1 : q_cat 122 1 (.tableswitch 57 0 5 #[39, 42, 45, 48, 51, 54]) 39 0 0 (0) := ⟨rfl, rfl⟩
theorem c122_40 : q_cat 122 40 (.ldc 121) 2 0 1 (3) := ⟨rfl, rfl⟩
theorem c122_42 : q_cat 122 42 (.areturn) 1 0 0 (0) := ⟨rfl, rfl⟩
theorem c122_43 : q_cat 122 43 (.ldc 123) 2 0 1 (4) := ⟨rfl, rfl⟩
theorem c122_45 : q_cat 122 45 (.areturn) 1 0 0 (0) := ⟨rfl, rfl⟩
theorem c122_46 : q_cat 122 46 (.ldc 125) 2 0 1 (5) := ⟨rfl, rfl⟩
theorem c122_48 : q_cat 122 48 (.areturn) 1 0 0 (0) := ⟨rfl, rfl⟩
theorem c122_49 : q_cat 122 49 (.ldc 127) 2 0 1 (6) := ⟨rfl, rfl⟩
theorem c122_51 : q_cat 122 51 (.areturn) 1 0 0 (0) := ⟨rfl, rfl⟩
theorem c122_52 : q_cat 122 52 (.ldc 129) 2 0 1 (7) := ⟨rfl, rfl⟩
theorem c122_54 : q_cat 122 54 (.areturn) 1 0 0 (0) := ⟨rfl, rfl⟩
theorem c122_55 : q_cat 122 55 (.ldc 130) 2 0 1 (8) := ⟨rfl, rfl⟩
theorem c122_57 : q_cat 122 57 (.areturn) 1 0 0 (0) := ⟨rfl, rfl⟩
theorem c122_58 : q_cat 122 58 (.ldc 132) 2 0 1 (9) := ⟨rfl, rfl⟩
theorem c122_60 : q_cat 122 60 (.areturn) 1 0 0 (0) := ⟨rfl, rfl⟩
theorem k122 {Γ : q_Γ} (hG : q_GG Γ) {h : q_F} (hZ : q_Bz h) {v0 : Int}  :
    q_M Γ q_K 155 122 [(0, v0)] h (fun t w h' => (t = 1 ∧ (∃ z, w = ((9, z) : q_V) ∧ 3 ≤ z.toNat ∧ z.toNat ≤ 9) ∧ h' = h)) := by
  refine q_M.of (by decide) (Nat.le_of_ble_eq_true rfl) hG ?_
  refine r_iload_n c122_0 rfl rfl ?_
  refine r_tsw c122_1 (td := 58) (by first | exact q_w32_id (by omega) (by omega) | exact q_w32w _ | exact rfl) (by decide) (by decide) rfl rfl ?_ ?_
  · intro b1
    refine r_ldcs c122_58 rfl rfl ?_
    exact r_aret9 c122_60 ⟨rfl, rfl, rfl⟩ ⟨rfl, ⟨_, rfl, by decide, by decide⟩, rfl⟩
  · intro b1 b1b
    obtain e0 | e1 | e2 | e3 | e4 | e5 : _ = (0 : Int) ∨ _ = (1 : Int) ∨ _ = (2 : Int) ∨ _ = (3 : Int) ∨ _ = (4 : Int) ∨ _ = (5 : Int) := q_sw5 b1 b1b
    · refine ⟨40, by rw [e0]; rfl, ?_⟩
      refine r_ldcs c122_40 rfl rfl ?_
      exact r_aret9 c122_42 ⟨rfl, rfl, rfl⟩ ⟨rfl, ⟨_, rfl, by decide, by decide⟩, rfl⟩
    · refine ⟨43, by rw [e1]; rfl, ?_⟩
      refine r_ldcs c122_43 rfl rfl ?_
      exact r_aret9 c122_45 ⟨rfl, rfl, rfl⟩ ⟨rfl, ⟨_, rfl, by decide, by decide⟩, rfl⟩
    · refine ⟨46, by rw [e2]; rfl, ?_⟩
      refine r_ldcs c122_46 rfl rfl ?_
      exact r_aret9 c122_48 ⟨rfl, rfl, rfl⟩ ⟨rfl, ⟨_, rfl, by decide, by decide⟩, rfl⟩
    · refine ⟨49, by rw [e3]; rfl, ?_⟩
      refine r_ldcs c122_49 rfl rfl ?_
      exact r_aret9 c122_51 ⟨rfl, rfl, rfl⟩ ⟨rfl, ⟨_, rfl, by decide, by decide⟩, rfl⟩
    · refine ⟨52, by rw [e4]; rfl, ?_⟩
      refine r_ldcs c122_52 rfl rfl ?_
      exact r_aret9 c122_54 ⟨rfl, rfl, rfl⟩ ⟨rfl, ⟨_, rfl, by decide, by decide⟩, rfl⟩
    · refine ⟨55, by rw [e5]; rfl, ?_⟩
      refine r_ldcs c122_55 rfl rfl ?_
      exact r_aret9 c122_57 ⟨rfl, rfl, rfl⟩ ⟨rfl, ⟨_, rfl, by decide, by decide⟩, rfl⟩
theorem c109_0 : q_cat 109 0 (.iload_n 0) 1 0 0 (0) := ⟨rfl, rfl⟩
theorem c109_1 : q_cat 109 1 (.bipush 32) 2 0 0 (0) := ⟨rfl, rfl⟩
theorem c109_3 : q_cat 109 3 (.if_icmp .eq 9) 3 12 0 (0) := ⟨rfl, rfl⟩
theorem c109_6 : q_cat 109 6 (.iload_n 0) 1 0 0 (0) := ⟨rfl, rfl⟩
theorem c109_7 : q_cat 109 7 (.bipush 10) 2 0 0 (0) := ⟨rfl, rfl⟩
theorem c109_9 : q_cat 109 9 (.if_icmp .ne 7) 3 16 0 (0) := ⟨rfl, rfl⟩
theorem c109_12 : q_cat 109 12 (.iconst 1) 1 0 0 (0) := ⟨rfl, rfl⟩
theorem c109_13 : q_cat 109 13 (.goto 4) 3 17 0 (0) := ⟨rfl, rfl⟩
theorem c109_16 : q_cat 109 16 (.iconst 0) 1 0 0 (0) := ⟨rfl, rfl⟩
theorem c109_17 : q_cat 109 17 (.ireturn) 1 0 0 (0) := ⟨rfl, rfl⟩
theorem k109 {Γ : q_Γ} (hG : q_GG Γ) {h : q_F} (hZ : q_Bz h) {v0 : Int}  :
    q_M Γ q_K 155 109 [(0, v0)] h (fun t w h' => (t = 1 ∧ (∃ z, w = ((0, z) : q_V) ∧ (z = 0 ∨ z = 1)) ∧ h' = h)) := by
  refine q_M.of (by decide) (Nat.le_of_ble_eq_true rfl) hG ?_
  refine r_iload_n c109_0 rfl rfl ?_
  refine r_bipush c109_1 rfl ?_
  refine r_ic_eq c109_3 rfl (by first | exact q_w32_id (by omega) (by omega) | exact q_w32w _ | exact rfl) (show q_w32 (32) = 32 from rfl) ?_ ?_
  · intro b1
    refine r_iconst c109_12 rfl ?_
    refine r_goto c109_13 ?_
    exact r_zret c109_17 ⟨rfl, rfl, rfl⟩ (by decide) ⟨rfl, ⟨_, rfl, (by decide)⟩, rfl⟩
  · intro b1
    refine r_iload_n c109_6 rfl rfl ?_
    refine r_bipush c109_7 rfl ?_
    refine r_ic_ne c109_9 rfl (by first | exact q_w32_id (by omega) (by omega) | exact q_w32w _ | exact rfl) (show q_w32 (10) = 10 from rfl) ?_ ?_
    · intro b2
      refine r_iconst c109_16 rfl ?_
      exact r_zret c109_17 ⟨rfl, rfl, rfl⟩ (by decide) ⟨rfl, ⟨_, rfl, (by decide)⟩, rfl⟩
    · intro b2
      refine r_iconst c109_12 rfl ?_
      refine r_goto c109_13 ?_
      exact r_zret c109_17 ⟨rfl, rfl, rfl⟩ (by decide) ⟨rfl, ⟨_, rfl, (by decide)⟩, rfl⟩
theorem c111_0 : q_cat 111 0 (.iload_n 0) 1 0 0 (0) := ⟨rfl, rfl⟩
theorem c111_1 : q_cat 111 1 (.bipush 97) 2 0 0 (0) := ⟨rfl, rfl⟩
theorem c111_3 : q_cat 111 3 (.if_icmp .lt 13) 3 16 0 (0) := ⟨rfl, rfl⟩
theorem c111_6 : q_cat 111 6 (.iload_n 0) 1 0 0 (0) := ⟨rfl, rfl⟩
theorem c111_7 : q_cat 111 7 (.bipush 122) 2 0 0 (0) := ⟨rfl, rfl⟩
theorem c111_9 : q_cat 111 9 (.if_icmp .gt 7) 3 16 0 (0) := ⟨rfl, rfl⟩
theorem c111_12 : q_cat 111 12 (.iconst 1) 1 0 0 (0) := ⟨rfl, rfl⟩
theorem c111_13 : q_cat 111 13 (.goto 4) 3 17 0 (0) := ⟨rfl, rfl⟩
theorem c111_16 : q_cat 111 16 (.iconst 0) 1 0 0 (0) := ⟨rfl, rfl⟩
theorem c111_17 : q_cat 111 17 (.ireturn) 1 0 0 (0) := ⟨rfl, rfl⟩
theorem k111 {Γ : q_Γ} (hG : q_GG Γ) {h : q_F} (hZ : q_Bz h) {v0 : Int}  :
    q_M Γ q_K 155 111 [(0, v0)] h (fun t w h' => (t = 1 ∧ (∃ z, w = ((0, z) : q_V) ∧ (z = 0 ∨ z = 1)) ∧ h' = h)) := by
  refine q_M.of (by decide) (Nat.le_of_ble_eq_true rfl) hG ?_
  refine r_iload_n c111_0 rfl rfl ?_
  refine r_bipush c111_1 rfl ?_
  refine r_ic_lt c111_3 rfl (by first | exact q_w32_id (by omega) (by omega) | exact q_w32w _ | exact rfl) (show q_w32 (97) = 97 from rfl) ?_ ?_
  · intro b1
    refine r_iconst c111_16 rfl ?_
    exact r_zret c111_17 ⟨rfl, rfl, rfl⟩ (by decide) ⟨rfl, ⟨_, rfl, (by decide)⟩, rfl⟩
  · intro b1
    refine r_iload_n c111_6 rfl rfl ?_
    refine r_bipush c111_7 rfl ?_
    refine r_ic_gt c111_9 rfl (by first | exact q_w32_id (by omega) (by omega) | exact q_w32w _ | exact rfl) (show q_w32 (122) = 122 from rfl) ?_ ?_
    · intro b2
      refine r_iconst c111_16 rfl ?_
      exact r_zret c111_17 ⟨rfl, rfl, rfl⟩ (by decide) ⟨rfl, ⟨_, rfl, (by decide)⟩, rfl⟩
    · intro b2
      refine r_iconst c111_12 rfl ?_
      refine r_goto c111_13 ?_
      exact r_zret c111_17 ⟨rfl, rfl, rfl⟩ (by decide) ⟨rfl, ⟨_, rfl, (by decide)⟩, rfl⟩
theorem c110_0 : q_cat 110 0 (.iload_n 0) 1 0 0 (0) := ⟨rfl, rfl⟩
theorem c110_1 : q_cat 110 1 (.bipush 48) 2 0 0 (0) := ⟨rfl, rfl⟩
theorem c110_3 : q_cat 110 3 (.if_icmp .lt 13) 3 16 0 (0) := ⟨rfl, rfl⟩
theorem c110_6 : q_cat 110 6 (.iload_n 0) 1 0 0 (0) := ⟨rfl, rfl⟩
theorem c110_7 : q_cat 110 7 (.bipush 57) 2 0 0 (0) := ⟨rfl, rfl⟩
theorem c110_9 : q_cat 110 9 (.if_icmp .gt 7) 3 16 0 (0) := ⟨rfl, rfl⟩
theorem c110_12 : q_cat 110 12 (.iconst 1) 1 0 0 (0) := ⟨rfl, rfl⟩
theorem c110_13 : q_cat 110 13 (.goto 4) 3 17 0 (0) := ⟨rfl, rfl⟩
theorem c110_16 : q_cat 110 16 (.iconst 0) 1 0 0 (0) := ⟨rfl, rfl⟩
theorem c110_17 : q_cat 110 17 (.ireturn) 1 0 0 (0) := ⟨rfl, rfl⟩
theorem k110 {Γ : q_Γ} (hG : q_GG Γ) {h : q_F} (hZ : q_Bz h) {v0 : Int}  :
    q_M Γ q_K 155 110 [(0, v0)] h (fun t w h' => (t = 1 ∧ (∃ z, w = ((0, z) : q_V) ∧ (z = 0 ∨ z = 1)) ∧ h' = h)) := by
  refine q_M.of (by decide) (Nat.le_of_ble_eq_true rfl) hG ?_
  refine r_iload_n c110_0 rfl rfl ?_
  refine r_bipush c110_1 rfl ?_
  refine r_ic_lt c110_3 rfl (by first | exact q_w32_id (by omega) (by omega) | exact q_w32w _ | exact rfl) (show q_w32 (48) = 48 from rfl) ?_ ?_
  · intro b1
    refine r_iconst c110_16 rfl ?_
    exact r_zret c110_17 ⟨rfl, rfl, rfl⟩ (by decide) ⟨rfl, ⟨_, rfl, (by decide)⟩, rfl⟩
  · intro b1
    refine r_iload_n c110_6 rfl rfl ?_
    refine r_bipush c110_7 rfl ?_
    refine r_ic_gt c110_9 rfl (by first | exact q_w32_id (by omega) (by omega) | exact q_w32w _ | exact rfl) (show q_w32 (57) = 57 from rfl) ?_ ?_
    · intro b2
      refine r_iconst c110_16 rfl ?_
      exact r_zret c110_17 ⟨rfl, rfl, rfl⟩ (by decide) ⟨rfl, ⟨_, rfl, (by decide)⟩, rfl⟩
    · intro b2
      refine r_iconst c110_12 rfl ?_
      refine r_goto c110_13 ?_
      exact r_zret c110_17 ⟨rfl, rfl, rfl⟩ (by decide) ⟨rfl, ⟨_, rfl, (by decide)⟩, rfl⟩
theorem c112_0 : q_cat 112 0 (.iload_n 2) 1 2 0 (0) := ⟨rfl, rfl⟩
theorem c112_1 : q_cat 112 1 (.iload_n 1) 1 1 0 (0) := ⟨rfl, rfl⟩
theorem c112_2 : q_cat 112 2 (.isub) 1 0 0 (0) := ⟨rfl, rfl⟩
theorem c112_3 : q_cat 112 3 (.aload_n 3) 1 3 0 (0) := ⟨rfl, rfl⟩
theorem c112_4 : q_cat 112 4 (.invokevirtual 134) 3 0 1 (0) := ⟨rfl, rfl⟩
theorem c112_7 : q_cat 112 7 (.if_icmp .eq 5) 3 12 0 (0) := ⟨rfl, rfl⟩
theorem c112_10 : q_cat 112 10 (.iconst 0) 1 0 0 (0) := ⟨rfl, rfl⟩
theorem c112_11 : q_cat 112 11 (.ireturn) 1 0 0 (0) := ⟨rfl, rfl⟩
theorem c112_12 : q_cat 112 12 (.iconst 0) 1 0 0 (0) := ⟨rfl, rfl⟩
theorem c112_13 : q_cat 112 13 (.istore 4) 2 4 0 (0) := ⟨rfl, rfl⟩
theorem c112_15 : q_cat 112 15 (.iload 4) 2 4 0 (0) := ⟨rfl, rfl⟩
theorem c112_17 : q_cat 112 17 (.aload_n 3) 1 3 0 (0) := ⟨rfl, rfl⟩
theorem c112_18 : q_cat 112 18 (.invokevirtual 134) 3 0 1 (0) := ⟨rfl, rfl⟩
theorem c112_21 : q_cat 112 21 (.if_icmp .ge 28) 3 49 0 (0) := ⟨rfl, rfl⟩
theorem c112_24 : q_cat 112 24 (.aload_n 0) 1 0 0 (0) := ⟨rfl, rfl⟩
theorem c112_25 : q_cat 112 25 (.iload_n 1) 1 1 0 (0) := ⟨rfl, rfl⟩
theorem c112_26 : q_cat 112 26 (.iload 4) 2 4 0 (0) := ⟨rfl, rfl⟩
theorem c112_28 : q_cat 112 28 (.iadd) 1 0 0 (0) := ⟨rfl, rfl⟩
theorem c112_29 : q_cat 112 29 (.invokevirtual 62) 3 63 0 (0) := ⟨rfl, rfl⟩
theorem c112_32 : q_cat 112 32 (.aload_n 3) 1 3 0 (0) := ⟨rfl, rfl⟩
theorem c112_33 : q_cat 112 33 (.iload 4) 2 4 0 (0) := ⟨rfl, rfl⟩
theorem c112_35 : q_cat 112 35 (.invokevirtual 139) 3 0 2 (0) := ⟨rfl, rfl⟩
theorem c112_38 : q_cat 112 38 (.if_icmp .eq 5) 3 43 0 (0) := ⟨rfl, rfl⟩
theorem c112_41 : q_cat 112 41 (.iconst 0) 1 0 0 (0) := ⟨rfl, rfl⟩
theorem c112_42 : q_cat 112 42 (.ireturn) 1 0 0 (0) := ⟨rfl, rfl⟩
theorem c112_43 : q_cat 112 43 (.iinc 4 1) 3 4 0 (0) := ⟨rfl, rfl⟩
theorem c112_46 : q_cat 112 46 (.goto (-31)) 3 15 0 (0) := ⟨rfl, rfl⟩
theorem c112_49 : q_cat 112 49 (.iconst 1) 1 0 0 (0) := ⟨rfl, rfl⟩
theorem c112_50 : q_cat 112 50 (.ireturn) 1 0 0 (0) := ⟨rfl, rfl⟩
theorem l112_15 {Γ : q_Γ} (hG : q_GG Γ) {h0 : q_F} (hZ : q_Bz h0) {o0 : Nat} {v1 : Int} {v2 : Int} {s3 : Int} {u1 : Int} {u2 : Int} (ho0 : q_isB o0) (hs3 : 3 ≤ s3.toNat ∧ s3.toNat ≤ 9)
    (hx49 : ∀ {u4 : Int} {h : q_F}, h = h0 → q_R Γ q_K 155 112 (fun t w h' => (t = 1 ∧ (∃ z, w = ((0, z) : q_V) ∧ (z = 0 ∨ z = 1)) ∧ h' = h0)) (49, [(4, (0, u4)), (0, (2, Int.ofNat o0)), (1, (0, u1)), (2, (0, u2)), (3, (9, s3))], [], q_hp q_K 155 h, [], 0, 0))
    : ∀ (m : Nat) {u4 : Int} {h : q_F}, (0 ≤ u4 ∧ u4 < 2147483648) → h = h0 → 2147483648 - u4 < (m : Int) → q_R Γ q_K 155 112 (fun t w h' => (t = 1 ∧ (∃ z, w = ((0, z) : q_V) ∧ (z = 0 ∨ z = 1)) ∧ h' = h0)) (15, [(4, (0, u4)), (0, (2, Int.ofNat o0)), (1, (0, u1)), (2, (0, u2)), (3, (9, s3))], [], q_hp q_K 155 h, [], 0, 0)   := by
  obtain ⟨fo00, fo01, fo02, fo03⟩ := q_fB ho0
  intro m
  induction m with
  | zero =>
    intro u4 h hinv hf hmu
    exact absurd hmu (by omega)
  | succ m ih =>
    intro u4 h hinv hf hmu
    subst hf
    refine r_iload c112_15 rfl rfl ?_
    refine r_aload9 c112_17 rfl rfl ?_
    refine r_slen c112_18 rfl (by omega) (by omega) rfl ?_
    intro L3 hL3 hL3a hL3b
    refine r_ic_ge c112_21 rfl (by first | exact q_w32_id (by omega) (by omega) | exact q_w32w _ | exact rfl) (by first | exact q_w32_id (by omega) (by omega) | exact q_w32w _ | exact rfl) ?_ ?_
    · intro b4
      refine q_R.wk (ks := [4, 0, 1, 2, 3]) (lo' := [(4, _), (0, _), (1, _), (2, _), (3, _)]) rfl ?_
      exact hx49 rfl
    · intro b4
      refine r_aload_n c112_24 rfl rfl ?_
      refine r_iload_n c112_25 rfl rfl ?_
      refine r_iload c112_26 rfl rfl ?_
      refine r_iadd c112_28 (by first | exact q_w32_id (by omega) (by omega) | exact q_w32w _ | exact rfl) rfl ?_
      refine r_vcG c112_29 (by first | assumption | omega) (by decide) (by first | assumption | rfl) rfl rfl rfl (k63 hG hZ (by first | assumption | exact q_hC (by assumption) | exact q_h1 (by assumption) | exact q_h3 (by assumption) | exact q_h5 (by assumption) | exact q_hG (by assumption) | exact q_hP | exact q_hB1 | exact q_hB2 | exact q_hT6 | exact q_hT15 | exact q_hT24)) ?_
      intro t5 w5 g5 p5
      obtain ⟨rfl, ⟨z5, rfl⟩, rfl⟩ := p5
      refine Or.inr (Or.inl ⟨rfl, ?_⟩)
      refine r_aload9 c112_32 rfl rfl ?_
      refine r_iload c112_33 rfl rfl ?_
      refine r_schar c112_35 rfl (by omega) (by omega) (by first | exact q_w32_id (by omega) (by omega) | exact q_w32w _ | exact rfl) (by first | assumption | omega) (by omega) rfl ?_
      intro c6 hc6
      refine r_ic_eq c112_38 rfl (by first | exact q_w32_id (by omega) (by omega) | exact q_w32w _ | exact rfl) (by first | exact q_w32_id (by omega) (by omega) | exact q_w32w _ | exact rfl) ?_ ?_
      · intro b7
        refine r_iinc c112_43 rfl (by first | exact q_w32_id (by omega) (by omega) | exact q_w32w _ | exact rfl) (lo' := [(4, _), (0, _), (1, _), (2, _), (3, _)]) rfl rfl rfl ?_
        refine r_goto c112_46 ?_
        refine q_R.wk (ks := [4, 0, 1, 2, 3]) (lo' := [(4, _), (0, _), (1, _), (2, _), (3, _)]) rfl ?_
        exact ih (by first | omega | exact ⟨q_rg1 _, q_rg2 _⟩) rfl (by omega)
      · intro b7
        refine r_iconst c112_41 rfl ?_
        exact r_zret c112_42 ⟨rfl, rfl, rfl⟩ (by decide) ⟨rfl, ⟨_, rfl, (by decide)⟩, rfl⟩

theorem k112 {Γ : q_Γ} (hG : q_GG Γ) {h : q_F} (hZ : q_Bz h) {o0 : Nat} {v1 : Int} {v2 : Int} {s3 : Int} (ho0 : q_isB o0) (hs3 : 3 ≤ s3.toNat ∧ s3.toNat ≤ 9) :
    q_M Γ q_K 155 112 [(2, Int.ofNat o0), (0, v1), (0, v2), (9, s3)] h (fun t w h' => (t = 1 ∧ (∃ z, w = ((0, z) : q_V) ∧ (z = 0 ∨ z = 1)) ∧ h' = h)) := by
  obtain ⟨fo00, fo01, fo02, fo03⟩ := q_fB ho0
  refine q_M.of (by decide) (Nat.le_of_ble_eq_true rfl) hG ?_
  refine r_iload_n c112_0 rfl rfl ?_
  refine r_iload_n c112_1 rfl rfl ?_
  refine r_isub c112_2 (by first | exact q_w32_id (by omega) (by omega) | exact q_w32w _ | exact rfl) rfl ?_
  refine r_aload9 c112_3 rfl rfl ?_
  refine r_slen c112_4 rfl (by omega) (by omega) rfl ?_
  intro L1 hL1 hL1a hL1b
  refine r_ic_eq c112_7 rfl (by first | exact q_w32_id (by omega) (by omega) | exact q_w32w _ | exact rfl) (by first | exact q_w32_id (by omega) (by omega) | exact q_w32w _ | exact rfl) ?_ ?_
  · intro b2
    refine r_iconst c112_12 rfl ?_
    refine r_istore c112_13 (lo' := [(4, _), (0, _), (1, _), (2, _), (3, _)]) rfl rfl rfl ?_
    refine q_R.wk (ks := [4, 0, 1, 2, 3]) (lo' := [(4, _), (0, _), (1, _), (2, _), (3, _)]) rfl ?_
    refine l112_15 (o0 := o0) (v1 := v1) (v2 := v2) (s3 := s3) hG hZ ho0 hs3 ?_ 4294967298 (by first | omega | exact ⟨q_rg1 _, q_rg2 _⟩) rfl (q_mu (by first | omega | exact ⟨q_rg1 _, q_rg2 _⟩))
    · intro u4_3 g3 f3
      subst f3
      refine r_iconst c112_49 rfl ?_
      exact r_zret c112_50 ⟨rfl, rfl, rfl⟩ (by decide) ⟨rfl, ⟨_, rfl, (by decide)⟩, rfl⟩
  · intro b2
    refine r_iconst c112_10 rfl ?_
    exact r_zret c112_11 ⟨rfl, rfl, rfl⟩ (by decide) ⟨rfl, ⟨_, rfl, (by decide)⟩, rfl⟩
theorem c113_0 : q_cat 113 0 (.iload_n 1) 1 1 0 (0) := ⟨rfl, rfl⟩
theorem c113_1 : q_cat 113 1 (.iconst 4) 1 0 0 (0) := ⟨rfl, rfl⟩
theorem c113_2 : q_cat 113 2 (.if_icmp .ne 11) 3 13 0 (0) := ⟨rfl, rfl⟩
theorem c113_5 : q_cat 113 5 (.aload_n 0) 1 0 0 (0) := ⟨rfl, rfl⟩
theorem c113_6 : q_cat 113 6 (.iload_n 3) 1 3 0 (0) := ⟨rfl, rfl⟩
theorem c113_7 : q_cat 113 7 (.putfield 51) 3 5 2 (0) := ⟨rfl, rfl⟩
theorem c113_10 : q_cat 113 10 (.goto 34) 3 44 0 (0) := ⟨rfl, rfl⟩
theorem c113_13 : q_cat 113 13 (.iload_n 1) 1 1 0 (0) := ⟨rfl, rfl⟩
theorem c113_14 : q_cat 113 14 (.iconst 3) 1 0 0 (0) := ⟨rfl, rfl⟩
theorem c113_15 : q_cat 113 15 (.if_icmp .ne 15) 3 30 0 (0) := ⟨rfl, rfl⟩
theorem c113_18 : q_cat 113 18 (.aload_n 0) 1 0 0 (0) := ⟨rfl, rfl⟩
theorem c113_19 : q_cat 113 19 (.getfield 15) 3 5 1 (3) := ⟨rfl, rfl⟩
theorem c113_22 : q_cat 113 22 (.iload_n 2) 1 2 0 (0) := ⟨rfl, rfl⟩
theorem c113_23 : q_cat 113 23 (.iload_n 3) 1 3 0 (0) := ⟨rfl, rfl⟩
theorem c113_24 : q_cat 113 24 (.invokestatic 43) 3 174 3 (0) := ⟨rfl, rfl⟩
theorem c113_27 : q_cat 113 27 (.goto 17) 3 44 0 (0) := ⟨rfl, rfl⟩
theorem c113_30 : q_cat 113 30 (.aload_n 0) 1 0 0 (0) := ⟨rfl, rfl⟩
theorem c113_31 : q_cat 113 31 (.getfield 11) 3 5 0 (3) := ⟨rfl, rfl⟩
theorem c113_34 : q_cat 113 34 (.iload_n 1) 1 1 0 (0) := ⟨rfl, rfl⟩
theorem c113_35 : q_cat 113 35 (.bipush 6) 2 0 0 (0) := ⟨rfl, rfl⟩
theorem c113_37 : q_cat 113 37 (.imul) 1 0 0 (0) := ⟨rfl, rfl⟩
theorem c113_38 : q_cat 113 38 (.iload_n 2) 1 2 0 (0) := ⟨rfl, rfl⟩
theorem c113_39 : q_cat 113 39 (.iadd) 1 0 0 (0) := ⟨rfl, rfl⟩
theorem c113_40 : q_cat 113 40 (.iload_n 3) 1 3 0 (0) := ⟨rfl, rfl⟩
theorem c113_41 : q_cat 113 41 (.invokestatic 43) 3 174 3 (0) := ⟨rfl, rfl⟩
theorem c113_44 : q_cat 113 44 (.return_) 1 0 0 (0) := ⟨rfl, rfl⟩
theorem k113 {Γ : q_Γ} (hG : q_GG Γ) {h : q_F} (hZ : q_Bz h) {v1 : Int} {v2 : Int} {v3 : Int}  :
    q_M Γ q_K 155 113 [(2, Int.ofNat 3), (0, v1), (0, v2), (0, v3)] h (fun t w h' => (t = 0 ∧ q_Fr (fun k => 3 ≤ k ∧ k ≤ 5) h h')) := by
  refine q_M.of (by decide) (Nat.le_of_ble_eq_true rfl) hG ?_
  refine r_iload_n c113_0 rfl rfl ?_
  refine r_iconst c113_1 rfl ?_
  refine r_ic_ne c113_2 rfl (by first | exact q_w32_id (by omega) (by omega) | exact q_w32w _ | exact rfl) (show q_w32 (4) = 4 from rfl) ?_ ?_
  · intro b1
    refine r_iload_n c113_13 rfl rfl ?_
    refine r_iconst c113_14 rfl ?_
    refine r_ic_ne c113_15 rfl (by first | exact q_w32_id (by omega) (by omega) | exact q_w32w _ | exact rfl) (show q_w32 (3) = 3 from rfl) ?_ ?_
    · intro b2
      refine r_aload_n c113_30 rfl rfl ?_
      refine r_getr c113_31 (by first | assumption | omega) (by decide) (by first | assumption | rfl) rfl rfl ?_
      refine r_iload_n c113_34 rfl rfl ?_
      refine r_bipush c113_35 rfl ?_
      refine r_imul c113_37 (by first | exact q_w32_id (by omega) (by omega) | exact q_w32w _ | exact rfl) rfl ?_
      refine r_iload_n c113_38 rfl rfl ?_
      refine r_iadd c113_39 (by first | exact q_w32_id (by omega) (by omega) | exact q_w32w _ | exact rfl) rfl ?_
      refine r_iload_n c113_40 rfl rfl ?_
      refine r_callG c113_41 (fun _ => rfl) rfl rfl rfl (k174 hG (q_Fr.bz (S := fun k => 3 ≤ k ∧ k ≤ 5) hZ (by repeat (first | exact q_Fr.rf | refine q_Fr.ud ?_ (by omega) (by first | assumption | rfl) rfl | refine q_Fr.udz ?_ (by omega) (by first | assumption | decide | omega) | refine q_Fr.tr ?_ (by assumption) (by intro k9 hk9; omega)))) (by first | assumption | omega) (by first | assumption | rfl) (by first | assumption | decide)) ?_
      intro t3 w3 g3 p3
      obtain ⟨rfl, e3⟩ := p3
      refine Or.inl ⟨rfl, ?_⟩
      exact r_vret c113_44 ⟨rfl, rfl, rfl⟩ ⟨rfl, (by repeat (first | exact q_Fr.rf | refine q_Fr.ud ?_ (by omega) (by first | assumption | rfl) rfl | refine q_Fr.udz ?_ (by omega) (by first | assumption | decide | omega) | refine q_Fr.tr ?_ (by assumption) (by intro k9 hk9; omega)))⟩
    · intro b2
      refine r_aload_n c113_18 rfl rfl ?_
      refine r_getr c113_19 (by first | assumption | omega) (by decide) (by first | assumption | rfl) rfl rfl ?_
      refine r_iload_n c113_22 rfl rfl ?_
      refine r_iload_n c113_23 rfl rfl ?_
      refine r_callG c113_24 (fun _ => rfl) rfl rfl rfl (k174 hG (q_Fr.bz (S := fun k => 3 ≤ k ∧ k ≤ 5) hZ (by repeat (first | exact q_Fr.rf | refine q_Fr.ud ?_ (by omega) (by first | assumption | rfl) rfl | refine q_Fr.udz ?_ (by omega) (by first | assumption | decide | omega) | refine q_Fr.tr ?_ (by assumption) (by intro k9 hk9; omega)))) (by first | assumption | omega) (by first | assumption | rfl) (by first | assumption | decide)) ?_
      intro t4 w4 g4 p4
      obtain ⟨rfl, e4⟩ := p4
      refine Or.inl ⟨rfl, ?_⟩
      refine r_goto c113_27 ?_
      exact r_vret c113_44 ⟨rfl, rfl, rfl⟩ ⟨rfl, (by repeat (first | exact q_Fr.rf | refine q_Fr.ud ?_ (by omega) (by first | assumption | rfl) rfl | refine q_Fr.udz ?_ (by omega) (by first | assumption | decide | omega) | refine q_Fr.tr ?_ (by assumption) (by intro k9 hk9; omega)))⟩
  · intro b1
    refine r_aload_n c113_5 rfl rfl ?_
    refine r_iload_n c113_6 rfl rfl ?_
    refine r_puti c113_7 (by first | assumption | omega) (by decide) (by first | assumption | rfl) rfl rfl rfl ?_
    refine r_goto c113_10 ?_
    exact r_vret c113_44 ⟨rfl, rfl, rfl⟩ ⟨rfl, (by repeat (first | exact q_Fr.rf | refine q_Fr.ud ?_ (by omega) (by first | assumption | rfl) rfl | refine q_Fr.udz ?_ (by omega) (by first | assumption | decide | omega) | refine q_Fr.tr ?_ (by assumption) (by intro k9 hk9; omega)))⟩
theorem c105_0 : q_cat 105 0 (.iconst 0) 1 0 0 (0) := ⟨rfl, rfl⟩
theorem c105_1 : q_cat 105 1 (.istore_n 1) 1 1 0 (0) := ⟨rfl, rfl⟩
theorem c105_2 : q_cat 105 2 (.iload_n 1) 1 1 0 (0) := ⟨rfl, rfl⟩
theorem c105_3 : q_cat 105 3 (.iconst 3) 1 0 0 (0) := ⟨rfl, rfl⟩
theorem c105_4 : q_cat 105 4 (.if_icmp .ge 65) 3 69 0 (0) := ⟨rfl, rfl⟩
theorem c105_7 : q_cat 105 7 (.aload_n 0) 1 0 0 (0) := ⟨rfl, rfl⟩
theorem c105_8 : q_cat 105 8 (.getfield 15) 3 5 1 (3) := ⟨rfl, rfl⟩
theorem c105_11 : q_cat 105 11 (.iload_n 1) 1 1 0 (0) := ⟨rfl, rfl⟩
theorem c105_12 : q_cat 105 12 (.iconst 0) 1 0 0 (0) := ⟨rfl, rfl⟩
theorem c105_13 : q_cat 105 13 (.invokestatic 43) 3 174 3 (0) := ⟨rfl, rfl⟩
theorem c105_16 : q_cat 105 16 (.aload_n 0) 1 0 0 (0) := ⟨rfl, rfl⟩
theorem c105_17 : q_cat 105 17 (.iload_n 1) 1 1 0 (0) := ⟨rfl, rfl⟩
theorem c105_18 : q_cat 105 18 (.iconst 0) 1 0 0 (0) := ⟨rfl, rfl⟩
theorem c105_19 : q_cat 105 19 (.sipush 200) 3 0 0 (0) := ⟨rfl, rfl⟩
theorem c105_22 : q_cat 105 22 (.invokevirtual 47) 3 113 0 (0) := ⟨rfl, rfl⟩
theorem c105_25 : q_cat 105 25 (.aload_n 0) 1 0 0 (0) := ⟨rfl, rfl⟩
theorem c105_26 : q_cat 105 26 (.iload_n 1) 1 1 0 (0) := ⟨rfl, rfl⟩
theorem c105_27 : q_cat 105 27 (.iconst 1) 1 0 0 (0) := ⟨rfl, rfl⟩
theorem c105_28 : q_cat 105 28 (.iconst 0) 1 0 0 (0) := ⟨rfl, rfl⟩
theorem c105_29 : q_cat 105 29 (.invokevirtual 47) 3 113 0 (0) := ⟨rfl, rfl⟩
theorem c105_32 : q_cat 105 32 (.aload_n 0) 1 0 0 (0) := ⟨rfl, rfl⟩
theorem c105_33 : q_cat 105 33 (.iload_n 1) 1 1 0 (0) := ⟨rfl, rfl⟩
theorem c105_34 : q_cat 105 34 (.iconst 2) 1 0 0 (0) := ⟨rfl, rfl⟩
theorem c105_35 : q_cat 105 35 (.sipush 1000) 3 0 0 (0) := ⟨rfl, rfl⟩
theorem c105_38 : q_cat 105 38 (.invokevirtual 47) 3 113 0 (0) := ⟨rfl, rfl⟩
theorem c105_41 : q_cat 105 41 (.aload_n 0) 1 0 0 (0) := ⟨rfl, rfl⟩
theorem c105_42 : q_cat 105 42 (.iload_n 1) 1 1 0 (0) := ⟨rfl, rfl⟩
theorem c105_43 : q_cat 105 43 (.iconst 3) 1 0 0 (0) := ⟨rfl, rfl⟩
theorem c105_44 : q_cat 105 44 (.bipush 100) 2 0 0 (0) := ⟨rfl, rfl⟩
theorem c105_46 : q_cat 105 46 (.invokevirtual 47) 3 113 0 (0) := ⟨rfl, rfl⟩
theorem c105_49 : q_cat 105 49 (.aload_n 0) 1 0 0 (0) := ⟨rfl, rfl⟩
theorem c105_50 : q_cat 105 50 (.iload_n 1) 1 1 0 (0) := ⟨rfl, rfl⟩
theorem c105_51 : q_cat 105 51 (.iconst 4) 1 0 0 (0) := ⟨rfl, rfl⟩
theorem c105_52 : q_cat 105 52 (.iconst 5) 1 0 0 (0) := ⟨rfl, rfl⟩
theorem c105_53 : q_cat 105 53 (.invokevirtual 47) 3 113 0 (0) := ⟨rfl, rfl⟩
theorem c105_56 : q_cat 105 56 (.aload_n 0) 1 0 0 (0) := ⟨rfl, rfl⟩
theorem c105_57 : q_cat 105 57 (.iload_n 1) 1 1 0 (0) := ⟨rfl, rfl⟩
theorem c105_58 : q_cat 105 58 (.iconst 5) 1 0 0 (0) := ⟨rfl, rfl⟩
theorem c105_59 : q_cat 105 59 (.iconst 2) 1 0 0 (0) := ⟨rfl, rfl⟩
theorem c105_60 : q_cat 105 60 (.invokevirtual 47) 3 113 0 (0) := ⟨rfl, rfl⟩
theorem c105_63 : q_cat 105 63 (.iinc 1 1) 3 1 0 (0) := ⟨rfl, rfl⟩
theorem c105_66 : q_cat 105 66 (.goto (-64)) 3 2 0 (0) := ⟨rfl, rfl⟩
theorem c105_69 : q_cat 105 69 (.aload_n 0) 1 0 0 (0) := ⟨rfl, rfl⟩
theorem c105_70 : q_cat 105 70 (.bipush 100) 2 0 0 (0) := ⟨rfl, rfl⟩
theorem c105_72 : q_cat 105 72 (.putfield 51) 3 5 2 (0) := ⟨rfl, rfl⟩
theorem c105_75 : q_cat 105 75 (.aload_n 0) 1 0 0 (0) := ⟨rfl, rfl⟩
theorem c105_76 : q_cat 105 76 (.iconst 0) 1 0 0 (0) := ⟨rfl, rfl⟩
theorem c105_77 : q_cat 105 77 (.putfield 29) 3 5 3 (0) := ⟨rfl, rfl⟩
theorem c105_80 : q_cat 105 80 (.aload_n 0) 1 0 0 (0) := ⟨rfl, rfl⟩
theorem c105_81 : q_cat 105 81 (.iconst 0) 1 0 0 (0) := ⟨rfl, rfl⟩
theorem c105_82 : q_cat 105 82 (.putfield 18) 3 5 4 (0) := ⟨rfl, rfl⟩
theorem c105_85 : q_cat 105 85 (.aload_n 0) 1 0 0 (0) := ⟨rfl, rfl⟩
theorem c105_86 : q_cat 105 86 (.iconst (-1)) 1 0 0 (0) := ⟨rfl, rfl⟩
theorem c105_87 : q_cat 105 87 (.putfield 22) 3 5 5 (0) := ⟨rfl, rfl⟩
theorem c105_90 : q_cat 105 90 (.aload_n 0) 1 0 0 (0) := ⟨rfl, rfl⟩
theorem c105_91 : q_cat 105 91 (.iconst 0) 1 0 0 (0) := ⟨rfl, rfl⟩
theorem c105_92 : q_cat 105 92 (.putfield 54) 3 5 6 (0) := ⟨rfl, rfl⟩
theorem c105_95 : q_cat 105 95 (.return_) 1 0 0 (0) := ⟨rfl, rfl⟩
theorem l105_2 {Γ : q_Γ} (hG : q_GG Γ) {h0 : q_F} (hZ : q_Bz h0)  
    (hx69 : ∀ {u1 : Int} {h : q_F}, q_Fr (fun k => 3 ≤ k ∧ k ≤ 5) h0 h → q_R Γ q_K 155 105 (fun t w h' => (t = 0 ∧ q_Fr (fun k => 3 ≤ k ∧ k ≤ 5) h0 h')) (69, [(1, (0, u1)), (0, (2, Int.ofNat 3))], [], q_hp q_K 155 h, [], 0, 0))
    : ∀ (m : Nat) {u1 : Int} {h : q_F}, (-2147483648 ≤ u1 ∧ u1 < 2147483648) → q_Fr (fun k => 3 ≤ k ∧ k ≤ 5) h0 h → 2147483648 - u1 < (m : Int) → q_R Γ q_K 155 105 (fun t w h' => (t = 0 ∧ q_Fr (fun k => 3 ≤ k ∧ k ≤ 5) h0 h')) (2, [(1, (0, u1)), (0, (2, Int.ofNat 3))], [], q_hp q_K 155 h, [], 0, 0)   := by
  intro m
  induction m with
  | zero =>
    intro u1 h hinv hf hmu
    exact absurd hmu (by omega)
  | succ m ih =>
    intro u1 h hinv hf hmu
    refine r_iload_n c105_2 rfl rfl ?_
    refine r_iconst c105_3 rfl ?_
    refine r_ic_ge c105_4 rfl (by first | exact q_w32_id (by omega) (by omega) | exact q_w32w _ | exact rfl) (show q_w32 (3) = 3 from rfl) ?_ ?_
    · intro b1
      refine q_R.wk (ks := [1, 0]) (lo' := [(1, _), (0, _)]) rfl ?_
      exact hx69 (by repeat (first | exact q_Fr.rf | refine q_Fr.ud ?_ (by omega) (by first | assumption | rfl) rfl | refine q_Fr.udz ?_ (by omega) (by first | assumption | decide | omega) | refine q_Fr.tr ?_ (by assumption) (by intro k9 hk9; omega)))
    · intro b1
      refine r_aload_n c105_7 rfl rfl ?_
      refine r_getr c105_8 (by first | assumption | omega) (by decide) (by first | assumption | rfl) rfl rfl ?_
      refine r_iload_n c105_11 rfl rfl ?_
      refine r_iconst c105_12 rfl ?_
      refine r_callG c105_13 (fun _ => rfl) rfl rfl rfl (k174 hG (q_Fr.bz (S := fun k => 3 ≤ k ∧ k ≤ 5) hZ (by repeat (first | exact q_Fr.rf | refine q_Fr.ud ?_ (by omega) (by first | assumption | rfl) rfl | refine q_Fr.udz ?_ (by omega) (by first | assumption | decide | omega) | refine q_Fr.tr ?_ (by assumption) (by intro k9 hk9; omega)))) (by first | assumption | omega) (by first | assumption | rfl) (by first | assumption | decide)) ?_
      intro t2 w2 g2 p2
      obtain ⟨rfl, e2⟩ := p2
      refine Or.inl ⟨rfl, ?_⟩
      refine r_aload_n c105_16 rfl rfl ?_
      refine r_iload_n c105_17 rfl rfl ?_
      refine r_iconst c105_18 rfl ?_
      refine r_sipush c105_19 rfl ?_
      refine r_vcG c105_22 (by first | assumption | omega) (by decide) (by first | assumption | rfl) rfl rfl rfl (k113 hG (q_Fr.bz (S := fun k => 3 ≤ k ∧ k ≤ 5) hZ (by repeat (first | exact q_Fr.rf | refine q_Fr.ud ?_ (by omega) (by first | assumption | rfl) rfl | refine q_Fr.udz ?_ (by omega) (by first | assumption | decide | omega) | refine q_Fr.tr ?_ (by assumption) (by intro k9 hk9; omega))))) ?_
      intro t3 w3 g3 p3
      obtain ⟨rfl, e3⟩ := p3
      refine Or.inl ⟨rfl, ?_⟩
      refine r_aload_n c105_25 rfl rfl ?_
      refine r_iload_n c105_26 rfl rfl ?_
      refine r_iconst c105_27 rfl ?_
      refine r_iconst c105_28 rfl ?_
      refine r_vcG c105_29 (by first | assumption | omega) (by decide) (by first | assumption | rfl) rfl rfl rfl (k113 hG (q_Fr.bz (S := fun k => 3 ≤ k ∧ k ≤ 5) hZ (by repeat (first | exact q_Fr.rf | refine q_Fr.ud ?_ (by omega) (by first | assumption | rfl) rfl | refine q_Fr.udz ?_ (by omega) (by first | assumption | decide | omega) | refine q_Fr.tr ?_ (by assumption) (by intro k9 hk9; omega))))) ?_
      intro t4 w4 g4 p4
      obtain ⟨rfl, e4⟩ := p4
      refine Or.inl ⟨rfl, ?_⟩
      refine r_aload_n c105_32 rfl rfl ?_
      refine r_iload_n c105_33 rfl rfl ?_
      refine r_iconst c105_34 rfl ?_
      refine r_sipush c105_35 rfl ?_
      refine r_vcG c105_38 (by first | assumption | omega) (by decide) (by first | assumption | rfl) rfl rfl rfl (k113 hG (q_Fr.bz (S := fun k => 3 ≤ k ∧ k ≤ 5) hZ (by repeat (first | exact q_Fr.rf | refine q_Fr.ud ?_ (by omega) (by first | assumption | rfl) rfl | refine q_Fr.udz ?_ (by omega) (by first | assumption | decide | omega) | refine q_Fr.tr ?_ (by assumption) (by intro k9 hk9; omega))))) ?_
      intro t5 w5 g5 p5
      obtain ⟨rfl, e5⟩ := p5
      refine Or.inl ⟨rfl, ?_⟩
      refine r_aload_n c105_41 rfl rfl ?_
      refine r_iload_n c105_42 rfl rfl ?_
      refine r_iconst c105_43 rfl ?_
      refine r_bipush c105_44 rfl ?_
      refine r_vcG c105_46 (by first | assumption | omega) (by decide) (by first | assumption | rfl) rfl rfl rfl (k113 hG (q_Fr.bz (S := fun k => 3 ≤ k ∧ k ≤ 5) hZ (by repeat (first | exact q_Fr.rf | refine q_Fr.ud ?_ (by omega) (by first | assumption | rfl) rfl | refine q_Fr.udz ?_ (by omega) (by first | assumption | decide | omega) | refine q_Fr.tr ?_ (by assumption) (by intro k9 hk9; omega))))) ?_
      intro t6 w6 g6 p6
      obtain ⟨rfl, e6⟩ := p6
      refine Or.inl ⟨rfl, ?_⟩
      refine r_aload_n c105_49 rfl rfl ?_
      refine r_iload_n c105_50 rfl rfl ?_
      refine r_iconst c105_51 rfl ?_
      refine r_iconst c105_52 rfl ?_
      refine r_vcG c105_53 (by first | assumption | omega) (by decide) (by first | assumption | rfl) rfl rfl rfl (k113 hG (q_Fr.bz (S := fun k => 3 ≤ k ∧ k ≤ 5) hZ (by repeat (first | exact q_Fr.rf | refine q_Fr.ud ?_ (by omega) (by first | assumption | rfl) rfl | refine q_Fr.udz ?_ (by omega) (by first | assumption | decide | omega) | refine q_Fr.tr ?_ (by assumption) (by intro k9 hk9; omega))))) ?_
      intro t7 w7 g7 p7
      obtain ⟨rfl, e7⟩ := p7
      refine Or.inl ⟨rfl, ?_⟩
      refine r_aload_n c105_56 rfl rfl ?_
      refine r_iload_n c105_57 rfl rfl ?_
      refine r_iconst c105_58 rfl ?_
      refine r_iconst c105_59 rfl ?_
      refine r_vcG c105_60 (by first | assumption | omega) (by decide) (by first | assumption | rfl) rfl rfl rfl (k113 hG (q_Fr.bz (S := fun k => 3 ≤ k ∧ k ≤ 5) hZ (by repeat (first | exact q_Fr.rf | refine q_Fr.ud ?_ (by omega) (by first | assumption | rfl) rfl | refine q_Fr.udz ?_ (by omega) (by first | assumption | decide | omega) | refine q_Fr.tr ?_ (by assumption) (by intro k9 hk9; omega))))) ?_
      intro t8 w8 g8 p8
      obtain ⟨rfl, e8⟩ := p8
      refine Or.inl ⟨rfl, ?_⟩
      refine r_iinc c105_63 rfl (by first | exact q_w32_id (by omega) (by omega) | exact q_w32w _ | exact rfl) (lo' := [(1, _), (0, _)]) rfl rfl rfl ?_
      refine r_goto c105_66 ?_
      refine q_R.wk (ks := [1, 0]) (lo' := [(1, _), (0, _)]) rfl ?_
      exact ih (by first | omega | exact ⟨q_rg1 _, q_rg2 _⟩) (by repeat (first | exact q_Fr.rf | refine q_Fr.ud ?_ (by omega) (by first | assumption | rfl) rfl | refine q_Fr.udz ?_ (by omega) (by first | assumption | decide | omega) | refine q_Fr.tr ?_ (by assumption) (by intro k9 hk9; omega))) (by omega)

theorem k105 {Γ : q_Γ} (hG : q_GG Γ) {h : q_F} (hZ : q_Bz h)   :
    q_M Γ q_K 155 105 [(2, Int.ofNat 3)] h (fun t w h' => (t = 0 ∧ q_Fr (fun k => 3 ≤ k ∧ k ≤ 5) h h')) := by
  refine q_M.of (by decide) (Nat.le_of_ble_eq_true rfl) hG ?_
  refine r_iconst c105_0 rfl ?_
  refine r_istore_n c105_1 (lo' := [(1, _), (0, _)]) rfl rfl rfl ?_
  refine q_R.wk (ks := [1, 0]) (lo' := [(1, _), (0, _)]) rfl ?_
  refine l105_2 hG hZ  ?_ 4294967298 (by first | omega | exact ⟨q_rg1 _, q_rg2 _⟩) (by repeat (first | exact q_Fr.rf | refine q_Fr.ud ?_ (by omega) (by first | assumption | rfl) rfl | refine q_Fr.udz ?_ (by omega) (by first | assumption | decide | omega) | refine q_Fr.tr ?_ (by assumption) (by intro k9 hk9; omega))) (q_mu (by first | omega | exact ⟨q_rg1 _, q_rg2 _⟩))
  · intro u1_1 g1 f1
    refine r_aload_n c105_69 rfl rfl ?_
    refine r_bipush c105_70 rfl ?_
    refine r_puti c105_72 (by first | assumption | omega) (by decide) (by first | assumption | rfl) rfl rfl rfl ?_
    refine r_aload_n c105_75 rfl rfl ?_
    refine r_iconst c105_76 rfl ?_
    refine r_puti c105_77 (by first | assumption | omega) (by decide) (by first | assumption | rfl) rfl rfl rfl ?_
    refine r_aload_n c105_80 rfl rfl ?_
    refine r_iconst c105_81 rfl ?_
    refine r_puti c105_82 (by first | assumption | omega) (by decide) (by first | assumption | rfl) rfl rfl rfl ?_
    refine r_aload_n c105_85 rfl rfl ?_
    refine r_iconst c105_86 rfl ?_
    refine r_puti c105_87 (by first | assumption | omega) (by decide) (by first | assumption | rfl) rfl rfl rfl ?_
    refine r_aload_n c105_90 rfl rfl ?_
    refine r_iconst c105_91 rfl ?_
    refine r_puti c105_92 (by first | assumption | omega) (by decide) (by first | assumption | rfl) rfl rfl rfl ?_
    exact r_vret c105_95 ⟨rfl, rfl, rfl⟩ ⟨rfl, (by repeat (first | exact q_Fr.rf | refine q_Fr.ud ?_ (by omega) (by first | assumption | rfl) rfl | refine q_Fr.udz ?_ (by omega) (by first | assumption | decide | omega) | refine q_Fr.tr ?_ (by assumption) (by intro k9 hk9; omega)))⟩
theorem c104_0 : q_cat 104 0 (.aload_n 0) 1 0 0 (0) := ⟨rfl, rfl⟩
theorem c104_1 : q_cat 104 1 (.getfield 54) 3 5 6 (0) := ⟨rfl, rfl⟩
theorem c104_4 : q_cat 104 4 (.aload_n 1) 1 1 0 (0) := ⟨rfl, rfl⟩
theorem c104_5 : q_cat 104 5 (.getfield 57) 3 2 1 (0) := ⟨rfl, rfl⟩
theorem c104_8 : q_cat 104 8 (.if_icmp .ge 30) 3 38 0 (0) := ⟨rfl, rfl⟩
theorem c104_11 : q_cat 104 11 (.aload_n 1) 1 1 0 (0) := ⟨rfl, rfl⟩
theorem c104_12 : q_cat 104 12 (.aload_n 0) 1 0 0 (0) := ⟨rfl, rfl⟩
theorem c104_13 : q_cat 104 13 (.getfield 54) 3 5 6 (0) := ⟨rfl, rfl⟩
theorem c104_16 : q_cat 104 16 (.invokevirtual 62) 3 63 0 (0) := ⟨rfl, rfl⟩
theorem c104_19 : q_cat 104 19 (.invokestatic 66) 3 109 1 (0) := ⟨rfl, rfl⟩
theorem c104_22 : q_cat 104 22 (.ifCond .eq 16) 3 38 0 (0) := ⟨rfl, rfl⟩
theorem c104_25 : q_cat 104 25 (.aload_n 0) 1 0 0 (0) := ⟨rfl, rfl⟩
theorem c104_26 : q_cat 104 26 (.dup) 1 0 0 (0) := ⟨rfl, rfl⟩
theorem c104_27 : q_cat 104 27 (.getfield 54) 3 5 6 (0) := ⟨rfl, rfl⟩
theorem c104_30 : q_cat 104 30 (.iconst 1) 1 0 0 (0) := ⟨rfl, rfl⟩
theorem c104_31 : q_cat 104 31 (.iadd) 1 0 0 (0) := ⟨rfl, rfl⟩
theorem c104_32 : q_cat 104 32 (.putfield 54) 3 5 6 (0) := ⟨rfl, rfl⟩
theorem c104_35 : q_cat 104 35 (.goto (-35)) 3 0 0 (0) := ⟨rfl, rfl⟩
theorem c104_38 : q_cat 104 38 (.aload_n 0) 1 0 0 (0) := ⟨rfl, rfl⟩
theorem c104_39 : q_cat 104 39 (.getfield 54) 3 5 6 (0) := ⟨rfl, rfl⟩
theorem c104_42 : q_cat 104 42 (.aload_n 1) 1 1 0 (0) := ⟨rfl, rfl⟩
theorem c104_43 : q_cat 104 43 (.getfield 57) 3 2 1 (0) := ⟨rfl, rfl⟩
theorem c104_46 : q_cat 104 46 (.if_icmp .ge 7) 3 53 0 (0) := ⟨rfl, rfl⟩
theorem c104_49 : q_cat 104 49 (.iconst 1) 1 0 0 (0) := ⟨rfl, rfl⟩
theorem c104_50 : q_cat 104 50 (.goto 4) 3 54 0 (0) := ⟨rfl, rfl⟩
theorem c104_53 : q_cat 104 53 (.iconst 0) 1 0 0 (0) := ⟨rfl, rfl⟩
theorem c104_54 : q_cat 104 54 (.ireturn) 1 0 0 (0) := ⟨rfl, rfl⟩
theorem l104_0 {Γ : q_Γ} (hG : q_GG Γ) {h0 : q_F} (hZ : q_Bz h0) {o1 : Nat} (ho1 : q_isB o1)
    (hx38 : ∀ {h : q_F}, q_Fr (fun k => 3 ≤ k ∧ k ≤ 5) h0 h → q_R Γ q_K 155 104 (fun t w h' => (t = 1 ∧ (∃ z, w = ((0, z) : q_V) ∧ (z = 0 ∨ z = 1)) ∧ q_Fr (fun k => 3 ≤ k ∧ k ≤ 5) h0 h')) (38, [(0, (2, Int.ofNat 3)), (1, (2, Int.ofNat o1))], [], q_hp q_K 155 h, [], 0, 0))
    : ∀ (m : Nat) {h : q_F}, (-2147483648 ≤ q_w32 (h 3 6) ∧ q_w32 (h 3 6) < 2147483648) → q_Fr (fun k => 3 ≤ k ∧ k ≤ 5) h0 h → 2147483648 - q_w32 (h 3 6) < (m : Int) → q_R Γ q_K 155 104 (fun t w h' => (t = 1 ∧ (∃ z, w = ((0, z) : q_V) ∧ (z = 0 ∨ z = 1)) ∧ q_Fr (fun k => 3 ≤ k ∧ k ≤ 5) h0 h')) (0, [(0, (2, Int.ofNat 3)), (1, (2, Int.ofNat o1))], [], q_hp q_K 155 h, [], 0, 0)   := by
  obtain ⟨fo10, fo11, fo12, fo13⟩ := q_fB ho1
  intro m
  induction m with
  | zero =>
    intro  h hinv hf hmu
    exact absurd hmu (by omega)
  | succ m ih =>
    intro  h hinv hf hmu
    refine r_aload_n c104_0 rfl rfl ?_
    refine r_geti c104_1 (by first | assumption | omega) (by decide) (by first | assumption | rfl) rfl rfl ?_
    refine r_aload_n c104_4 rfl rfl ?_
    refine r_geti c104_5 (by first | assumption | omega) (by decide) (by first | assumption | rfl) rfl rfl ?_
    refine r_ic_ge c104_8 rfl (by first | exact q_w32_id (by omega) (by omega) | exact q_w32w _ | exact rfl) (by first | exact q_w32_id (by omega) (by omega) | exact q_w32w _ | exact rfl) ?_ ?_
    · intro b1
      refine q_R.wk (ks := [0, 1]) (lo' := [(0, _), (1, _)]) rfl ?_
      exact hx38 (by repeat (first | exact q_Fr.rf | refine q_Fr.ud ?_ (by omega) (by first | assumption | rfl) rfl | refine q_Fr.udz ?_ (by omega) (by first | assumption | decide | omega) | refine q_Fr.tr ?_ (by assumption) (by intro k9 hk9; omega)))
    · intro b1
      refine r_aload_n c104_11 rfl rfl ?_
      refine r_aload_n c104_12 rfl rfl ?_
      refine r_geti c104_13 (by first | assumption | omega) (by decide) (by first | assumption | rfl) rfl rfl ?_
      refine r_vcG c104_16 (by first | assumption | omega) (by decide) (by first | assumption | rfl) rfl rfl rfl (k63 hG (q_Fr.bz (S := fun k => 3 ≤ k ∧ k ≤ 5) hZ (by repeat (first | exact q_Fr.rf | refine q_Fr.ud ?_ (by omega) (by first | assumption | rfl) rfl | refine q_Fr.udz ?_ (by omega) (by first | assumption | decide | omega) | refine q_Fr.tr ?_ (by assumption) (by intro k9 hk9; omega)))) (by first | assumption | exact q_hC (by assumption) | exact q_h1 (by assumption) | exact q_h3 (by assumption) | exact q_h5 (by assumption) | exact q_hG (by assumption) | exact q_hP | exact q_hB1 | exact q_hB2 | exact q_hT6 | exact q_hT15 | exact q_hT24)) ?_
      intro t2 w2 g2 p2
      obtain ⟨rfl, ⟨z2, rfl⟩, rfl⟩ := p2
      refine Or.inr (Or.inl ⟨rfl, ?_⟩)
      refine r_callG c104_19 (fun _ => rfl) rfl rfl rfl (k109 hG (q_Fr.bz (S := fun k => 3 ≤ k ∧ k ≤ 5) hZ (by repeat (first | exact q_Fr.rf | refine q_Fr.ud ?_ (by omega) (by first | assumption | rfl) rfl | refine q_Fr.udz ?_ (by omega) (by first | assumption | decide | omega) | refine q_Fr.tr ?_ (by assumption) (by intro k9 hk9; omega))))) ?_
      intro t3 w3 g3 p3
      obtain ⟨rfl, ⟨z3, rfl, hz3⟩, rfl⟩ := p3
      refine Or.inr (Or.inl ⟨rfl, ?_⟩)
      refine r_if_eq c104_22 rfl (by first | exact q_w32_id (by omega) (by omega) | exact q_w32w _ | exact rfl) ?_ ?_
      · intro b4
        refine q_R.wk (ks := [0, 1]) (lo' := [(0, _), (1, _)]) rfl ?_
        exact hx38 (by repeat (first | exact q_Fr.rf | refine q_Fr.ud ?_ (by omega) (by first | assumption | rfl) rfl | refine q_Fr.udz ?_ (by omega) (by first | assumption | decide | omega) | refine q_Fr.tr ?_ (by assumption) (by intro k9 hk9; omega)))
      · intro b4
        refine r_aload_n c104_25 rfl rfl ?_
        refine r_dup c104_26 rfl rfl ?_
        refine r_geti c104_27 (by first | assumption | omega) (by decide) (by first | assumption | rfl) rfl rfl ?_
        refine r_iconst c104_30 rfl ?_
        refine r_iadd c104_31 (by first | exact q_w32_id (by omega) (by omega) | exact q_w32w _ | exact rfl) rfl ?_
        refine r_puti c104_32 (by first | assumption | omega) (by decide) (by first | assumption | rfl) rfl rfl rfl ?_
        refine r_goto c104_35 ?_
        refine q_R.wk (ks := [0, 1]) (lo' := [(0, _), (1, _)]) rfl ?_
        exact ih (by first | omega | exact ⟨q_rg1 _, q_rg2 _⟩) (by repeat (first | exact q_Fr.rf | refine q_Fr.ud ?_ (by omega) (by first | assumption | rfl) rfl | refine q_Fr.udz ?_ (by omega) (by first | assumption | decide | omega) | refine q_Fr.tr ?_ (by assumption) (by intro k9 hk9; omega))) (by rw [q_ud_s, q_w32w, q_w32_sc (by omega)]; omega)

theorem k104 {Γ : q_Γ} (hG : q_GG Γ) {h : q_F} (hZ : q_Bz h) {o1 : Nat} (ho1 : q_isB o1) :
    q_M Γ q_K 155 104 [(2, Int.ofNat 3), (2, Int.ofNat o1)] h (fun t w h' => (t = 1 ∧ (∃ z, w = ((0, z) : q_V) ∧ (z = 0 ∨ z = 1)) ∧ q_Fr (fun k => 3 ≤ k ∧ k ≤ 5) h h')) := by
  obtain ⟨fo10, fo11, fo12, fo13⟩ := q_fB ho1
  refine q_M.of (by decide) (Nat.le_of_ble_eq_true rfl) hG ?_
  refine q_R.wk (ks := [0, 1]) (lo' := [(0, _), (1, _)]) rfl ?_
  refine l104_0 (o1 := o1) hG hZ ho1 ?_ 4294967298 (by first | omega | exact ⟨q_rg1 _, q_rg2 _⟩) (by repeat (first | exact q_Fr.rf | refine q_Fr.ud ?_ (by omega) (by first | assumption | rfl) rfl | refine q_Fr.udz ?_ (by omega) (by first | assumption | decide | omega) | refine q_Fr.tr ?_ (by assumption) (by intro k9 hk9; omega))) (q_mu (by first | omega | exact ⟨q_rg1 _, q_rg2 _⟩))
  · intro  g1 f1
    refine r_aload_n c104_38 rfl rfl ?_
    refine r_geti c104_39 (by first | assumption | omega) (by decide) (by first | assumption | rfl) rfl rfl ?_
    refine r_aload_n c104_42 rfl rfl ?_
    refine r_geti c104_43 (by first | assumption | omega) (by decide) (by first | assumption | rfl) rfl rfl ?_
    refine r_ic_ge c104_46 rfl (by first | exact q_w32_id (by omega) (by omega) | exact q_w32w _ | exact rfl) (by first | exact q_w32_id (by omega) (by omega) | exact q_w32w _ | exact rfl) ?_ ?_
    · intro b2
      refine r_iconst c104_53 rfl ?_
      exact r_zret c104_54 ⟨rfl, rfl, rfl⟩ (by decide) ⟨rfl, ⟨_, rfl, (by decide)⟩, (by repeat (first | exact q_Fr.rf | refine q_Fr.ud ?_ (by omega) (by first | assumption | rfl) rfl | refine q_Fr.udz ?_ (by omega) (by first | assumption | decide | omega) | refine q_Fr.tr ?_ (by assumption) (by intro k9 hk9; omega)))⟩
    · intro b2
      refine r_iconst c104_49 rfl ?_
      refine r_goto c104_50 ?_
      exact r_zret c104_54 ⟨rfl, rfl, rfl⟩ (by decide) ⟨rfl, ⟨_, rfl, (by decide)⟩, (by repeat (first | exact q_Fr.rf | refine q_Fr.ud ?_ (by omega) (by first | assumption | rfl) rfl | refine q_Fr.udz ?_ (by omega) (by first | assumption | decide | omega) | refine q_Fr.tr ?_ (by assumption) (by intro k9 hk9; omega)))⟩
theorem c114_0 : q_cat 114 0 (.iload_n 1) 1 1 0 (0) := ⟨rfl, rfl⟩
theorem c114_1 : q_cat 114 1 (.iconst 4) 1 0 0 (0) := ⟨rfl, rfl⟩
theorem c114_2 : q_cat 114 2 (.if_icmp .ne 5) 3 7 0 (0) := ⟨rfl, rfl⟩
theorem c114_5 : q_cat 114 5 (.iconst 1) 1 0 0 (0) := ⟨rfl, rfl⟩
theorem c114_6 : q_cat 114 6 (.ireturn) 1 0 0 (0) := ⟨rfl, rfl⟩
theorem c114_7 : q_cat 114 7 (.iload_n 1) 1 1 0 (0) := ⟨rfl, rfl⟩
theorem c114_8 : q_cat 114 8 (.iconst 3) 1 0 0 (0) := ⟨rfl, rfl⟩
theorem c114_9 : q_cat 114 9 (.if_icmp .ne 7) 3 16 0 (0) := ⟨rfl, rfl⟩
theorem c114_12 : q_cat 114 12 (.iconst 0) 1 0 0 (0) := ⟨rfl, rfl⟩
theorem c114_13 : q_cat 114 13 (.goto 10) 3 23 0 (0) := ⟨rfl, rfl⟩
theorem c114_16 : q_cat 114 16 (.getstatic 112) 3 0 0 (1) := ⟨rfl, rfl⟩
theorem c114_19 : q_cat 114 19 (.iload_n 2) 1 2 0 (0) := ⟨rfl, rfl⟩
theorem c114_20 : q_cat 114 20 (.invokestatic 25) 3 175 3 (0) := ⟨rfl, rfl⟩
theorem c114_23 : q_cat 114 23 (.ireturn) 1 0 0 (0) := ⟨rfl, rfl⟩
theorem k114 {Γ : q_Γ} (hG : q_GG Γ) {h : q_F} (hZ : q_Bz h) {v1 : Int} {v2 : Int}  :
    q_M Γ q_K 155 114 [(2, Int.ofNat 3), (0, v1), (0, v2)] h (fun t w h' => (t = 1 ∧ (∃ z, w = ((0, z) : q_V)) ∧ h' = h)) := by
  refine q_M.of (by decide) (Nat.le_of_ble_eq_true rfl) hG ?_
  refine r_iload_n c114_0 rfl rfl ?_
  refine r_iconst c114_1 rfl ?_
  refine r_ic_ne c114_2 rfl (by first | exact q_w32_id (by omega) (by omega) | exact q_w32w _ | exact rfl) (show q_w32 (4) = 4 from rfl) ?_ ?_
  · intro b1
    refine r_iload_n c114_7 rfl rfl ?_
    refine r_iconst c114_8 rfl ?_
    refine r_ic_ne c114_9 rfl (by first | exact q_w32_id (by omega) (by omega) | exact q_w32w _ | exact rfl) (show q_w32 (3) = 3 from rfl) ?_ ?_
    · intro b2
      refine r_gstat c114_16 rfl ?_
      refine r_iload_n c114_19 rfl rfl ?_
      refine r_callG c114_20 (fun _ => rfl) rfl rfl rfl (k175_9 hG (by decide)) ?_
      intro t3 w3 g3 p3
      obtain ⟨rfl, ⟨z3, rfl⟩, rfl⟩ := p3
      refine Or.inr (Or.inl ⟨rfl, ?_⟩)
      exact r_iret c114_23 ⟨rfl, rfl, rfl⟩ ⟨rfl, ⟨_, rfl⟩, rfl⟩
    · intro b2
      refine r_iconst c114_12 rfl ?_
      refine r_goto c114_13 ?_
      exact r_iret c114_23 ⟨rfl, rfl, rfl⟩ ⟨rfl, ⟨_, rfl⟩, rfl⟩
  · intro b1
    refine r_iconst c114_5 rfl ?_
    exact r_iret c114_6 ⟨rfl, rfl, rfl⟩ ⟨rfl, ⟨_, rfl⟩, rfl⟩
theorem c106_0 : q_cat 106 0 (.iload_n 1) 1 1 0 (0) := ⟨rfl, rfl⟩
theorem c106_1 : q_cat 106 1 (.iconst 4) 1 0 0 (0) := ⟨rfl, rfl⟩
theorem c106_2 : q_cat 106 2 (.if_icmp .ne 7) 3 9 0 (0) := ⟨rfl, rfl⟩
theorem c106_5 : q_cat 106 5 (.sipush 1000) 3 0 0 (0) := ⟨rfl, rfl⟩
theorem c106_8 : q_cat 106 8 (.ireturn) 1 0 0 (0) := ⟨rfl, rfl⟩
theorem c106_9 : q_cat 106 9 (.iload_n 1) 1 1 0 (0) := ⟨rfl, rfl⟩
theorem c106_10 : q_cat 106 10 (.iconst 3) 1 0 0 (0) := ⟨rfl, rfl⟩
theorem c106_11 : q_cat 106 11 (.if_icmp .ne 10) 3 21 0 (0) := ⟨rfl, rfl⟩
theorem c106_14 : q_cat 106 14 (.aload_n 0) 1 0 0 (0) := ⟨rfl, rfl⟩
theorem c106_15 : q_cat 106 15 (.iload_n 2) 1 2 0 (0) := ⟨rfl, rfl⟩
theorem c106_16 : q_cat 106 16 (.iconst 0) 1 0 0 (0) := ⟨rfl, rfl⟩
theorem c106_17 : q_cat 106 17 (.invokevirtual 115) 3 115 0 (0) := ⟨rfl, rfl⟩
theorem c106_20 : q_cat 106 20 (.ireturn) 1 0 0 (0) := ⟨rfl, rfl⟩
theorem c106_21 : q_cat 106 21 (.iload_n 2) 1 2 0 (0) := ⟨rfl, rfl⟩
theorem c106_22 : q_cat 106 22 (.iconst 4) 1 0 0 (0) := ⟨rfl, rfl⟩
theorem c106_23 : q_cat 106 23 (.if_icmp .ne 12) 3 35 0 (0) := ⟨rfl, rfl⟩
theorem c106_26 : q_cat 106 26 (.aload_n 0) 1 0 0 (0) := ⟨rfl, rfl⟩
theorem c106_27 : q_cat 106 27 (.iload_n 1) 1 1 0 (0) := ⟨rfl, rfl⟩
theorem c106_28 : q_cat 106 28 (.iconst 0) 1 0 0 (0) := ⟨rfl, rfl⟩
theorem c106_29 : q_cat 106 29 (.invokevirtual 115) 3 115 0 (0) := ⟨rfl, rfl⟩
theorem c106_32 : q_cat 106 32 (.goto 10) 3 42 0 (0) := ⟨rfl, rfl⟩
theorem c106_35 : q_cat 106 35 (.getstatic 118) 3 0 0 (2) := ⟨rfl, rfl⟩
theorem c106_38 : q_cat 106 38 (.iload_n 2) 1 2 0 (0) := ⟨rfl, rfl⟩
theorem c106_39 : q_cat 106 39 (.invokestatic 25) 3 175 3 (0) := ⟨rfl, rfl⟩
theorem c106_42 : q_cat 106 42 (.ireturn) 1 0 0 (0) := ⟨rfl, rfl⟩
theorem k106 {Γ : q_Γ} (hG : q_GG Γ) {h : q_F} (hZ : q_Bz h) {v1 : Int} {v2 : Int}  :
    q_M Γ q_K 155 106 [(2, Int.ofNat 3), (0, v1), (0, v2)] h (fun t w h' => (t = 1 ∧ (∃ z, w = ((0, z) : q_V)) ∧ h' = h)) := by
  refine q_M.of (by decide) (Nat.le_of_ble_eq_true rfl) hG ?_
  refine r_iload_n c106_0 rfl rfl ?_
  refine r_iconst c106_1 rfl ?_
  refine r_ic_ne c106_2 rfl (by first | exact q_w32_id (by omega) (by omega) | exact q_w32w _ | exact rfl) (show q_w32 (4) = 4 from rfl) ?_ ?_
  · intro b1
    refine r_iload_n c106_9 rfl rfl ?_
    refine r_iconst c106_10 rfl ?_
    refine r_ic_ne c106_11 rfl (by first | exact q_w32_id (by omega) (by omega) | exact q_w32w _ | exact rfl) (show q_w32 (3) = 3 from rfl) ?_ ?_
    · intro b2
      refine r_iload_n c106_21 rfl rfl ?_
      refine r_iconst c106_22 rfl ?_
      refine r_ic_ne c106_23 rfl (by first | exact q_w32_id (by omega) (by omega) | exact q_w32w _ | exact rfl) (show q_w32 (4) = 4 from rfl) ?_ ?_
      · intro b3
        refine r_gstat c106_35 rfl ?_
        refine r_iload_n c106_38 rfl rfl ?_
        refine r_callG c106_39 (fun _ => rfl) rfl rfl rfl (k175_9 hG (by decide)) ?_
        intro t4 w4 g4 p4
        obtain ⟨rfl, ⟨z4, rfl⟩, rfl⟩ := p4
        refine Or.inr (Or.inl ⟨rfl, ?_⟩)
        exact r_iret c106_42 ⟨rfl, rfl, rfl⟩ ⟨rfl, ⟨_, rfl⟩, rfl⟩
      · intro b3
        refine r_aload_n c106_26 rfl rfl ?_
        refine r_iload_n c106_27 rfl rfl ?_
        refine r_iconst c106_28 rfl ?_
        refine r_vcG c106_29 (by first | assumption | omega) (by decide) (by first | assumption | rfl) rfl rfl rfl (k115 hG hZ) ?_
        intro t5 w5 g5 p5
        obtain ⟨rfl, ⟨z5, rfl⟩, rfl⟩ := p5
        refine Or.inr (Or.inl ⟨rfl, ?_⟩)
        refine r_goto c106_32 ?_
        exact r_iret c106_42 ⟨rfl, rfl, rfl⟩ ⟨rfl, ⟨_, rfl⟩, rfl⟩
    · intro b2
      refine r_aload_n c106_14 rfl rfl ?_
      refine r_iload_n c106_15 rfl rfl ?_
      refine r_iconst c106_16 rfl ?_
      refine r_vcG c106_17 (by first | assumption | omega) (by decide) (by first | assumption | rfl) rfl rfl rfl (k115 hG hZ) ?_
      intro t6 w6 g6 p6
      obtain ⟨rfl, ⟨z6, rfl⟩, rfl⟩ := p6
      refine Or.inr (Or.inl ⟨rfl, ?_⟩)
      exact r_iret c106_20 ⟨rfl, rfl, rfl⟩ ⟨rfl, ⟨_, rfl⟩, rfl⟩
  · intro b1
    refine r_sipush c106_5 rfl ?_
    exact r_iret c106_8 ⟨rfl, rfl, rfl⟩ ⟨rfl, ⟨_, rfl⟩, rfl⟩
theorem c118_0 : q_cat 118 0 (.aload_n 0) 1 0 0 (0) := ⟨rfl, rfl⟩
theorem c118_1 : q_cat 118 1 (.aload_n 1) 1 1 0 (0) := ⟨rfl, rfl⟩
theorem c118_2 : q_cat 118 2 (.invokevirtual 35) 3 104 0 (0) := ⟨rfl, rfl⟩
theorem c118_5 : q_cat 118 5 (.pop) 1 0 0 (0) := ⟨rfl, rfl⟩
theorem c118_6 : q_cat 118 6 (.aload_n 0) 1 0 0 (0) := ⟨rfl, rfl⟩
theorem c118_7 : q_cat 118 7 (.getfield 54) 3 5 6 (0) := ⟨rfl, rfl⟩
theorem c118_10 : q_cat 118 10 (.istore 4) 2 4 0 (0) := ⟨rfl, rfl⟩
theorem c118_12 : q_cat 118 12 (.iconst 0) 1 0 0 (0) := ⟨rfl, rfl⟩
theorem c118_13 : q_cat 118 13 (.istore 5) 2 5 0 (0) := ⟨rfl, rfl⟩
theorem c118_15 : q_cat 118 15 (.aload_n 0) 1 0 0 (0) := ⟨rfl, rfl⟩
theorem c118_16 : q_cat 118 16 (.getfield 54) 3 5 6 (0) := ⟨rfl, rfl⟩
theorem c118_19 : q_cat 118 19 (.aload_n 1) 1 1 0 (0) := ⟨rfl, rfl⟩
theorem c118_20 : q_cat 118 20 (.getfield 57) 3 2 1 (0) := ⟨rfl, rfl⟩
theorem c118_23 : q_cat 118 23 (.if_icmp .ge 49) 3 72 0 (0) := ⟨rfl, rfl⟩
theorem c118_26 : q_cat 118 26 (.aload_n 1) 1 1 0 (0) := ⟨rfl, rfl⟩
theorem c118_27 : q_cat 118 27 (.aload_n 0) 1 0 0 (0) := ⟨rfl, rfl⟩
theorem c118_28 : q_cat 118 28 (.getfield 54) 3 5 6 (0) := ⟨rfl, rfl⟩
theorem c118_31 : q_cat 118 31 (.invokevirtual 62) 3 63 0 (0) := ⟨rfl, rfl⟩
theorem c118_34 : q_cat 118 34 (.invokestatic 102) 3 110 1 (0) := ⟨rfl, rfl⟩
theorem c118_37 : q_cat 118 37 (.ifCond .eq 35) 3 72 0 (0) := ⟨rfl, rfl⟩
theorem c118_40 : q_cat 118 40 (.iload 5) 2 5 0 (0) := ⟨rfl, rfl⟩
theorem c118_42 : q_cat 118 42 (.bipush 10) 2 0 0 (0) := ⟨rfl, rfl⟩
theorem c118_44 : q_cat 118 44 (.imul) 1 0 0 (0) := ⟨rfl, rfl⟩
theorem c118_45 : q_cat 118 45 (.aload_n 1) 1 1 0 (0) := ⟨rfl, rfl⟩
theorem c118_46 : q_cat 118 46 (.aload_n 0) 1 0 0 (0) := ⟨rfl, rfl⟩
theorem c118_47 : q_cat 118 47 (.getfield 54) 3 5 6 (0) := ⟨rfl, rfl⟩
theorem c118_50 : q_cat 118 50 (.invokevirtual 62) 3 63 0 (0) := ⟨rfl, rfl⟩
theorem c118_53 : q_cat 118 53 (.bipush 48) 2 0 0 (0) := ⟨rfl, rfl⟩
theorem c118_55 : q_cat 118 55 (.isub) 1 0 0 (0) := ⟨rfl, rfl⟩
theorem c118_56 : q_cat 118 56 (.iadd) 1 0 0 (0) := ⟨rfl, rfl⟩
theorem c118_57 : q_cat 118 57 (.istore 5) 2 5 0 (0) := ⟨rfl, rfl⟩
theorem c118_59 : q_cat 118 59 (.aload_n 0) 1 0 0 (0) := ⟨rfl, rfl⟩
theorem c118_60 : q_cat 118 60 (.dup) 1 0 0 (0) := ⟨rfl, rfl⟩
theorem c118_61 : q_cat 118 61 (.getfield 54) 3 5 6 (0) := ⟨rfl, rfl⟩
theorem c118_64 : q_cat 118 64 (.iconst 1) 1 0 0 (0) := ⟨rfl, rfl⟩
theorem c118_65 : q_cat 118 65 (.iadd) 1 0 0 (0) := ⟨rfl, rfl⟩
theorem c118_66 : q_cat 118 66 (.putfield 54) 3 5 6 (0) := ⟨rfl, rfl⟩
theorem c118_69 : q_cat 118 69 (.goto (-54)) 3 15 0 (0) := ⟨rfl, rfl⟩
theorem c118_72 : q_cat 118 72 (.aload_n 0) 1 0 0 (0) := ⟨rfl, rfl⟩
theorem c118_73 : q_cat 118 73 (.getfield 54) 3 5 6 (0) := ⟨rfl, rfl⟩
theorem c118_76 : q_cat 118 76 (.iload 4) 2 4 0 (0) := ⟨rfl, rfl⟩
theorem c118_78 : q_cat 118 78 (.isub) 1 0 0 (0) := ⟨rfl, rfl⟩
theorem c118_79 : q_cat 118 79 (.istore 6) 2 6 0 (0) := ⟨rfl, rfl⟩
theorem c118_81 : q_cat 118 81 (.iload 6) 2 6 0 (0) := ⟨rfl, rfl⟩
theorem c118_83 : q_cat 118 83 (.iconst 1) 1 0 0 (0) := ⟨rfl, rfl⟩
theorem c118_84 : q_cat 118 84 (.if_icmp .lt 9) 3 93 0 (0) := ⟨rfl, rfl⟩
theorem c118_87 : q_cat 118 87 (.iload 6) 2 6 0 (0) := ⟨rfl, rfl⟩
theorem c118_89 : q_cat 118 89 (.iconst 4) 1 0 0 (0) := ⟨rfl, rfl⟩
theorem c118_90 : q_cat 118 90 (.if_icmp .le 13) 3 103 0 (0) := ⟨rfl, rfl⟩
theorem c118_93 : q_cat 118 93 (.aload_n 0) 1 0 0 (0) := ⟨rfl, rfl⟩
theorem c118_94 : q_cat 118 94 (.iconst 1) 1 0 0 (0) := ⟨rfl, rfl⟩
theorem c118_95 : q_cat 118 95 (.iload 4) 2 4 0 (0) := ⟨rfl, rfl⟩
theorem c118_97 : q_cat 118 97 (.invokevirtual 74) 3 103 0 (0) := ⟨rfl, rfl⟩
theorem c118_100 : q_cat 118 100 (.goto 43) 3 143 0 (0) := ⟨rfl, rfl⟩
theorem c118_103 : q_cat 118 103 (.iload 5) 2 5 0 (0) := ⟨rfl, rfl⟩
theorem c118_105 : q_cat 118 105 (.aload_n 0) 1 0 0 (0) := ⟨rfl, rfl⟩
theorem c118_106 : q_cat 118 106 (.iload_n 2) 1 2 0 (0) := ⟨rfl, rfl⟩
theorem c118_107 : q_cat 118 107 (.iload_n 3) 1 3 0 (0) := ⟨rfl, rfl⟩
theorem c118_108 : q_cat 118 108 (.invokevirtual 105) 3 114 0 (0) := ⟨rfl, rfl⟩
theorem c118_111 : q_cat 118 111 (.if_icmp .lt 14) 3 125 0 (0) := ⟨rfl, rfl⟩
theorem c118_114 : q_cat 118 114 (.iload 5) 2 5 0 (0) := ⟨rfl, rfl⟩
theorem c118_116 : q_cat 118 116 (.aload_n 0) 1 0 0 (0) := ⟨rfl, rfl⟩
theorem c118_117 : q_cat 118 117 (.iload_n 2) 1 2 0 (0) := ⟨rfl, rfl⟩
theorem c118_118 : q_cat 118 118 (.iload_n 3) 1 3 0 (0) := ⟨rfl, rfl⟩
theorem c118_119 : q_cat 118 119 (.invokevirtual 109) 3 106 0 (0) := ⟨rfl, rfl⟩
theorem c118_122 : q_cat 118 122 (.if_icmp .le 13) 3 135 0 (0) := ⟨rfl, rfl⟩
theorem c118_125 : q_cat 118 125 (.aload_n 0) 1 0 0 (0) := ⟨rfl, rfl⟩
theorem c118_126 : q_cat 118 126 (.iconst 2) 1 0 0 (0) := ⟨rfl, rfl⟩
theorem c118_127 : q_cat 118 127 (.iload 4) 2 4 0 (0) := ⟨rfl, rfl⟩
theorem c118_129 : q_cat 118 129 (.invokevirtual 74) 3 103 0 (0) := ⟨rfl, rfl⟩
theorem c118_132 : q_cat 118 132 (.goto 11) 3 143 0 (0) := ⟨rfl, rfl⟩
theorem c118_135 : q_cat 118 135 (.aload_n 0) 1 0 0 (0) := ⟨rfl, rfl⟩
theorem c118_136 : q_cat 118 136 (.iload_n 2) 1 2 0 (0) := ⟨rfl, rfl⟩
theorem c118_137 : q_cat 118 137 (.iload_n 3) 1 3 0 (0) := ⟨rfl, rfl⟩
theorem c118_138 : q_cat 118 138 (.iload 5) 2 5 0 (0) := ⟨rfl, rfl⟩
theorem c118_140 : q_cat 118 140 (.invokevirtual 47) 3 113 0 (0) := ⟨rfl, rfl⟩
theorem c118_143 : q_cat 118 143 (.return_) 1 0 0 (0) := ⟨rfl, rfl⟩
theorem l118_15 {Γ : q_Γ} (hG : q_GG Γ) {h0 : q_F} (hZ : q_Bz h0) {o1 : Nat} {v2 : Int} {v3 : Int} {u4 : Int} {u2 : Int} {u3 : Int} (ho1 : q_isB o1)
    (hx72 : ∀ {u5 : Int} {h : q_F}, q_Fr (fun k => 3 ≤ k ∧ k ≤ 5) h0 h → q_R Γ q_K 155 118 (fun t w h' => (t = 0 ∧ q_Fr (fun k => 3 ≤ k ∧ k ≤ 5) h0 h')) (72, [(5, (0, u5)), (4, (0, u4)), (0, (2, Int.ofNat 3)), (1, (2, Int.ofNat o1)), (2, (0, u2)), (3, (0, u3))], [], q_hp q_K 155 h, [], 0, 0))
    : ∀ (m : Nat) {u5 : Int} {h : q_F}, (-2147483648 ≤ q_w32 (h 3 6) ∧ q_w32 (h 3 6) < 2147483648) → q_Fr (fun k => 3 ≤ k ∧ k ≤ 5) h0 h → 2147483648 - q_w32 (h 3 6) < (m : Int) → q_R Γ q_K 155 118 (fun t w h' => (t = 0 ∧ q_Fr (fun k => 3 ≤ k ∧ k ≤ 5) h0 h')) (15, [(5, (0, u5)), (4, (0, u4)), (0, (2, Int.ofNat 3)), (1, (2, Int.ofNat o1)), (2, (0, u2)), (3, (0, u3))], [], q_hp q_K 155 h, [], 0, 0)   := by
  obtain ⟨fo10, fo11, fo12, fo13⟩ := q_fB ho1
  intro m
  induction m with
  | zero =>
    intro u5 h hinv hf hmu
    exact absurd hmu (by omega)
  | succ m ih =>
    intro u5 h hinv hf hmu
    refine r_aload_n c118_15 rfl rfl ?_
    refine r_geti c118_16 (by first | assumption | omega) (by decide) (by first | assumption | rfl) rfl rfl ?_
    refine r_aload_n c118_19 rfl rfl ?_
    refine r_geti c118_20 (by first | assumption | omega) (by decide) (by first | assumption | rfl) rfl rfl ?_
    refine r_ic_ge c118_23 rfl (by first | exact q_w32_id (by omega) (by omega) | exact q_w32w _ | exact rfl) (by first | exact q_w32_id (by omega) (by omega) | exact q_w32w _ | exact rfl) ?_ ?_
    · intro b2
      refine q_R.wk (ks := [5, 4, 0, 1, 2, 3]) (lo' := [(5, _), (4, _), (0, _), (1, _), (2, _), (3, _)]) rfl ?_
      exact hx72 (by repeat (first | exact q_Fr.rf | refine q_Fr.ud ?_ (by omega) (by first | assumption | rfl) rfl | refine q_Fr.udz ?_ (by omega) (by first | assumption | decide | omega) | refine q_Fr.tr ?_ (by assumption) (by intro k9 hk9; omega)))
    · intro b2
      refine r_aload_n c118_26 rfl rfl ?_
      refine r_aload_n c118_27 rfl rfl ?_
      refine r_geti c118_28 (by first | assumption | omega) (by decide) (by first | assumption | rfl) rfl rfl ?_
      refine r_vcG c118_31 (by first | assumption | omega) (by decide) (by first | assumption | rfl) rfl rfl rfl (k63 hG (q_Fr.bz (S := fun k => 3 ≤ k ∧ k ≤ 5) hZ (by repeat (first | exact q_Fr.rf | refine q_Fr.ud ?_ (by omega) (by first | assumption | rfl) rfl | refine q_Fr.udz ?_ (by omega) (by first | assumption | decide | omega) | refine q_Fr.tr ?_ (by assumption) (by intro k9 hk9; omega)))) (by first | assumption | exact q_hC (by assumption) | exact q_h1 (by assumption) | exact q_h3 (by assumption) | exact q_h5 (by assumption) | exact q_hG (by assumption) | exact q_hP | exact q_hB1 | exact q_hB2 | exact q_hT6 | exact q_hT15 | exact q_hT24)) ?_
      intro t3 w3 g3 p3
      obtain ⟨rfl, ⟨z3, rfl⟩, rfl⟩ := p3
      refine Or.inr (Or.inl ⟨rfl, ?_⟩)
      refine r_callG c118_34 (fun _ => rfl) rfl rfl rfl (k110 hG (q_Fr.bz (S := fun k => 3 ≤ k ∧ k ≤ 5) hZ (by repeat (first | exact q_Fr.rf | refine q_Fr.ud ?_ (by omega) (by first | assumption | rfl) rfl | refine q_Fr.udz ?_ (by omega) (by first | assumption | decide | omega) | refine q_Fr.tr ?_ (by assumption) (by intro k9 hk9; omega))))) ?_
      intro t4 w4 g4 p4
      obtain ⟨rfl, ⟨z4, rfl, hz4⟩, rfl⟩ := p4
      refine Or.inr (Or.inl ⟨rfl, ?_⟩)
      refine r_if_eq c118_37 rfl (by first | exact q_w32_id (by omega) (by omega) | exact q_w32w _ | exact rfl) ?_ ?_
      · intro b5
        refine q_R.wk (ks := [5, 4, 0, 1, 2, 3]) (lo' := [(5, _), (4, _), (0, _), (1, _), (2, _), (3, _)]) rfl ?_
        exact hx72 (by repeat (first | exact q_Fr.rf | refine q_Fr.ud ?_ (by omega) (by first | assumption | rfl) rfl | refine q_Fr.udz ?_ (by omega) (by first | assumption | decide | omega) | refine q_Fr.tr ?_ (by assumption) (by intro k9 hk9; omega)))
      · intro b5
        refine r_iload c118_40 rfl rfl ?_
        refine r_bipush c118_42 rfl ?_
        refine r_imul c118_44 (by first | exact q_w32_id (by omega) (by omega) | exact q_w32w _ | exact rfl) rfl ?_
        refine r_aload_n c118_45 rfl rfl ?_
        refine r_aload_n c118_46 rfl rfl ?_
        refine r_geti c118_47 (by first | assumption | omega) (by decide) (by first | assumption | rfl) rfl rfl ?_
        refine r_vcG c118_50 (by first | assumption | omega) (by decide) (by first | assumption | rfl) rfl rfl rfl (k63 hG (q_Fr.bz (S := fun k => 3 ≤ k ∧ k ≤ 5) hZ (by repeat (first | exact q_Fr.rf | refine q_Fr.ud ?_ (by omega) (by first | assumption | rfl) rfl | refine q_Fr.udz ?_ (by omega) (by first | assumption | decide | omega) | refine q_Fr.tr ?_ (by assumption) (by intro k9 hk9; omega)))) (by first | assumption | exact q_hC (by assumption) | exact q_h1 (by assumption) | exact q_h3 (by assumption) | exact q_h5 (by assumption) | exact q_hG (by assumption) | exact q_hP | exact q_hB1 | exact q_hB2 | exact q_hT6 | exact q_hT15 | exact q_hT24)) ?_
        intro t6 w6 g6 p6
        obtain ⟨rfl, ⟨z6, rfl⟩, rfl⟩ := p6
        refine Or.inr (Or.inl ⟨rfl, ?_⟩)
        refine r_bipush c118_53 rfl ?_
        refine r_isub c118_55 (by first | exact q_w32_id (by omega) (by omega) | exact q_w32w _ | exact rfl) rfl ?_
        refine r_iadd c118_56 (by first | exact q_w32_id (by omega) (by omega) | exact q_w32w _ | exact rfl) rfl ?_
        refine r_istore c118_57 (lo' := [(5, _), (4, _), (0, _), (1, _), (2, _), (3, _)]) rfl rfl rfl ?_
        refine r_aload_n c118_59 rfl rfl ?_
        refine r_dup c118_60 rfl rfl ?_
        refine r_geti c118_61 (by first | assumption | omega) (by decide) (by first | assumption | rfl) rfl rfl ?_
        refine r_iconst c118_64 rfl ?_
        refine r_iadd c118_65 (by first | exact q_w32_id (by omega) (by omega) | exact q_w32w _ | exact rfl) rfl ?_
        refine r_puti c118_66 (by first | assumption | omega) (by decide) (by first | assumption | rfl) rfl rfl rfl ?_
        refine r_goto c118_69 ?_
        refine q_R.wk (ks := [5, 4, 0, 1, 2, 3]) (lo' := [(5, _), (4, _), (0, _), (1, _), (2, _), (3, _)]) rfl ?_
        exact ih (by first | omega | exact ⟨q_rg1 _, q_rg2 _⟩) (by repeat (first | exact q_Fr.rf | refine q_Fr.ud ?_ (by omega) (by first | assumption | rfl) rfl | refine q_Fr.udz ?_ (by omega) (by first | assumption | decide | omega) | refine q_Fr.tr ?_ (by assumption) (by intro k9 hk9; omega))) (by rw [q_ud_s, q_w32w, q_w32_sc (by omega)]; omega)

theorem k118 {Γ : q_Γ} (hG : q_GG Γ) {h : q_F} (hZ : q_Bz h) {o1 : Nat} {v2 : Int} {v3 : Int} (ho1 : q_isB o1) :
    q_M Γ q_K 155 118 [(2, Int.ofNat 3), (2, Int.ofNat o1), (0, v2), (0, v3)] h (fun t w h' => (t = 0 ∧ q_Fr (fun k => 3 ≤ k ∧ k ≤ 5) h h')) := by
  obtain ⟨fo10, fo11, fo12, fo13⟩ := q_fB ho1
  refine q_M.of (by decide) (Nat.le_of_ble_eq_true rfl) hG ?_
  refine r_aload_n c118_0 rfl rfl ?_
  refine r_aload_n c118_1 rfl rfl ?_
  refine r_vcG c118_2 (by first | assumption | omega) (by decide) (by first | assumption | rfl) rfl rfl rfl (k104 hG (q_Fr.bz (S := fun k => 3 ≤ k ∧ k ≤ 5) hZ (by repeat (first | exact q_Fr.rf | refine q_Fr.ud ?_ (by omega) (by first | assumption | rfl) rfl | refine q_Fr.udz ?_ (by omega) (by first | assumption | decide | omega) | refine q_Fr.tr ?_ (by assumption) (by intro k9 hk9; omega)))) (by first | assumption | exact q_hC (by assumption) | exact q_h1 (by assumption) | exact q_h3 (by assumption) | exact q_h5 (by assumption) | exact q_hG (by assumption) | exact q_hP | exact q_hB1 | exact q_hB2 | exact q_hT6 | exact q_hT15 | exact q_hT24)) ?_
  intro t1 w1 g1 p1
  obtain ⟨rfl, ⟨z1, rfl, hz1⟩, e1⟩ := p1
  refine Or.inr (Or.inl ⟨rfl, ?_⟩)
  refine r_pop c118_5 rfl rfl ?_
  refine r_aload_n c118_6 rfl rfl ?_
  refine r_geti c118_7 (by first | assumption | omega) (by decide) (by first | assumption | rfl) rfl rfl ?_
  refine r_istore c118_10 (lo' := [(4, _), (0, _), (1, _), (2, _), (3, _)]) rfl rfl rfl ?_
  refine r_iconst c118_12 rfl ?_
  refine r_istore c118_13 (lo' := [(5, _), (4, _), (0, _), (1, _), (2, _), (3, _)]) rfl rfl rfl ?_
  refine q_R.wk (ks := [5, 4, 0, 1, 2, 3]) (lo' := [(5, _), (4, _), (0, _), (1, _), (2, _), (3, _)]) rfl ?_
  refine l118_15 (o1 := o1) (v2 := v2) (v3 := v3) hG hZ ho1 ?_ 4294967298 (by first | omega | exact ⟨q_rg1 _, q_rg2 _⟩) (by repeat (first | exact q_Fr.rf | refine q_Fr.ud ?_ (by omega) (by first | assumption | rfl) rfl | refine q_Fr.udz ?_ (by omega) (by first | assumption | decide | omega) | refine q_Fr.tr ?_ (by assumption) (by intro k9 hk9; omega))) (q_mu (by first | omega | exact ⟨q_rg1 _, q_rg2 _⟩))
  · intro u5_2 g2 f2
    refine r_aload_n c118_72 rfl rfl ?_
    refine r_geti c118_73 (by first | assumption | omega) (by decide) (by first | assumption | rfl) rfl rfl ?_
    refine r_iload c118_76 rfl rfl ?_
    refine r_isub c118_78 (by first | exact q_w32_id (by omega) (by omega) | exact q_w32w _ | exact rfl) rfl ?_
    refine r_istore c118_79 (lo' := [(6, _), (5, _), (4, _), (0, _), (1, _), (2, _), (3, _)]) rfl rfl rfl ?_
    refine r_iload c118_81 rfl rfl ?_
    refine r_iconst c118_83 rfl ?_
    refine r_ic_lt c118_84 rfl (by first | exact q_w32_id (by omega) (by omega) | exact q_w32w _ | exact rfl) (show q_w32 (1) = 1 from rfl) ?_ ?_
    · intro b3
      refine r_aload_n c118_93 rfl rfl ?_
      refine r_iconst c118_94 rfl ?_
      refine r_iload c118_95 rfl rfl ?_
      refine r_vcG c118_97 (by first | assumption | omega) (by decide) (by first | assumption | rfl) rfl rfl rfl (k103 hG (q_Fr.bz (S := fun k => 3 ≤ k ∧ k ≤ 5) hZ (by repeat (first | exact q_Fr.rf | refine q_Fr.ud ?_ (by omega) (by first | assumption | rfl) rfl | refine q_Fr.udz ?_ (by omega) (by first | assumption | decide | omega) | refine q_Fr.tr ?_ (by assumption) (by intro k9 hk9; omega))))) ?_
      intro t4 w4 g4 p4
      obtain ⟨rfl, e4⟩ := p4
      refine Or.inl ⟨rfl, ?_⟩
      refine r_goto c118_100 ?_
      exact r_vret c118_143 ⟨rfl, rfl, rfl⟩ ⟨rfl, (by repeat (first | exact q_Fr.rf | refine q_Fr.ud ?_ (by omega) (by first | assumption | rfl) rfl | refine q_Fr.udz ?_ (by omega) (by first | assumption | decide | omega) | refine q_Fr.tr ?_ (by assumption) (by intro k9 hk9; omega)))⟩
    · intro b3
      refine r_iload c118_87 rfl rfl ?_
      refine r_iconst c118_89 rfl ?_
      refine r_ic_le c118_90 rfl (by first | exact q_w32_id (by omega) (by omega) | exact q_w32w _ | exact rfl) (show q_w32 (4) = 4 from rfl) ?_ ?_
      · intro b5
        refine r_iload c118_103 rfl rfl ?_
        refine r_aload_n c118_105 rfl rfl ?_
        refine r_iload_n c118_106 rfl rfl ?_
        refine r_iload_n c118_107 rfl rfl ?_
        refine r_vcG c118_108 (by first | assumption | omega) (by decide) (by first | assumption | rfl) rfl rfl rfl (k114 hG (q_Fr.bz (S := fun k => 3 ≤ k ∧ k ≤ 5) hZ (by repeat (first | exact q_Fr.rf | refine q_Fr.ud ?_ (by omega) (by first | assumption | rfl) rfl | refine q_Fr.udz ?_ (by omega) (by first | assumption | decide | omega) | refine q_Fr.tr ?_ (by assumption) (by intro k9 hk9; omega))))) ?_
        intro t6 w6 g6 p6
        obtain ⟨rfl, ⟨z6, rfl⟩, rfl⟩ := p6
        refine Or.inr (Or.inl ⟨rfl, ?_⟩)
        refine r_ic_lt c118_111 rfl (by first | exact q_w32_id (by omega) (by omega) | exact q_w32w _ | exact rfl) (by first | exact q_w32_id (by omega) (by omega) | exact q_w32w _ | exact rfl) ?_ ?_
        · intro b7
          refine r_aload_n c118_125 rfl rfl ?_
          refine r_iconst c118_126 rfl ?_
          refine r_iload c118_127 rfl rfl ?_
          refine r_vcG c118_129 (by first | assumption | omega) (by decide) (by first | assumption | rfl) rfl rfl rfl (k103 hG (q_Fr.bz (S := fun k => 3 ≤ k ∧ k ≤ 5) hZ (by repeat (first | exact q_Fr.rf | refine q_Fr.ud ?_ (by omega) (by first | assumption | rfl) rfl | refine q_Fr.udz ?_ (by omega) (by first | assumption | decide | omega) | refine q_Fr.tr ?_ (by assumption) (by intro k9 hk9; omega))))) ?_
          intro t8 w8 g8 p8
          obtain ⟨rfl, e8⟩ := p8
          refine Or.inl ⟨rfl, ?_⟩
          refine r_goto c118_132 ?_
          exact r_vret c118_143 ⟨rfl, rfl, rfl⟩ ⟨rfl, (by repeat (first | exact q_Fr.rf | refine q_Fr.ud ?_ (by omega) (by first | assumption | rfl) rfl | refine q_Fr.udz ?_ (by omega) (by first | assumption | decide | omega) | refine q_Fr.tr ?_ (by assumption) (by intro k9 hk9; omega)))⟩
        · intro b7
          refine r_iload c118_114 rfl rfl ?_
          refine r_aload_n c118_116 rfl rfl ?_
          refine r_iload_n c118_117 rfl rfl ?_
          refine r_iload_n c118_118 rfl rfl ?_
          refine r_vcG c118_119 (by first | assumption | omega) (by decide) (by first | assumption | rfl) rfl rfl rfl (k106 hG (q_Fr.bz (S := fun k => 3 ≤ k ∧ k ≤ 5) hZ (by repeat (first | exact q_Fr.rf | refine q_Fr.ud ?_ (by omega) (by first | assumption | rfl) rfl | refine q_Fr.udz ?_ (by omega) (by first | assumption | decide | omega) | refine q_Fr.tr ?_ (by assumption) (by intro k9 hk9; omega))))) ?_
          intro t9 w9 g9 p9
          obtain ⟨rfl, ⟨z9, rfl⟩, rfl⟩ := p9
          refine Or.inr (Or.inl ⟨rfl, ?_⟩)
          refine r_ic_le c118_122 rfl (by first | exact q_w32_id (by omega) (by omega) | exact q_w32w _ | exact rfl) (by first | exact q_w32_id (by omega) (by omega) | exact q_w32w _ | exact rfl) ?_ ?_
          · intro b10
            refine r_aload_n c118_135 rfl rfl ?_
            refine r_iload_n c118_136 rfl rfl ?_
            refine r_iload_n c118_137 rfl rfl ?_
            refine r_iload c118_138 rfl rfl ?_
            refine r_vcG c118_140 (by first | assumption | omega) (by decide) (by first | assumption | rfl) rfl rfl rfl (k113 hG (q_Fr.bz (S := fun k => 3 ≤ k ∧ k ≤ 5) hZ (by repeat (first | exact q_Fr.rf | refine q_Fr.ud ?_ (by omega) (by first | assumption | rfl) rfl | refine q_Fr.udz ?_ (by omega) (by first | assumption | decide | omega) | refine q_Fr.tr ?_ (by assumption) (by intro k9 hk9; omega))))) ?_
            intro t11 w11 g11 p11
            obtain ⟨rfl, e11⟩ := p11
            refine Or.inl ⟨rfl, ?_⟩
            exact r_vret c118_143 ⟨rfl, rfl, rfl⟩ ⟨rfl, (by repeat (first | exact q_Fr.rf | refine q_Fr.ud ?_ (by omega) (by first | assumption | rfl) rfl | refine q_Fr.udz ?_ (by omega) (by first | assumption | decide | omega) | refine q_Fr.tr ?_ (by assumption) (by intro k9 hk9; omega)))⟩
          · intro b10
            refine r_aload_n c118_125 rfl rfl ?_
            refine r_iconst c118_126 rfl ?_
            refine r_iload c118_127 rfl rfl ?_
            refine r_vcG c118_129 (by first | assumption | omega) (by decide) (by first | assumption | rfl) rfl rfl rfl (k103 hG (q_Fr.bz (S := fun k => 3 ≤ k ∧ k ≤ 5) hZ (by repeat (first | exact q_Fr.rf | refine q_Fr.ud ?_ (by omega) (by first | assumption | rfl) rfl | refine q_Fr.udz ?_ (by omega) (by first | assumption | decide | omega) | refine q_Fr.tr ?_ (by assumption) (by intro k9 hk9; omega))))) ?_
            intro t12 w12 g12 p12
            obtain ⟨rfl, e12⟩ := p12
            refine Or.inl ⟨rfl, ?_⟩
            refine r_goto c118_132 ?_
            exact r_vret c118_143 ⟨rfl, rfl, rfl⟩ ⟨rfl, (by repeat (first | exact q_Fr.rf | refine q_Fr.ud ?_ (by omega) (by first | assumption | rfl) rfl | refine q_Fr.udz ?_ (by omega) (by first | assumption | decide | omega) | refine q_Fr.tr ?_ (by assumption) (by intro k9 hk9; omega)))⟩
      · intro b5
        refine r_aload_n c118_93 rfl rfl ?_
        refine r_iconst c118_94 rfl ?_
        refine r_iload c118_95 rfl rfl ?_
        refine r_vcG c118_97 (by first | assumption | omega) (by decide) (by first | assumption | rfl) rfl rfl rfl (k103 hG (q_Fr.bz (S := fun k => 3 ≤ k ∧ k ≤ 5) hZ (by repeat (first | exact q_Fr.rf | refine q_Fr.ud ?_ (by omega) (by first | assumption | rfl) rfl | refine q_Fr.udz ?_ (by omega) (by first | assumption | decide | omega) | refine q_Fr.tr ?_ (by assumption) (by intro k9 hk9; omega))))) ?_
        intro t13 w13 g13 p13
        obtain ⟨rfl, e13⟩ := p13
        refine Or.inl ⟨rfl, ?_⟩
        refine r_goto c118_100 ?_
        exact r_vret c118_143 ⟨rfl, rfl, rfl⟩ ⟨rfl, (by repeat (first | exact q_Fr.rf | refine q_Fr.ud ?_ (by omega) (by first | assumption | rfl) rfl | refine q_Fr.udz ?_ (by omega) (by first | assumption | decide | omega) | refine q_Fr.tr ?_ (by assumption) (by intro k9 hk9; omega)))⟩
theorem c119_0 : q_cat 119 0 (.aload_n 0) 1 0 0 (0) := ⟨rfl, rfl⟩
theorem c119_1 : q_cat 119 1 (.aload_n 1) 1 1 0 (0) := ⟨rfl, rfl⟩
theorem c119_2 : q_cat 119 2 (.invokevirtual 35) 3 104 0 (0) := ⟨rfl, rfl⟩
theorem c119_5 : q_cat 119 5 (.pop) 1 0 0 (0) := ⟨rfl, rfl⟩
theorem c119_6 : q_cat 119 6 (.aload_n 1) 1 1 0 (0) := ⟨rfl, rfl⟩
theorem c119_7 : q_cat 119 7 (.aload_n 0) 1 0 0 (0) := ⟨rfl, rfl⟩
theorem c119_8 : q_cat 119 8 (.getfield 54) 3 5 6 (0) := ⟨rfl, rfl⟩
theorem c119_11 : q_cat 119 11 (.invokevirtual 62) 3 63 0 (0) := ⟨rfl, rfl⟩
theorem c119_14 : q_cat 119 14 (.bipush 59) 2 0 0 (0) := ⟨rfl, rfl⟩
theorem c119_16 : q_cat 119 16 (.if_icmp .ne 16) 3 32 0 (0) := ⟨rfl, rfl⟩
theorem c119_19 : q_cat 119 19 (.aload_n 0) 1 0 0 (0) := ⟨rfl, rfl⟩
theorem c119_20 : q_cat 119 20 (.dup) 1 0 0 (0) := ⟨rfl, rfl⟩
theorem c119_21 : q_cat 119 21 (.getfield 54) 3 5 6 (0) := ⟨rfl, rfl⟩
theorem c119_24 : q_cat 119 24 (.iconst 1) 1 0 0 (0) := ⟨rfl, rfl⟩
theorem c119_25 : q_cat 119 25 (.iadd) 1 0 0 (0) := ⟨rfl, rfl⟩
theorem c119_26 : q_cat 119 26 (.putfield 54) 3 5 6 (0) := ⟨rfl, rfl⟩
theorem c119_29 : q_cat 119 29 (.goto 12) 3 41 0 (0) := ⟨rfl, rfl⟩
theorem c119_32 : q_cat 119 32 (.aload_n 0) 1 0 0 (0) := ⟨rfl, rfl⟩
theorem c119_33 : q_cat 119 33 (.iconst 1) 1 0 0 (0) := ⟨rfl, rfl⟩
theorem c119_34 : q_cat 119 34 (.aload_n 0) 1 0 0 (0) := ⟨rfl, rfl⟩
theorem c119_35 : q_cat 119 35 (.getfield 54) 3 5 6 (0) := ⟨rfl, rfl⟩
theorem c119_38 : q_cat 119 38 (.invokevirtual 74) 3 103 0 (0) := ⟨rfl, rfl⟩
theorem c119_41 : q_cat 119 41 (.return_) 1 0 0 (0) := ⟨rfl, rfl⟩
theorem k119 {Γ : q_Γ} (hG : q_GG Γ) {h : q_F} (hZ : q_Bz h) {o1 : Nat} (ho1 : q_isB o1) :
    q_M Γ q_K 155 119 [(2, Int.ofNat 3), (2, Int.ofNat o1)] h (fun t w h' => (t = 0 ∧ q_Fr (fun k => 3 ≤ k ∧ k ≤ 5) h h')) := by
  obtain ⟨fo10, fo11, fo12, fo13⟩ := q_fB ho1
  refine q_M.of (by decide) (Nat.le_of_ble_eq_true rfl) hG ?_
  refine r_aload_n c119_0 rfl rfl ?_
  refine r_aload_n c119_1 rfl rfl ?_
  refine r_vcG c119_2 (by first | assumption | omega) (by decide) (by first | assumption | rfl) rfl rfl rfl (k104 hG (q_Fr.bz (S := fun k => 3 ≤ k ∧ k ≤ 5) hZ (by repeat (first | exact q_Fr.rf | refine q_Fr.ud ?_ (by omega) (by first | assumption | rfl) rfl | refine q_Fr.udz ?_ (by omega) (by first | assumption | decide | omega) | refine q_Fr.tr ?_ (by assumption) (by intro k9 hk9; omega)))) (by first | assumption | exact q_hC (by assumption) | exact q_h1 (by assumption) | exact q_h3 (by assumption) | exact q_h5 (by assumption) | exact q_hG (by assumption) | exact q_hP | exact q_hB1 | exact q_hB2 | exact q_hT6 | exact q_hT15 | exact q_hT24)) ?_
  intro t1 w1 g1 p1
  obtain ⟨rfl, ⟨z1, rfl, hz1⟩, e1⟩ := p1
  refine Or.inr (Or.inl ⟨rfl, ?_⟩)
  refine r_pop c119_5 rfl rfl ?_
  refine r_aload_n c119_6 rfl rfl ?_
  refine r_aload_n c119_7 rfl rfl ?_
  refine r_geti c119_8 (by first | assumption | omega) (by decide) (by first | assumption | rfl) rfl rfl ?_
  refine r_vcG c119_11 (by first | assumption | omega) (by decide) (by first | assumption | rfl) rfl rfl rfl (k63 hG (q_Fr.bz (S := fun k => 3 ≤ k ∧ k ≤ 5) hZ (by repeat (first | exact q_Fr.rf | refine q_Fr.ud ?_ (by omega) (by first | assumption | rfl) rfl | refine q_Fr.udz ?_ (by omega) (by first | assumption | decide | omega) | refine q_Fr.tr ?_ (by assumption) (by intro k9 hk9; omega)))) (by first | assumption | exact q_hC (by assumption) | exact q_h1 (by assumption) | exact q_h3 (by assumption) | exact q_h5 (by assumption) | exact q_hG (by assumption) | exact q_hP | exact q_hB1 | exact q_hB2 | exact q_hT6 | exact q_hT15 | exact q_hT24)) ?_
  intro t2 w2 g2 p2
  obtain ⟨rfl, ⟨z2, rfl⟩, rfl⟩ := p2
  refine Or.inr (Or.inl ⟨rfl, ?_⟩)
  refine r_bipush c119_14 rfl ?_
  refine r_ic_ne c119_16 rfl (by first | exact q_w32_id (by omega) (by omega) | exact q_w32w _ | exact rfl) (show q_w32 (59) = 59 from rfl) ?_ ?_
  · intro b3
    refine r_aload_n c119_32 rfl rfl ?_
    refine r_iconst c119_33 rfl ?_
    refine r_aload_n c119_34 rfl rfl ?_
    refine r_geti c119_35 (by first | assumption | omega) (by decide) (by first | assumption | rfl) rfl rfl ?_
    refine r_vcG c119_38 (by first | assumption | omega) (by decide) (by first | assumption | rfl) rfl rfl rfl (k103 hG (q_Fr.bz (S := fun k => 3 ≤ k ∧ k ≤ 5) hZ (by repeat (first | exact q_Fr.rf | refine q_Fr.ud ?_ (by omega) (by first | assumption | rfl) rfl | refine q_Fr.udz ?_ (by omega) (by first | assumption | decide | omega) | refine q_Fr.tr ?_ (by assumption) (by intro k9 hk9; omega))))) ?_
    intro t4 w4 g4 p4
    obtain ⟨rfl, e4⟩ := p4
    refine Or.inl ⟨rfl, ?_⟩
    exact r_vret c119_41 ⟨rfl, rfl, rfl⟩ ⟨rfl, (by repeat (first | exact q_Fr.rf | refine q_Fr.ud ?_ (by omega) (by first | assumption | rfl) rfl | refine q_Fr.udz ?_ (by omega) (by first | assumption | decide | omega) | refine q_Fr.tr ?_ (by assumption) (by intro k9 hk9; omega)))⟩
  · intro b3
    refine r_aload_n c119_19 rfl rfl ?_
    refine r_dup c119_20 rfl rfl ?_
    refine r_geti c119_21 (by first | assumption | omega) (by decide) (by first | assumption | rfl) rfl rfl ?_
    refine r_iconst c119_24 rfl ?_
    refine r_iadd c119_25 (by first | exact q_w32_id (by omega) (by omega) | exact q_w32w _ | exact rfl) rfl ?_
    refine r_puti c119_26 (by first | assumption | omega) (by decide) (by first | assumption | rfl) rfl rfl rfl ?_
    refine r_goto c119_29 ?_
    exact r_vret c119_41 ⟨rfl, rfl, rfl⟩ ⟨rfl, (by repeat (first | exact q_Fr.rf | refine q_Fr.ud ?_ (by omega) (by first | assumption | rfl) rfl | refine q_Fr.udz ?_ (by omega) (by first | assumption | decide | omega) | refine q_Fr.tr ?_ (by assumption) (by intro k9 hk9; omega)))⟩
theorem c121_0 : q_cat 121 0 (.aload_n 0) 1 0 0 (0) := ⟨rfl, rfl⟩
theorem c121_1 : q_cat 121 1 (.getfield 54) 3 5 6 (0) := ⟨rfl, rfl⟩
theorem c121_4 : q_cat 121 4 (.istore_n 2) 1 2 0 (0) := ⟨rfl, rfl⟩
theorem c121_5 : q_cat 121 5 (.aload_n 0) 1 0 0 (0) := ⟨rfl, rfl⟩
theorem c121_6 : q_cat 121 6 (.getfield 54) 3 5 6 (0) := ⟨rfl, rfl⟩
theorem c121_9 : q_cat 121 9 (.aload_n 1) 1 1 0 (0) := ⟨rfl, rfl⟩
theorem c121_10 : q_cat 121 10 (.getfield 57) 3 2 1 (0) := ⟨rfl, rfl⟩
theorem c121_13 : q_cat 121 13 (.if_icmp .ge 30) 3 43 0 (0) := ⟨rfl, rfl⟩
theorem c121_16 : q_cat 121 16 (.aload_n 1) 1 1 0 (0) := ⟨rfl, rfl⟩
theorem c121_17 : q_cat 121 17 (.aload_n 0) 1 0 0 (0) := ⟨rfl, rfl⟩
theorem c121_18 : q_cat 121 18 (.getfield 54) 3 5 6 (0) := ⟨rfl, rfl⟩
theorem c121_21 : q_cat 121 21 (.invokevirtual 62) 3 63 0 (0) := ⟨rfl, rfl⟩
theorem c121_24 : q_cat 121 24 (.invokestatic 91) 3 111 1 (0) := ⟨rfl, rfl⟩
theorem c121_27 : q_cat 121 27 (.ifCond .eq 16) 3 43 0 (0) := ⟨rfl, rfl⟩
theorem c121_30 : q_cat 121 30 (.aload_n 0) 1 0 0 (0) := ⟨rfl, rfl⟩
theorem c121_31 : q_cat 121 31 (.dup) 1 0 0 (0) := ⟨rfl, rfl⟩
theorem c121_32 : q_cat 121 32 (.getfield 54) 3 5 6 (0) := ⟨rfl, rfl⟩
theorem c121_35 : q_cat 121 35 (.iconst 1) 1 0 0 (0) := ⟨rfl, rfl⟩
theorem c121_36 : q_cat 121 36 (.iadd) 1 0 0 (0) := ⟨rfl, rfl⟩
theorem c121_37 : q_cat 121 37 (.putfield 54) 3 5 6 (0) := ⟨rfl, rfl⟩
theorem c121_40 : q_cat 121 40 (.goto (-35)) 3 5 0 (0) := ⟨rfl, rfl⟩
theorem c121_43 : q_cat 121 43 (.iconst 0) 1 0 0 (0) := ⟨rfl, rfl⟩
theorem c121_44 : q_cat 121 44 (.istore_n 3) 1 3 0 (0) := ⟨rfl, rfl⟩
theorem c121_45 : q_cat 121 45 (.iload_n 3) 1 3 0 (0) := ⟨rfl, rfl⟩
theorem c121_46 : q_cat 121 46 (.bipush 7) 2 0 0 (0) := ⟨rfl, rfl⟩
theorem c121_48 : q_cat 121 48 (.if_icmp .ge 27) 3 75 0 (0) := ⟨rfl, rfl⟩
theorem c121_51 : q_cat 121 51 (.aload_n 1) 1 1 0 (0) := ⟨rfl, rfl⟩
theorem c121_52 : q_cat 121 52 (.iload_n 2) 1 2 0 (0) := ⟨rfl, rfl⟩
theorem c121_53 : q_cat 121 53 (.aload_n 0) 1 0 0 (0) := ⟨rfl, rfl⟩
theorem c121_54 : q_cat 121 54 (.getfield 54) 3 5 6 (0) := ⟨rfl, rfl⟩
theorem c121_57 : q_cat 121 57 (.iload_n 3) 1 3 0 (0) := ⟨rfl, rfl⟩
theorem c121_58 : q_cat 121 58 (.invokestatic 94) 3 122 1 (0) := ⟨rfl, rfl⟩
theorem c121_61 : q_cat 121 61 (.invokestatic 98) 3 112 1 (0) := ⟨rfl, rfl⟩
theorem c121_64 : q_cat 121 64 (.ifCond .eq 5) 3 69 0 (0) := ⟨rfl, rfl⟩
theorem c121_67 : q_cat 121 67 (.iload_n 3) 1 3 0 (0) := ⟨rfl, rfl⟩
theorem c121_68 : q_cat 121 68 (.ireturn) 1 0 0 (0) := ⟨rfl, rfl⟩
theorem c121_69 : q_cat 121 69 (.iinc 3 1) 3 3 0 (0) := ⟨rfl, rfl⟩
theorem c121_72 : q_cat 121 72 (.goto (-27)) 3 45 0 (0) := ⟨rfl, rfl⟩
theorem c121_75 : q_cat 121 75 (.iconst (-1)) 1 0 0 (0) := ⟨rfl, rfl⟩
theorem c121_76 : q_cat 121 76 (.ireturn) 1 0 0 (0) := ⟨rfl, rfl⟩
theorem l121_5 {Γ : q_Γ} (hG : q_GG Γ) {h0 : q_F} (hZ : q_Bz h0) {o1 : Nat} {u2 : Int} (ho1 : q_isB o1)
    (hx43 : ∀ {h : q_F}, q_Fr (fun k => 3 ≤ k ∧ k ≤ 5) h0 h → q_R Γ q_K 155 121 (fun t w h' => (t = 1 ∧ (∃ z, w = ((0, z) : q_V)) ∧ q_Fr (fun k => 3 ≤ k ∧ k ≤ 5) h0 h')) (43, [(2, (0, u2)), (0, (2, Int.ofNat 3)), (1, (2, Int.ofNat o1))], [], q_hp q_K 155 h, [], 0, 0))
    : ∀ (m : Nat) {h : q_F}, (-2147483648 ≤ q_w32 (h 3 6) ∧ q_w32 (h 3 6) < 2147483648) → q_Fr (fun k => 3 ≤ k ∧ k ≤ 5) h0 h → 2147483648 - q_w32 (h 3 6) < (m : Int) → q_R Γ q_K 155 121 (fun t w h' => (t = 1 ∧ (∃ z, w = ((0, z) : q_V)) ∧ q_Fr (fun k => 3 ≤ k ∧ k ≤ 5) h0 h')) (5, [(2, (0, u2)), (0, (2, Int.ofNat 3)), (1, (2, Int.ofNat o1))], [], q_hp q_K 155 h, [], 0, 0)   := by
  obtain ⟨fo10, fo11, fo12, fo13⟩ := q_fB ho1
  intro m
  induction m with
  | zero =>
    intro  h hinv hf hmu
    exact absurd hmu (by omega)
  | succ m ih =>
    intro  h hinv hf hmu
    refine r_aload_n c121_5 rfl rfl ?_
    refine r_geti c121_6 (by first | assumption | omega) (by decide) (by first | assumption | rfl) rfl rfl ?_
    refine r_aload_n c121_9 rfl rfl ?_
    refine r_geti c121_10 (by first | assumption | omega) (by decide) (by first | assumption | rfl) rfl rfl ?_
    refine r_ic_ge c121_13 rfl (by first | exact q_w32_id (by omega) (by omega) | exact q_w32w _ | exact rfl) (by first | exact q_w32_id (by omega) (by omega) | exact q_w32w _ | exact rfl) ?_ ?_
    · intro b1
      refine q_R.wk (ks := [2, 0, 1]) (lo' := [(2, _), (0, _), (1, _)]) rfl ?_
      exact hx43 (by repeat (first | exact q_Fr.rf | refine q_Fr.ud ?_ (by omega) (by first | assumption | rfl) rfl | refine q_Fr.udz ?_ (by omega) (by first | assumption | decide | omega) | refine q_Fr.tr ?_ (by assumption) (by intro k9 hk9; omega)))
    · intro b1
      refine r_aload_n c121_16 rfl rfl ?_
      refine r_aload_n c121_17 rfl rfl ?_
      refine r_geti c121_18 (by first | assumption | omega) (by decide) (by first | assumption | rfl) rfl rfl ?_
      refine r_vcG c121_21 (by first | assumption | omega) (by decide) (by first | assumption | rfl) rfl rfl rfl (k63 hG (q_Fr.bz (S := fun k => 3 ≤ k ∧ k ≤ 5) hZ (by repeat (first | exact q_Fr.rf | refine q_Fr.ud ?_ (by omega) (by first | assumption | rfl) rfl | refine q_Fr.udz ?_ (by omega) (by first | assumption | decide | omega) | refine q_Fr.tr ?_ (by assumption) (by intro k9 hk9; omega)))) (by first | assumption | exact q_hC (by assumption) | exact q_h1 (by assumption) | exact q_h3 (by assumption) | exact q_h5 (by assumption) | exact q_hG (by assumption) | exact q_hP | exact q_hB1 | exact q_hB2 | exact q_hT6 | exact q_hT15 | exact q_hT24)) ?_
      intro t2 w2 g2 p2
      obtain ⟨rfl, ⟨z2, rfl⟩, rfl⟩ := p2
      refine Or.inr (Or.inl ⟨rfl, ?_⟩)
      refine r_callG c121_24 (fun _ => rfl) rfl rfl rfl (k111 hG (q_Fr.bz (S := fun k => 3 ≤ k ∧ k ≤ 5) hZ (by repeat (first | exact q_Fr.rf | refine q_Fr.ud ?_ (by omega) (by first | assumption | rfl) rfl | refine q_Fr.udz ?_ (by omega) (by first | assumption | decide | omega) | refine q_Fr.tr ?_ (by assumption) (by intro k9 hk9; omega))))) ?_
      intro t3 w3 g3 p3
      obtain ⟨rfl, ⟨z3, rfl, hz3⟩, rfl⟩ := p3
      refine Or.inr (Or.inl ⟨rfl, ?_⟩)
      refine r_if_eq c121_27 rfl (by first | exact q_w32_id (by omega) (by omega) | exact q_w32w _ | exact rfl) ?_ ?_
      · intro b4
        refine q_R.wk (ks := [2, 0, 1]) (lo' := [(2, _), (0, _), (1, _)]) rfl ?_
        exact hx43 (by repeat (first | exact q_Fr.rf | refine q_Fr.ud ?_ (by omega) (by first | assumption | rfl) rfl | refine q_Fr.udz ?_ (by omega) (by first | assumption | decide | omega) | refine q_Fr.tr ?_ (by assumption) (by intro k9 hk9; omega)))
      · intro b4
        refine r_aload_n c121_30 rfl rfl ?_
        refine r_dup c121_31 rfl rfl ?_
        refine r_geti c121_32 (by first | assumption | omega) (by decide) (by first | assumption | rfl) rfl rfl ?_
        refine r_iconst c121_35 rfl ?_
        refine r_iadd c121_36 (by first | exact q_w32_id (by omega) (by omega) | exact q_w32w _ | exact rfl) rfl ?_
        refine r_puti c121_37 (by first | assumption | omega) (by decide) (by first | assumption | rfl) rfl rfl rfl ?_
        refine r_goto c121_40 ?_
        refine q_R.wk (ks := [2, 0, 1]) (lo' := [(2, _), (0, _), (1, _)]) rfl ?_
        exact ih (by first | omega | exact ⟨q_rg1 _, q_rg2 _⟩) (by repeat (first | exact q_Fr.rf | refine q_Fr.ud ?_ (by omega) (by first | assumption | rfl) rfl | refine q_Fr.udz ?_ (by omega) (by first | assumption | decide | omega) | refine q_Fr.tr ?_ (by assumption) (by intro k9 hk9; omega))) (by rw [q_ud_s, q_w32w, q_w32_sc (by omega)]; omega)

theorem l121_45 {Γ : q_Γ} (hG : q_GG Γ) {h0 : q_F} (hZ : q_Bz h0) {o1 : Nat} {u2 : Int} (ho1 : q_isB o1)
    (hx75 : ∀ {u3 : Int} {h : q_F}, q_Fr (fun k => 3 ≤ k ∧ k ≤ 5) h0 h → q_R Γ q_K 155 121 (fun t w h' => (t = 1 ∧ (∃ z, w = ((0, z) : q_V)) ∧ q_Fr (fun k => 3 ≤ k ∧ k ≤ 5) h0 h')) (75, [(3, (0, u3)), (2, (0, u2)), (0, (2, Int.ofNat 3)), (1, (2, Int.ofNat o1))], [], q_hp q_K 155 h, [], 0, 0))
    : ∀ (m : Nat) {u3 : Int} {h : q_F}, (-2147483648 ≤ u3 ∧ u3 < 2147483648) → q_Fr (fun k => 3 ≤ k ∧ k ≤ 5) h0 h → 2147483648 - u3 < (m : Int) → q_R Γ q_K 155 121 (fun t w h' => (t = 1 ∧ (∃ z, w = ((0, z) : q_V)) ∧ q_Fr (fun k => 3 ≤ k ∧ k ≤ 5) h0 h')) (45, [(3, (0, u3)), (2, (0, u2)), (0, (2, Int.ofNat 3)), (1, (2, Int.ofNat o1))], [], q_hp q_K 155 h, [], 0, 0)   := by
  obtain ⟨fo10, fo11, fo12, fo13⟩ := q_fB ho1
  intro m
  induction m with
  | zero =>
    intro u3 h hinv hf hmu
    exact absurd hmu (by omega)
  | succ m ih =>
    intro u3 h hinv hf hmu
    refine r_iload_n c121_45 rfl rfl ?_
    refine r_bipush c121_46 rfl ?_
    refine r_ic_ge c121_48 rfl (by first | exact q_w32_id (by omega) (by omega) | exact q_w32w _ | exact rfl) (show q_w32 (7) = 7 from rfl) ?_ ?_
    · intro b2
      refine q_R.wk (ks := [3, 2, 0, 1]) (lo' := [(3, _), (2, _), (0, _), (1, _)]) rfl ?_
      exact hx75 (by repeat (first | exact q_Fr.rf | refine q_Fr.ud ?_ (by omega) (by first | assumption | rfl) rfl | refine q_Fr.udz ?_ (by omega) (by first | assumption | decide | omega) | refine q_Fr.tr ?_ (by assumption) (by intro k9 hk9; omega)))
    · intro b2
      refine r_aload_n c121_51 rfl rfl ?_
      refine r_iload_n c121_52 rfl rfl ?_
      refine r_aload_n c121_53 rfl rfl ?_
      refine r_geti c121_54 (by first | assumption | omega) (by decide) (by first | assumption | rfl) rfl rfl ?_
      refine r_iload_n c121_57 rfl rfl ?_
      refine r_callG c121_58 (fun _ => rfl) rfl rfl rfl (k122 hG (q_Fr.bz (S := fun k => 3 ≤ k ∧ k ≤ 5) hZ (by repeat (first | exact q_Fr.rf | refine q_Fr.ud ?_ (by omega) (by first | assumption | rfl) rfl | refine q_Fr.udz ?_ (by omega) (by first | assumption | decide | omega) | refine q_Fr.tr ?_ (by assumption) (by intro k9 hk9; omega))))) ?_
      intro t3 w3 g3 p3
      obtain ⟨rfl, ⟨z3, rfl, hs3⟩, rfl⟩ := p3
      refine Or.inr (Or.inl ⟨rfl, ?_⟩)
      refine r_callG c121_61 (fun _ => rfl) rfl rfl rfl (k112 hG (q_Fr.bz (S := fun k => 3 ≤ k ∧ k ≤ 5) hZ (by repeat (first | exact q_Fr.rf | refine q_Fr.ud ?_ (by omega) (by first | assumption | rfl) rfl | refine q_Fr.udz ?_ (by omega) (by first | assumption | decide | omega) | refine q_Fr.tr ?_ (by assumption) (by intro k9 hk9; omega)))) (by first | assumption | exact q_hC (by assumption) | exact q_h1 (by assumption) | exact q_h3 (by assumption) | exact q_h5 (by assumption) | exact q_hG (by assumption) | exact q_hP | exact q_hB1 | exact q_hB2 | exact q_hT6 | exact q_hT15 | exact q_hT24) (by omega)) ?_
      intro t4 w4 g4 p4
      obtain ⟨rfl, ⟨z4, rfl, hz4⟩, rfl⟩ := p4
      refine Or.inr (Or.inl ⟨rfl, ?_⟩)
      refine r_if_eq c121_64 rfl (by first | exact q_w32_id (by omega) (by omega) | exact q_w32w _ | exact rfl) ?_ ?_
      · intro b5
        refine r_iinc c121_69 rfl (by first | exact q_w32_id (by omega) (by omega) | exact q_w32w _ | exact rfl) (lo' := [(3, _), (2, _), (0, _), (1, _)]) rfl rfl rfl ?_
        refine r_goto c121_72 ?_
        refine q_R.wk (ks := [3, 2, 0, 1]) (lo' := [(3, _), (2, _), (0, _), (1, _)]) rfl ?_
        exact ih (by first | omega | exact ⟨q_rg1 _, q_rg2 _⟩) (by repeat (first | exact q_Fr.rf | refine q_Fr.ud ?_ (by omega) (by first | assumption | rfl) rfl | refine q_Fr.udz ?_ (by omega) (by first | assumption | decide | omega) | refine q_Fr.tr ?_ (by assumption) (by intro k9 hk9; omega))) (by omega)
      · intro b5
        refine r_iload_n c121_67 rfl rfl ?_
        exact r_iret c121_68 ⟨rfl, rfl, rfl⟩ ⟨rfl, ⟨_, rfl⟩, (by repeat (first | exact q_Fr.rf | refine q_Fr.ud ?_ (by omega) (by first | assumption | rfl) rfl | refine q_Fr.udz ?_ (by omega) (by first | assumption | decide | omega) | refine q_Fr.tr ?_ (by assumption) (by intro k9 hk9; omega)))⟩

theorem k121 {Γ : q_Γ} (hG : q_GG Γ) {h : q_F} (hZ : q_Bz h) {o1 : Nat} (ho1 : q_isB o1) :
    q_M Γ q_K 155 121 [(2, Int.ofNat 3), (2, Int.ofNat o1)] h (fun t w h' => (t = 1 ∧ (∃ z, w = ((0, z) : q_V)) ∧ q_Fr (fun k => 3 ≤ k ∧ k ≤ 5) h h')) := by
  obtain ⟨fo10, fo11, fo12, fo13⟩ := q_fB ho1
  refine q_M.of (by decide) (Nat.le_of_ble_eq_true rfl) hG ?_
  refine r_aload_n c121_0 rfl rfl ?_
  refine r_geti c121_1 (by first | assumption | omega) (by decide) (by first | assumption | rfl) rfl rfl ?_
  refine r_istore_n c121_4 (lo' := [(2, _), (0, _), (1, _)]) rfl rfl rfl ?_
  refine q_R.wk (ks := [2, 0, 1]) (lo' := [(2, _), (0, _), (1, _)]) rfl ?_
  refine l121_5 (o1 := o1) hG hZ ho1 ?_ 4294967298 (by first | omega | exact ⟨q_rg1 _, q_rg2 _⟩) (by repeat (first | exact q_Fr.rf | refine q_Fr.ud ?_ (by omega) (by first | assumption | rfl) rfl | refine q_Fr.udz ?_ (by omega) (by first | assumption | decide | omega) | refine q_Fr.tr ?_ (by assumption) (by intro k9 hk9; omega))) (q_mu (by first | omega | exact ⟨q_rg1 _, q_rg2 _⟩))
  · intro  g1 f1
    refine r_iconst c121_43 rfl ?_
    refine r_istore_n c121_44 (lo' := [(3, _), (2, _), (0, _), (1, _)]) rfl rfl rfl ?_
    refine q_R.wk (ks := [3, 2, 0, 1]) (lo' := [(3, _), (2, _), (0, _), (1, _)]) rfl ?_
    refine l121_45 (o1 := o1) hG hZ ho1 ?_ 4294967298 (by first | omega | exact ⟨q_rg1 _, q_rg2 _⟩) (by repeat (first | exact q_Fr.rf | refine q_Fr.ud ?_ (by omega) (by first | assumption | rfl) rfl | refine q_Fr.udz ?_ (by omega) (by first | assumption | decide | omega) | refine q_Fr.tr ?_ (by assumption) (by intro k9 hk9; omega))) (q_mu (by first | omega | exact ⟨q_rg1 _, q_rg2 _⟩))
    · intro u3_2 g2 f2
      refine r_iconst c121_75 rfl ?_
      exact r_iret c121_76 ⟨rfl, rfl, rfl⟩ ⟨rfl, ⟨_, rfl⟩, (by repeat (first | exact q_Fr.rf | refine q_Fr.ud ?_ (by omega) (by first | assumption | rfl) rfl | refine q_Fr.udz ?_ (by omega) (by first | assumption | decide | omega) | refine q_Fr.tr ?_ (by assumption) (by intro k9 hk9; omega)))⟩
theorem c120_0 : q_cat 120 0 (.aload_n 0) 1 0 0 (0) := ⟨rfl, rfl⟩
theorem c120_1 : q_cat 120 1 (.getfield 54) 3 5 6 (0) := ⟨rfl, rfl⟩
theorem c120_4 : q_cat 120 4 (.istore_n 2) 1 2 0 (0) := ⟨rfl, rfl⟩
theorem c120_5 : q_cat 120 5 (.aload_n 0) 1 0 0 (0) := ⟨rfl, rfl⟩
theorem c120_6 : q_cat 120 6 (.aload_n 1) 1 1 0 (0) := ⟨rfl, rfl⟩
theorem c120_7 : q_cat 120 7 (.invokevirtual 70) 3 121 0 (0) := ⟨rfl, rfl⟩
theorem c120_10 : q_cat 120 10 (.istore_n 3) 1 3 0 (0) := ⟨rfl, rfl⟩
theorem c120_11 : q_cat 120 11 (.iload_n 3) 1 3 0 (0) := ⟨rfl, rfl⟩
theorem c120_12 : q_cat 120 12 (.ifCond .ge 10) 3 22 0 (0) := ⟨rfl, rfl⟩
theorem c120_15 : q_cat 120 15 (.aload_n 0) 1 0 0 (0) := ⟨rfl, rfl⟩
theorem c120_16 : q_cat 120 16 (.iconst 1) 1 0 0 (0) := ⟨rfl, rfl⟩
theorem c120_17 : q_cat 120 17 (.iload_n 2) 1 2 0 (0) := ⟨rfl, rfl⟩
theorem c120_18 : q_cat 120 18 (.invokevirtual 74) 3 103 0 (0) := ⟨rfl, rfl⟩
theorem c120_21 : q_cat 120 21 (.return_) 1 0 0 (0) := ⟨rfl, rfl⟩
theorem c120_22 : q_cat 120 22 (.aload_n 0) 1 0 0 (0) := ⟨rfl, rfl⟩
theorem c120_23 : q_cat 120 23 (.iload_n 3) 1 3 0 (0) := ⟨rfl, rfl⟩
theorem c120_24 : q_cat 120 24 (.invokevirtual 78) 3 107 0 (0) := ⟨rfl, rfl⟩
theorem c120_27 : q_cat 120 27 (.ifCond .ne 16) 3 43 0 (0) := ⟨rfl, rfl⟩
theorem c120_30 : q_cat 120 30 (.iload_n 3) 1 3 0 (0) := ⟨rfl, rfl⟩
theorem c120_31 : q_cat 120 31 (.iconst 3) 1 0 0 (0) := ⟨rfl, rfl⟩
theorem c120_32 : q_cat 120 32 (.if_icmp .ge 18) 3 50 0 (0) := ⟨rfl, rfl⟩
theorem c120_35 : q_cat 120 35 (.aload_n 0) 1 0 0 (0) := ⟨rfl, rfl⟩
theorem c120_36 : q_cat 120 36 (.iconst 3) 1 0 0 (0) := ⟨rfl, rfl⟩
theorem c120_37 : q_cat 120 37 (.invokevirtual 78) 3 107 0 (0) := ⟨rfl, rfl⟩
theorem c120_40 : q_cat 120 40 (.ifCond .eq 10) 3 50 0 (0) := ⟨rfl, rfl⟩
theorem c120_43 : q_cat 120 43 (.aload_n 0) 1 0 0 (0) := ⟨rfl, rfl⟩
theorem c120_44 : q_cat 120 44 (.iconst 3) 1 0 0 (0) := ⟨rfl, rfl⟩
theorem c120_45 : q_cat 120 45 (.iload_n 2) 1 2 0 (0) := ⟨rfl, rfl⟩
theorem c120_46 : q_cat 120 46 (.invokevirtual 74) 3 103 0 (0) := ⟨rfl, rfl⟩
theorem c120_49 : q_cat 120 49 (.return_) 1 0 0 (0) := ⟨rfl, rfl⟩
theorem c120_50 : q_cat 120 50 (.aload_n 0) 1 0 0 (0) := ⟨rfl, rfl⟩
theorem c120_51 : q_cat 120 51 (.dup) 1 0 0 (0) := ⟨rfl, rfl⟩
theorem c120_52 : q_cat 120 52 (.getfield 29) 3 5 3 (0) := ⟨rfl, rfl⟩
theorem c120_55 : q_cat 120 55 (.iconst 1) 1 0 0 (0) := ⟨rfl, rfl⟩
theorem c120_56 : q_cat 120 56 (.iload_n 3) 1 3 0 (0) := ⟨rfl, rfl⟩
theorem c120_57 : q_cat 120 57 (.ishl) 1 0 0 (0) := ⟨rfl, rfl⟩
theorem c120_58 : q_cat 120 58 (.ior) 1 0 0 (0) := ⟨rfl, rfl⟩
theorem c120_59 : q_cat 120 59 (.putfield 29) 3 5 3 (0) := ⟨rfl, rfl⟩
theorem c120_62 : q_cat 120 62 (.iload_n 3) 1 3 0 (0) := ⟨rfl, rfl⟩
theorem c120_63 : q_cat 120 63 (.invokestatic 81) 3 116 1 (0) := ⟨rfl, rfl⟩
theorem c120_66 : q_cat 120 66 (.istore 4) 2 4 0 (0) := ⟨rfl, rfl⟩
theorem c120_68 : q_cat 120 68 (.iconst 0) 1 0 0 (0) := ⟨rfl, rfl⟩
theorem c120_69 : q_cat 120 69 (.istore 5) 2 5 0 (0) := ⟨rfl, rfl⟩
theorem c120_71 : q_cat 120 71 (.iload 5) 2 5 0 (0) := ⟨rfl, rfl⟩
theorem c120_73 : q_cat 120 73 (.iload 4) 2 4 0 (0) := ⟨rfl, rfl⟩
theorem c120_75 : q_cat 120 75 (.if_icmp .ge 24) 3 99 0 (0) := ⟨rfl, rfl⟩
theorem c120_78 : q_cat 120 78 (.aload_n 0) 1 0 0 (0) := ⟨rfl, rfl⟩
theorem c120_79 : q_cat 120 79 (.getfield 18) 3 5 4 (0) := ⟨rfl, rfl⟩
theorem c120_82 : q_cat 120 82 (.ifCond .ne 17) 3 99 0 (0) := ⟨rfl, rfl⟩
theorem c120_85 : q_cat 120 85 (.aload_n 0) 1 0 0 (0) := ⟨rfl, rfl⟩
theorem c120_86 : q_cat 120 86 (.aload_n 1) 1 1 0 (0) := ⟨rfl, rfl⟩
theorem c120_87 : q_cat 120 87 (.iload_n 3) 1 3 0 (0) := ⟨rfl, rfl⟩
theorem c120_88 : q_cat 120 88 (.iload 5) 2 5 0 (0) := ⟨rfl, rfl⟩
theorem c120_90 : q_cat 120 90 (.invokevirtual 84) 3 118 0 (0) := ⟨rfl, rfl⟩
theorem c120_93 : q_cat 120 93 (.iinc 5 1) 3 5 0 (0) := ⟨rfl, rfl⟩
theorem c120_96 : q_cat 120 96 (.goto (-25)) 3 71 0 (0) := ⟨rfl, rfl⟩
theorem c120_99 : q_cat 120 99 (.aload_n 0) 1 0 0 (0) := ⟨rfl, rfl⟩
theorem c120_100 : q_cat 120 100 (.getfield 18) 3 5 4 (0) := ⟨rfl, rfl⟩
theorem c120_103 : q_cat 120 103 (.ifCond .ne 8) 3 111 0 (0) := ⟨rfl, rfl⟩
theorem c120_106 : q_cat 120 106 (.aload_n 0) 1 0 0 (0) := ⟨rfl, rfl⟩
theorem c120_107 : q_cat 120 107 (.aload_n 1) 1 1 0 (0) := ⟨rfl, rfl⟩
theorem c120_108 : q_cat 120 108 (.invokevirtual 88) 3 119 0 (0) := ⟨rfl, rfl⟩
theorem c120_111 : q_cat 120 111 (.return_) 1 0 0 (0) := ⟨rfl, rfl⟩
theorem l120_71 {Γ : q_Γ} (hG : q_GG Γ) {h0 : q_F} (hZ : q_Bz h0) {o1 : Nat} {u4 : Int} {u3 : Int} {u2 : Int} (ho1 : q_isB o1)
    (hx99 : ∀ {u5 : Int} {h : q_F}, q_Fr (fun k => 3 ≤ k ∧ k ≤ 5) h0 h → q_R Γ q_K 155 120 (fun t w h' => (t = 0 ∧ q_Fr (fun k => 3 ≤ k ∧ k ≤ 5) h0 h')) (99, [(5, (0, u5)), (4, (0, u4)), (3, (0, u3)), (2, (0, u2)), (0, (2, Int.ofNat 3)), (1, (2, Int.ofNat o1))], [], q_hp q_K 155 h, [], 0, 0))
    : ∀ (m : Nat) {u5 : Int} {h : q_F}, (-2147483648 ≤ u5 ∧ u5 < 2147483648) → q_Fr (fun k => 3 ≤ k ∧ k ≤ 5) h0 h → 2147483648 - u5 < (m : Int) → q_R Γ q_K 155 120 (fun t w h' => (t = 0 ∧ q_Fr (fun k => 3 ≤ k ∧ k ≤ 5) h0 h')) (71, [(5, (0, u5)), (4, (0, u4)), (3, (0, u3)), (2, (0, u2)), (0, (2, Int.ofNat 3)), (1, (2, Int.ofNat o1))], [], q_hp q_K 155 h, [], 0, 0)   := by
  obtain ⟨fo10, fo11, fo12, fo13⟩ := q_fB ho1
  intro m
  induction m with
  | zero =>
    intro u5 h hinv hf hmu
    exact absurd hmu (by omega)
  | succ m ih =>
    intro u5 h hinv hf hmu
    refine r_iload c120_71 rfl rfl ?_
    refine r_iload c120_73 rfl rfl ?_
    refine r_ic_ge c120_75 rfl (by first | exact q_w32_id (by omega) (by omega) | exact q_w32w _ | exact rfl) (by first | exact q_w32_id (by omega) (by omega) | exact q_w32w _ | exact rfl) ?_ ?_
    · intro b8
      refine q_R.wk (ks := [5, 4, 3, 2, 0, 1]) (lo' := [(5, _), (4, _), (3, _), (2, _), (0, _), (1, _)]) rfl ?_
      exact hx99 (by repeat (first | exact q_Fr.rf | refine q_Fr.ud ?_ (by omega) (by first | assumption | rfl) rfl | refine q_Fr.udz ?_ (by omega) (by first | assumption | decide | omega) | refine q_Fr.tr ?_ (by assumption) (by intro k9 hk9; omega)))
    · intro b8
      refine r_aload_n c120_78 rfl rfl ?_
      refine r_geti c120_79 (by first | assumption | omega) (by decide) (by first | assumption | rfl) rfl rfl ?_
      refine r_if_ne c120_82 rfl (by first | exact q_w32_id (by omega) (by omega) | exact q_w32w _ | exact rfl) ?_ ?_
      · intro b9
        refine q_R.wk (ks := [5, 4, 3, 2, 0, 1]) (lo' := [(5, _), (4, _), (3, _), (2, _), (0, _), (1, _)]) rfl ?_
        exact hx99 (by repeat (first | exact q_Fr.rf | refine q_Fr.ud ?_ (by omega) (by first | assumption | rfl) rfl | refine q_Fr.udz ?_ (by omega) (by first | assumption | decide | omega) | refine q_Fr.tr ?_ (by assumption) (by intro k9 hk9; omega)))
      · intro b9
        refine r_aload_n c120_85 rfl rfl ?_
        refine r_aload_n c120_86 rfl rfl ?_
        refine r_iload_n c120_87 rfl rfl ?_
        refine r_iload c120_88 rfl rfl ?_
        refine r_vcG c120_90 (by first | assumption | omega) (by decide) (by first | assumption | rfl) rfl rfl rfl (k118 hG (q_Fr.bz (S := fun k => 3 ≤ k ∧ k ≤ 5) hZ (by repeat (first | exact q_Fr.rf | refine q_Fr.ud ?_ (by omega) (by first | assumption | rfl) rfl | refine q_Fr.udz ?_ (by omega) (by first | assumption | decide | omega) | refine q_Fr.tr ?_ (by assumption) (by intro k9 hk9; omega)))) (by first | assumption | exact q_hC (by assumption) | exact q_h1 (by assumption) | exact q_h3 (by assumption) | exact q_h5 (by assumption) | exact q_hG (by assumption) | exact q_hP | exact q_hB1 | exact q_hB2 | exact q_hT6 | exact q_hT15 | exact q_hT24)) ?_
        intro t10 w10 g10 p10
        obtain ⟨rfl, e10⟩ := p10
        refine Or.inl ⟨rfl, ?_⟩
        refine r_iinc c120_93 rfl (by first | exact q_w32_id (by omega) (by omega) | exact q_w32w _ | exact rfl) (lo' := [(5, _), (4, _), (3, _), (2, _), (0, _), (1, _)]) rfl rfl rfl ?_
        refine r_goto c120_96 ?_
        refine q_R.wk (ks := [5, 4, 3, 2, 0, 1]) (lo' := [(5, _), (4, _), (3, _), (2, _), (0, _), (1, _)]) rfl ?_
        exact ih (by first | omega | exact ⟨q_rg1 _, q_rg2 _⟩) (by repeat (first | exact q_Fr.rf | refine q_Fr.ud ?_ (by omega) (by first | assumption | rfl) rfl | refine q_Fr.udz ?_ (by omega) (by first | assumption | decide | omega) | refine q_Fr.tr ?_ (by assumption) (by intro k9 hk9; omega))) (by omega)

theorem k120 {Γ : q_Γ} (hG : q_GG Γ) {h : q_F} (hZ : q_Bz h) {o1 : Nat} (ho1 : q_isB o1) :
    q_M Γ q_K 155 120 [(2, Int.ofNat 3), (2, Int.ofNat o1)] h (fun t w h' => (t = 0 ∧ q_Fr (fun k => 3 ≤ k ∧ k ≤ 5) h h')) := by
  obtain ⟨fo10, fo11, fo12, fo13⟩ := q_fB ho1
  refine q_M.of (by decide) (Nat.le_of_ble_eq_true rfl) hG ?_
  refine r_aload_n c120_0 rfl rfl ?_
  refine r_geti c120_1 (by first | assumption | omega) (by decide) (by first | assumption | rfl) rfl rfl ?_
  refine r_istore_n c120_4 (lo' := [(2, _), (0, _), (1, _)]) rfl rfl rfl ?_
  refine r_aload_n c120_5 rfl rfl ?_
  refine r_aload_n c120_6 rfl rfl ?_
  refine r_vcG c120_7 (by first | assumption | omega) (by decide) (by first | assumption | rfl) rfl rfl rfl (k121 hG (q_Fr.bz (S := fun k => 3 ≤ k ∧ k ≤ 5) hZ (by repeat (first | exact q_Fr.rf | refine q_Fr.ud ?_ (by omega) (by first | assumption | rfl) rfl | refine q_Fr.udz ?_ (by omega) (by first | assumption | decide | omega) | refine q_Fr.tr ?_ (by assumption) (by intro k9 hk9; omega)))) (by first | assumption | exact q_hC (by assumption) | exact q_h1 (by assumption) | exact q_h3 (by assumption) | exact q_h5 (by assumption) | exact q_hG (by assumption) | exact q_hP | exact q_hB1 | exact q_hB2 | exact q_hT6 | exact q_hT15 | exact q_hT24)) ?_
  intro t1 w1 g1 p1
  obtain ⟨rfl, ⟨z1, rfl⟩, e1⟩ := p1
  refine Or.inr (Or.inl ⟨rfl, ?_⟩)
  refine r_istore_n c120_10 (lo' := [(3, _), (2, _), (0, _), (1, _)]) rfl rfl rfl ?_
  refine r_iload_n c120_11 rfl rfl ?_
  refine r_if_ge c120_12 rfl (by first | exact q_w32_id (by omega) (by omega) | exact q_w32w _ | exact rfl) ?_ ?_
  · intro b2
    refine r_aload_n c120_22 rfl rfl ?_
    refine r_iload_n c120_23 rfl rfl ?_
    refine r_vcG c120_24 (by first | assumption | omega) (by decide) (by first | assumption | rfl) rfl rfl rfl (k107 hG (q_Fr.bz (S := fun k => 3 ≤ k ∧ k ≤ 5) hZ (by repeat (first | exact q_Fr.rf | refine q_Fr.ud ?_ (by omega) (by first | assumption | rfl) rfl | refine q_Fr.udz ?_ (by omega) (by first | assumption | decide | omega) | refine q_Fr.tr ?_ (by assumption) (by intro k9 hk9; omega))))) ?_
    intro t3 w3 g3 p3
    obtain ⟨rfl, ⟨z3, rfl, hz3⟩, rfl⟩ := p3
    refine Or.inr (Or.inl ⟨rfl, ?_⟩)
    refine r_if_ne c120_27 rfl (by first | exact q_w32_id (by omega) (by omega) | exact q_w32w _ | exact rfl) ?_ ?_
    · intro b4
      refine r_aload_n c120_43 rfl rfl ?_
      refine r_iconst c120_44 rfl ?_
      refine r_iload_n c120_45 rfl rfl ?_
      refine r_vcG c120_46 (by first | assumption | omega) (by decide) (by first | assumption | rfl) rfl rfl rfl (k103 hG (q_Fr.bz (S := fun k => 3 ≤ k ∧ k ≤ 5) hZ (by repeat (first | exact q_Fr.rf | refine q_Fr.ud ?_ (by omega) (by first | assumption | rfl) rfl | refine q_Fr.udz ?_ (by omega) (by first | assumption | decide | omega) | refine q_Fr.tr ?_ (by assumption) (by intro k9 hk9; omega))))) ?_
      intro t5 w5 g5 p5
      obtain ⟨rfl, e5⟩ := p5
      refine Or.inl ⟨rfl, ?_⟩
      exact r_vret c120_49 ⟨rfl, rfl, rfl⟩ ⟨rfl, (by repeat (first | exact q_Fr.rf | refine q_Fr.ud ?_ (by omega) (by first | assumption | rfl) rfl | refine q_Fr.udz ?_ (by omega) (by first | assumption | decide | omega) | refine q_Fr.tr ?_ (by assumption) (by intro k9 hk9; omega)))⟩
    · intro b4
      refine r_iload_n c120_30 rfl rfl ?_
      refine r_iconst c120_31 rfl ?_
      refine r_ic_ge c120_32 rfl (by first | exact q_w32_id (by omega) (by omega) | exact q_w32w _ | exact rfl) (show q_w32 (3) = 3 from rfl) ?_ ?_
      · intro b6
        refine r_aload_n c120_50 rfl rfl ?_
        refine r_dup c120_51 rfl rfl ?_
        refine r_geti c120_52 (by first | assumption | omega) (by decide) (by first | assumption | rfl) rfl rfl ?_
        refine r_iconst c120_55 rfl ?_
        refine r_iload_n c120_56 rfl rfl ?_
        refine r_ishl c120_57 rfl rfl ?_
        refine r_ior c120_58 rfl rfl ?_
        refine r_puti c120_59 (by first | assumption | omega) (by decide) (by first | assumption | rfl) rfl rfl rfl ?_
        refine r_iload_n c120_62 rfl rfl ?_
        refine r_callG c120_63 (fun _ => rfl) rfl rfl rfl (k116 hG (q_Fr.bz (S := fun k => 3 ≤ k ∧ k ≤ 5) hZ (by repeat (first | exact q_Fr.rf | refine q_Fr.ud ?_ (by omega) (by first | assumption | rfl) rfl | refine q_Fr.udz ?_ (by omega) (by first | assumption | decide | omega) | refine q_Fr.tr ?_ (by assumption) (by intro k9 hk9; omega))))) ?_
        intro t7 w7 g7 p7
        obtain ⟨rfl, ⟨z7, rfl⟩, rfl⟩ := p7
        refine Or.inr (Or.inl ⟨rfl, ?_⟩)
        refine r_istore c120_66 (lo' := [(4, _), (3, _), (2, _), (0, _), (1, _)]) rfl rfl rfl ?_
        refine r_iconst c120_68 rfl ?_
        refine r_istore c120_69 (lo' := [(5, _), (4, _), (3, _), (2, _), (0, _), (1, _)]) rfl rfl rfl ?_
        refine q_R.wk (ks := [5, 4, 3, 2, 0, 1]) (lo' := [(5, _), (4, _), (3, _), (2, _), (0, _), (1, _)]) rfl ?_
        refine l120_71 (o1 := o1) hG hZ ho1 ?_ 4294967298 (by first | omega | exact ⟨q_rg1 _, q_rg2 _⟩) (by repeat (first | exact q_Fr.rf | refine q_Fr.ud ?_ (by omega) (by first | assumption | rfl) rfl | refine q_Fr.udz ?_ (by omega) (by first | assumption | decide | omega) | refine q_Fr.tr ?_ (by assumption) (by intro k9 hk9; omega))) (q_mu (by first | omega | exact ⟨q_rg1 _, q_rg2 _⟩))
        · intro u5_8 g8 f8
          refine r_aload_n c120_99 rfl rfl ?_
          refine r_geti c120_100 (by first | assumption | omega) (by decide) (by first | assumption | rfl) rfl rfl ?_
          refine r_if_ne c120_103 rfl (by first | exact q_w32_id (by omega) (by omega) | exact q_w32w _ | exact rfl) ?_ ?_
          · intro b9
            exact r_vret c120_111 ⟨rfl, rfl, rfl⟩ ⟨rfl, (by repeat (first | exact q_Fr.rf | refine q_Fr.ud ?_ (by omega) (by first | assumption | rfl) rfl | refine q_Fr.udz ?_ (by omega) (by first | assumption | decide | omega) | refine q_Fr.tr ?_ (by assumption) (by intro k9 hk9; omega)))⟩
          · intro b9
            refine r_aload_n c120_106 rfl rfl ?_
            refine r_aload_n c120_107 rfl rfl ?_
            refine r_vcG c120_108 (by first | assumption | omega) (by decide) (by first | assumption | rfl) rfl rfl rfl (k119 hG (q_Fr.bz (S := fun k => 3 ≤ k ∧ k ≤ 5) hZ (by repeat (first | exact q_Fr.rf | refine q_Fr.ud ?_ (by omega) (by first | assumption | rfl) rfl | refine q_Fr.udz ?_ (by omega) (by first | assumption | decide | omega) | refine q_Fr.tr ?_ (by assumption) (by intro k9 hk9; omega)))) (by first | assumption | exact q_hC (by assumption) | exact q_h1 (by assumption) | exact q_h3 (by assumption) | exact q_h5 (by assumption) | exact q_hG (by assumption) | exact q_hP | exact q_hB1 | exact q_hB2 | exact q_hT6 | exact q_hT15 | exact q_hT24)) ?_
            intro t10 w10 g10 p10
            obtain ⟨rfl, e10⟩ := p10
            refine Or.inl ⟨rfl, ?_⟩
            exact r_vret c120_111 ⟨rfl, rfl, rfl⟩ ⟨rfl, (by repeat (first | exact q_Fr.rf | refine q_Fr.ud ?_ (by omega) (by first | assumption | rfl) rfl | refine q_Fr.udz ?_ (by omega) (by first | assumption | decide | omega) | refine q_Fr.tr ?_ (by assumption) (by intro k9 hk9; omega)))⟩
      · intro b6
        refine r_aload_n c120_35 rfl rfl ?_
        refine r_iconst c120_36 rfl ?_
        refine r_vcG c120_37 (by first | assumption | omega) (by decide) (by first | assumption | rfl) rfl rfl rfl (k107 hG (q_Fr.bz (S := fun k => 3 ≤ k ∧ k ≤ 5) hZ (by repeat (first | exact q_Fr.rf | refine q_Fr.ud ?_ (by omega) (by first | assumption | rfl) rfl | refine q_Fr.udz ?_ (by omega) (by first | assumption | decide | omega) | refine q_Fr.tr ?_ (by assumption) (by intro k9 hk9; omega))))) ?_
        intro t11 w11 g11 p11
        obtain ⟨rfl, ⟨z11, rfl, hz11⟩, rfl⟩ := p11
        refine Or.inr (Or.inl ⟨rfl, ?_⟩)
        refine r_if_eq c120_40 rfl (by first | exact q_w32_id (by omega) (by omega) | exact q_w32w _ | exact rfl) ?_ ?_
        · intro b12
          refine r_aload_n c120_50 rfl rfl ?_
          refine r_dup c120_51 rfl rfl ?_
          refine r_geti c120_52 (by first | assumption | omega) (by decide) (by first | assumption | rfl) rfl rfl ?_
          refine r_iconst c120_55 rfl ?_
          refine r_iload_n c120_56 rfl rfl ?_
          refine r_ishl c120_57 rfl rfl ?_
          refine r_ior c120_58 rfl rfl ?_
          refine r_puti c120_59 (by first | assumption | omega) (by decide) (by first | assumption | rfl) rfl rfl rfl ?_
          refine r_iload_n c120_62 rfl rfl ?_
          refine r_callG c120_63 (fun _ => rfl) rfl rfl rfl (k116 hG (q_Fr.bz (S := fun k => 3 ≤ k ∧ k ≤ 5) hZ (by repeat (first | exact q_Fr.rf | refine q_Fr.ud ?_ (by omega) (by first | assumption | rfl) rfl | refine q_Fr.udz ?_ (by omega) (by first | assumption | decide | omega) | refine q_Fr.tr ?_ (by assumption) (by intro k9 hk9; omega))))) ?_
          intro t13 w13 g13 p13
          obtain ⟨rfl, ⟨z13, rfl⟩, rfl⟩ := p13
          refine Or.inr (Or.inl ⟨rfl, ?_⟩)
          refine r_istore c120_66 (lo' := [(4, _), (3, _), (2, _), (0, _), (1, _)]) rfl rfl rfl ?_
          refine r_iconst c120_68 rfl ?_
          refine r_istore c120_69 (lo' := [(5, _), (4, _), (3, _), (2, _), (0, _), (1, _)]) rfl rfl rfl ?_
          refine q_R.wk (ks := [5, 4, 3, 2, 0, 1]) (lo' := [(5, _), (4, _), (3, _), (2, _), (0, _), (1, _)]) rfl ?_
          refine l120_71 (o1 := o1) hG hZ ho1 ?_ 4294967298 (by first | omega | exact ⟨q_rg1 _, q_rg2 _⟩) (by repeat (first | exact q_Fr.rf | refine q_Fr.ud ?_ (by omega) (by first | assumption | rfl) rfl | refine q_Fr.udz ?_ (by omega) (by first | assumption | decide | omega) | refine q_Fr.tr ?_ (by assumption) (by intro k9 hk9; omega))) (q_mu (by first | omega | exact ⟨q_rg1 _, q_rg2 _⟩))
          · intro u5_14 g14 f14
            refine r_aload_n c120_99 rfl rfl ?_
            refine r_geti c120_100 (by first | assumption | omega) (by decide) (by first | assumption | rfl) rfl rfl ?_
            refine r_if_ne c120_103 rfl (by first | exact q_w32_id (by omega) (by omega) | exact q_w32w _ | exact rfl) ?_ ?_
            · intro b15
              exact r_vret c120_111 ⟨rfl, rfl, rfl⟩ ⟨rfl, (by repeat (first | exact q_Fr.rf | refine q_Fr.ud ?_ (by omega) (by first | assumption | rfl) rfl | refine q_Fr.udz ?_ (by omega) (by first | assumption | decide | omega) | refine q_Fr.tr ?_ (by assumption) (by intro k9 hk9; omega)))⟩
            · intro b15
              refine r_aload_n c120_106 rfl rfl ?_
              refine r_aload_n c120_107 rfl rfl ?_
              refine r_vcG c120_108 (by first | assumption | omega) (by decide) (by first | assumption | rfl) rfl rfl rfl (k119 hG (q_Fr.bz (S := fun k => 3 ≤ k ∧ k ≤ 5) hZ (by repeat (first | exact q_Fr.rf | refine q_Fr.ud ?_ (by omega) (by first | assumption | rfl) rfl | refine q_Fr.udz ?_ (by omega) (by first | assumption | decide | omega) | refine q_Fr.tr ?_ (by assumption) (by intro k9 hk9; omega)))) (by first | assumption | exact q_hC (by assumption) | exact q_h1 (by assumption) | exact q_h3 (by assumption) | exact q_h5 (by assumption) | exact q_hG (by assumption) | exact q_hP | exact q_hB1 | exact q_hB2 | exact q_hT6 | exact q_hT15 | exact q_hT24)) ?_
              intro t16 w16 g16 p16
              obtain ⟨rfl, e16⟩ := p16
              refine Or.inl ⟨rfl, ?_⟩
              exact r_vret c120_111 ⟨rfl, rfl, rfl⟩ ⟨rfl, (by repeat (first | exact q_Fr.rf | refine q_Fr.ud ?_ (by omega) (by first | assumption | rfl) rfl | refine q_Fr.udz ?_ (by omega) (by first | assumption | decide | omega) | refine q_Fr.tr ?_ (by assumption) (by intro k9 hk9; omega)))⟩
        · intro b12
          refine r_aload_n c120_43 rfl rfl ?_
          refine r_iconst c120_44 rfl ?_
          refine r_iload_n c120_45 rfl rfl ?_
          refine r_vcG c120_46 (by first | assumption | omega) (by decide) (by first | assumption | rfl) rfl rfl rfl (k103 hG (q_Fr.bz (S := fun k => 3 ≤ k ∧ k ≤ 5) hZ (by repeat (first | exact q_Fr.rf | refine q_Fr.ud ?_ (by omega) (by first | assumption | rfl) rfl | refine q_Fr.udz ?_ (by omega) (by first | assumption | decide | omega) | refine q_Fr.tr ?_ (by assumption) (by intro k9 hk9; omega))))) ?_
          intro t17 w17 g17 p17
          obtain ⟨rfl, e17⟩ := p17
          refine Or.inl ⟨rfl, ?_⟩
          exact r_vret c120_49 ⟨rfl, rfl, rfl⟩ ⟨rfl, (by repeat (first | exact q_Fr.rf | refine q_Fr.ud ?_ (by omega) (by first | assumption | rfl) rfl | refine q_Fr.udz ?_ (by omega) (by first | assumption | decide | omega) | refine q_Fr.tr ?_ (by assumption) (by intro k9 hk9; omega)))⟩
  · intro b2
    refine r_aload_n c120_15 rfl rfl ?_
    refine r_iconst c120_16 rfl ?_
    refine r_iload_n c120_17 rfl rfl ?_
    refine r_vcG c120_18 (by first | assumption | omega) (by decide) (by first | assumption | rfl) rfl rfl rfl (k103 hG (q_Fr.bz (S := fun k => 3 ≤ k ∧ k ≤ 5) hZ (by repeat (first | exact q_Fr.rf | refine q_Fr.ud ?_ (by omega) (by first | assumption | rfl) rfl | refine q_Fr.udz ?_ (by omega) (by first | assumption | decide | omega) | refine q_Fr.tr ?_ (by assumption) (by intro k9 hk9; omega))))) ?_
    intro t18 w18 g18 p18
    obtain ⟨rfl, e18⟩ := p18
    refine Or.inl ⟨rfl, ?_⟩
    exact r_vret c120_21 ⟨rfl, rfl, rfl⟩ ⟨rfl, (by repeat (first | exact q_Fr.rf | refine q_Fr.ud ?_ (by omega) (by first | assumption | rfl) rfl | refine q_Fr.udz ?_ (by omega) (by first | assumption | decide | omega) | refine q_Fr.tr ?_ (by assumption) (by intro k9 hk9; omega)))⟩
theorem c117_0 : q_cat 117 0 (.aload_n 0) 1 0 0 (0) := ⟨rfl, rfl⟩
theorem c117_1 : q_cat 117 1 (.invokevirtual 32) 3 105 0 (0) := ⟨rfl, rfl⟩
theorem c117_4 : q_cat 117 4 (.iconst 0) 1 0 0 (0) := ⟨rfl, rfl⟩
theorem c117_5 : q_cat 117 5 (.istore_n 2) 1 2 0 (0) := ⟨rfl, rfl⟩
theorem c117_6 : q_cat 117 6 (.iload_n 2) 1 2 0 (0) := ⟨rfl, rfl⟩
theorem c117_7 : q_cat 117 7 (.sipush 600) 3 0 0 (0) := ⟨rfl, rfl⟩
theorem c117_10 : q_cat 117 10 (.if_icmp .ge 29) 3 39 0 (0) := ⟨rfl, rfl⟩
theorem c117_13 : q_cat 117 13 (.aload_n 0) 1 0 0 (0) := ⟨rfl, rfl⟩
theorem c117_14 : q_cat 117 14 (.getfield 18) 3 5 4 (0) := ⟨rfl, rfl⟩
theorem c117_17 : q_cat 117 17 (.ifCond .ne 22) 3 39 0 (0) := ⟨rfl, rfl⟩
theorem c117_20 : q_cat 117 20 (.aload_n 0) 1 0 0 (0) := ⟨rfl, rfl⟩
theorem c117_21 : q_cat 117 21 (.aload_n 1) 1 1 0 (0) := ⟨rfl, rfl⟩
theorem c117_22 : q_cat 117 22 (.invokevirtual 35) 3 104 0 (0) := ⟨rfl, rfl⟩
theorem c117_25 : q_cat 117 25 (.ifCond .eq 14) 3 39 0 (0) := ⟨rfl, rfl⟩
theorem c117_28 : q_cat 117 28 (.aload_n 0) 1 0 0 (0) := ⟨rfl, rfl⟩
theorem c117_29 : q_cat 117 29 (.aload_n 1) 1 1 0 (0) := ⟨rfl, rfl⟩
theorem c117_30 : q_cat 117 30 (.invokevirtual 39) 3 120 0 (0) := ⟨rfl, rfl⟩
theorem c117_33 : q_cat 117 33 (.iinc 2 1) 3 2 0 (0) := ⟨rfl, rfl⟩
theorem c117_36 : q_cat 117 36 (.goto (-30)) 3 6 0 (0) := ⟨rfl, rfl⟩
theorem c117_39 : q_cat 117 39 (.return_) 1 0 0 (0) := ⟨rfl, rfl⟩
theorem l117_6 {Γ : q_Γ} (hG : q_GG Γ) {h0 : q_F} (hZ : q_Bz h0) {o1 : Nat} (ho1 : q_isB o1)
    (hx39 : ∀ {u2 : Int} {h : q_F}, q_Fr (fun k => 3 ≤ k ∧ k ≤ 5) h0 h → q_R Γ q_K 155 117 (fun t w h' => (t = 0 ∧ q_Fr (fun k => 3 ≤ k ∧ k ≤ 5) h0 h')) (39, [(2, (0, u2)), (0, (2, Int.ofNat 3)), (1, (2, Int.ofNat o1))], [], q_hp q_K 155 h, [], 0, 0))
    : ∀ (m : Nat) {u2 : Int} {h : q_F}, (-2147483648 ≤ u2 ∧ u2 < 2147483648) → q_Fr (fun k => 3 ≤ k ∧ k ≤ 5) h0 h → 2147483648 - u2 < (m : Int) → q_R Γ q_K 155 117 (fun t w h' => (t = 0 ∧ q_Fr (fun k => 3 ≤ k ∧ k ≤ 5) h0 h')) (6, [(2, (0, u2)), (0, (2, Int.ofNat 3)), (1, (2, Int.ofNat o1))], [], q_hp q_K 155 h, [], 0, 0)   := by
  obtain ⟨fo10, fo11, fo12, fo13⟩ := q_fB ho1
  intro m
  induction m with
  | zero =>
    intro u2 h hinv hf hmu
    exact absurd hmu (by omega)
  | succ m ih =>
    intro u2 h hinv hf hmu
    refine r_iload_n c117_6 rfl rfl ?_
    refine r_sipush c117_7 rfl ?_
    refine r_ic_ge c117_10 rfl (by first | exact q_w32_id (by omega) (by omega) | exact q_w32w _ | exact rfl) (show q_w32 (600) = 600 from rfl) ?_ ?_
    · intro b2
      refine q_R.wk (ks := [2, 0, 1]) (lo' := [(2, _), (0, _), (1, _)]) rfl ?_
      exact hx39 (by repeat (first | exact q_Fr.rf | refine q_Fr.ud ?_ (by omega) (by first | assumption | rfl) rfl | refine q_Fr.udz ?_ (by omega) (by first | assumption | decide | omega) | refine q_Fr.tr ?_ (by assumption) (by intro k9 hk9; omega)))
    · intro b2
      refine r_aload_n c117_13 rfl rfl ?_
      refine r_geti c117_14 (by first | assumption | omega) (by decide) (by first | assumption | rfl) rfl rfl ?_
      refine r_if_ne c117_17 rfl (by first | exact q_w32_id (by omega) (by omega) | exact q_w32w _ | exact rfl) ?_ ?_
      · intro b3
        refine q_R.wk (ks := [2, 0, 1]) (lo' := [(2, _), (0, _), (1, _)]) rfl ?_
        exact hx39 (by repeat (first | exact q_Fr.rf | refine q_Fr.ud ?_ (by omega) (by first | assumption | rfl) rfl | refine q_Fr.udz ?_ (by omega) (by first | assumption | decide | omega) | refine q_Fr.tr ?_ (by assumption) (by intro k9 hk9; omega)))
      · intro b3
        refine r_aload_n c117_20 rfl rfl ?_
        refine r_aload_n c117_21 rfl rfl ?_
        refine r_vcG c117_22 (by first | assumption | omega) (by decide) (by first | assumption | rfl) rfl rfl rfl (k104 hG (q_Fr.bz (S := fun k => 3 ≤ k ∧ k ≤ 5) hZ (by repeat (first | exact q_Fr.rf | refine q_Fr.ud ?_ (by omega) (by first | assumption | rfl) rfl | refine q_Fr.udz ?_ (by omega) (by first | assumption | decide | omega) | refine q_Fr.tr ?_ (by assumption) (by intro k9 hk9; omega)))) (by first | assumption | exact q_hC (by assumption) | exact q_h1 (by assumption) | exact q_h3 (by assumption) | exact q_h5 (by assumption) | exact q_hG (by assumption) | exact q_hP | exact q_hB1 | exact q_hB2 | exact q_hT6 | exact q_hT15 | exact q_hT24)) ?_
        intro t4 w4 g4 p4
        obtain ⟨rfl, ⟨z4, rfl, hz4⟩, e4⟩ := p4
        refine Or.inr (Or.inl ⟨rfl, ?_⟩)
        refine r_if_eq c117_25 rfl (by first | exact q_w32_id (by omega) (by omega) | exact q_w32w _ | exact rfl) ?_ ?_
        · intro b5
          refine q_R.wk (ks := [2, 0, 1]) (lo' := [(2, _), (0, _), (1, _)]) rfl ?_
          exact hx39 (by repeat (first | exact q_Fr.rf | refine q_Fr.ud ?_ (by omega) (by first | assumption | rfl) rfl | refine q_Fr.udz ?_ (by omega) (by first | assumption | decide | omega) | refine q_Fr.tr ?_ (by assumption) (by intro k9 hk9; omega)))
        · intro b5
          refine r_aload_n c117_28 rfl rfl ?_
          refine r_aload_n c117_29 rfl rfl ?_
          refine r_vcG c117_30 (by first | assumption | omega) (by decide) (by first | assumption | rfl) rfl rfl rfl (k120 hG (q_Fr.bz (S := fun k => 3 ≤ k ∧ k ≤ 5) hZ (by repeat (first | exact q_Fr.rf | refine q_Fr.ud ?_ (by omega) (by first | assumption | rfl) rfl | refine q_Fr.udz ?_ (by omega) (by first | assumption | decide | omega) | refine q_Fr.tr ?_ (by assumption) (by intro k9 hk9; omega)))) (by first | assumption | exact q_hC (by assumption) | exact q_h1 (by assumption) | exact q_h3 (by assumption) | exact q_h5 (by assumption) | exact q_hG (by assumption) | exact q_hP | exact q_hB1 | exact q_hB2 | exact q_hT6 | exact q_hT15 | exact q_hT24)) ?_
          intro t6 w6 g6 p6
          obtain ⟨rfl, e6⟩ := p6
          refine Or.inl ⟨rfl, ?_⟩
          refine r_iinc c117_33 rfl (by first | exact q_w32_id (by omega) (by omega) | exact q_w32w _ | exact rfl) (lo' := [(2, _), (0, _), (1, _)]) rfl rfl rfl ?_
          refine r_goto c117_36 ?_
          refine q_R.wk (ks := [2, 0, 1]) (lo' := [(2, _), (0, _), (1, _)]) rfl ?_
          exact ih (by first | omega | exact ⟨q_rg1 _, q_rg2 _⟩) (by repeat (first | exact q_Fr.rf | refine q_Fr.ud ?_ (by omega) (by first | assumption | rfl) rfl | refine q_Fr.udz ?_ (by omega) (by first | assumption | decide | omega) | refine q_Fr.tr ?_ (by assumption) (by intro k9 hk9; omega))) (by omega)

theorem k117 {Γ : q_Γ} (hG : q_GG Γ) {h : q_F} (hZ : q_Bz h) {o1 : Nat} (ho1 : q_isB o1) :
    q_M Γ q_K 155 117 [(2, Int.ofNat 3), (2, Int.ofNat o1)] h (fun t w h' => (t = 0 ∧ q_Fr (fun k => 3 ≤ k ∧ k ≤ 5) h h')) := by
  obtain ⟨fo10, fo11, fo12, fo13⟩ := q_fB ho1
  refine q_M.of (by decide) (Nat.le_of_ble_eq_true rfl) hG ?_
  refine r_aload_n c117_0 rfl rfl ?_
  refine r_vcG c117_1 (by first | assumption | omega) (by decide) (by first | assumption | rfl) rfl rfl rfl (k105 hG (q_Fr.bz (S := fun k => 3 ≤ k ∧ k ≤ 5) hZ (by repeat (first | exact q_Fr.rf | refine q_Fr.ud ?_ (by omega) (by first | assumption | rfl) rfl | refine q_Fr.udz ?_ (by omega) (by first | assumption | decide | omega) | refine q_Fr.tr ?_ (by assumption) (by intro k9 hk9; omega))))) ?_
  intro t1 w1 g1 p1
  obtain ⟨rfl, e1⟩ := p1
  refine Or.inl ⟨rfl, ?_⟩
  refine r_iconst c117_4 rfl ?_
  refine r_istore_n c117_5 (lo' := [(2, _), (0, _), (1, _)]) rfl rfl rfl ?_
  refine q_R.wk (ks := [2, 0, 1]) (lo' := [(2, _), (0, _), (1, _)]) rfl ?_
  refine l117_6 (o1 := o1) hG hZ ho1 ?_ 4294967298 (by first | omega | exact ⟨q_rg1 _, q_rg2 _⟩) (by repeat (first | exact q_Fr.rf | refine q_Fr.ud ?_ (by omega) (by first | assumption | rfl) rfl | refine q_Fr.udz ?_ (by omega) (by first | assumption | decide | omega) | refine q_Fr.tr ?_ (by assumption) (by intro k9 hk9; omega))) (q_mu (by first | omega | exact ⟨q_rg1 _, q_rg2 _⟩))
  · intro u2_2 g2 f2
    exact r_vret c117_39 ⟨rfl, rfl, rfl⟩ ⟨rfl, (by repeat (first | exact q_Fr.rf | refine q_Fr.ud ?_ (by omega) (by first | assumption | rfl) rfl | refine q_Fr.udz ?_ (by omega) (by first | assumption | decide | omega) | refine q_Fr.tr ?_ (by assumption) (by intro k9 hk9; omega)))⟩
theorem c56_0 : q_cat 56 0 (.aload_n 0) 1 0 0 (0) := ⟨rfl, rfl⟩
theorem c56_1 : q_cat 56 1 (.aload_n 1) 1 1 0 (0) := ⟨rfl, rfl⟩
theorem c56_2 : q_cat 56 2 (.iload_n 2) 1 2 0 (0) := ⟨rfl, rfl⟩
theorem c56_3 : q_cat 56 3 (.iconst 0) 1 0 0 (0) := ⟨rfl, rfl⟩
theorem c56_4 : q_cat 56 4 (.invokevirtual 47) 3 115 0 (0) := ⟨rfl, rfl⟩
theorem c56_7 : q_cat 56 7 (.putfield 9) 3 1 0 (0) := ⟨rfl, rfl⟩
theorem c56_10 : q_cat 56 10 (.aload_n 0) 1 0 0 (0) := ⟨rfl, rfl⟩
theorem c56_11 : q_cat 56 11 (.aload_n 1) 1 1 0 (0) := ⟨rfl, rfl⟩
theorem c56_12 : q_cat 56 12 (.iload_n 2) 1 2 0 (0) := ⟨rfl, rfl⟩
theorem c56_13 : q_cat 56 13 (.iconst 1) 1 0 0 (0) := ⟨rfl, rfl⟩
theorem c56_14 : q_cat 56 14 (.invokevirtual 47) 3 115 0 (0) := ⟨rfl, rfl⟩
theorem c56_17 : q_cat 56 17 (.putfield 15) 3 1 1 (0) := ⟨rfl, rfl⟩
theorem c56_20 : q_cat 56 20 (.aload_n 0) 1 0 0 (0) := ⟨rfl, rfl⟩
theorem c56_21 : q_cat 56 21 (.aload_n 1) 1 1 0 (0) := ⟨rfl, rfl⟩
theorem c56_22 : q_cat 56 22 (.iload_n 2) 1 2 0 (0) := ⟨rfl, rfl⟩
theorem c56_23 : q_cat 56 23 (.iconst 2) 1 0 0 (0) := ⟨rfl, rfl⟩
theorem c56_24 : q_cat 56 24 (.invokevirtual 47) 3 115 0 (0) := ⟨rfl, rfl⟩
theorem c56_27 : q_cat 56 27 (.putfield 18) 3 1 2 (0) := ⟨rfl, rfl⟩
theorem c56_30 : q_cat 56 30 (.aload_n 0) 1 0 0 (0) := ⟨rfl, rfl⟩
theorem c56_31 : q_cat 56 31 (.aload_n 1) 1 1 0 (0) := ⟨rfl, rfl⟩
theorem c56_32 : q_cat 56 32 (.iload_n 2) 1 2 0 (0) := ⟨rfl, rfl⟩
theorem c56_33 : q_cat 56 33 (.iconst 3) 1 0 0 (0) := ⟨rfl, rfl⟩
theorem c56_34 : q_cat 56 34 (.invokevirtual 47) 3 115 0 (0) := ⟨rfl, rfl⟩
theorem c56_37 : q_cat 56 37 (.putfield 21) 3 1 3 (0) := ⟨rfl, rfl⟩
theorem c56_40 : q_cat 56 40 (.aload_n 0) 1 0 0 (0) := ⟨rfl, rfl⟩
theorem c56_41 : q_cat 56 41 (.aload_n 1) 1 1 0 (0) := ⟨rfl, rfl⟩
theorem c56_42 : q_cat 56 42 (.iload_n 2) 1 2 0 (0) := ⟨rfl, rfl⟩
theorem c56_43 : q_cat 56 43 (.iconst 4) 1 0 0 (0) := ⟨rfl, rfl⟩
theorem c56_44 : q_cat 56 44 (.invokevirtual 47) 3 115 0 (0) := ⟨rfl, rfl⟩
theorem c56_47 : q_cat 56 47 (.putfield 24) 3 1 4 (0) := ⟨rfl, rfl⟩
theorem c56_50 : q_cat 56 50 (.aload_n 0) 1 0 0 (0) := ⟨rfl, rfl⟩
theorem c56_51 : q_cat 56 51 (.aload_n 1) 1 1 0 (0) := ⟨rfl, rfl⟩
theorem c56_52 : q_cat 56 52 (.iload_n 2) 1 2 0 (0) := ⟨rfl, rfl⟩
theorem c56_53 : q_cat 56 53 (.iconst 5) 1 0 0 (0) := ⟨rfl, rfl⟩
theorem c56_54 : q_cat 56 54 (.invokevirtual 47) 3 115 0 (0) := ⟨rfl, rfl⟩
theorem c56_57 : q_cat 56 57 (.putfield 27) 3 1 5 (0) := ⟨rfl, rfl⟩
theorem c56_60 : q_cat 56 60 (.aload_n 0) 1 0 0 (0) := ⟨rfl, rfl⟩
theorem c56_61 : q_cat 56 61 (.aload_n 1) 1 1 0 (0) := ⟨rfl, rfl⟩
theorem c56_62 : q_cat 56 62 (.getfield 53) 3 5 1 (3) := ⟨rfl, rfl⟩
theorem c56_65 : q_cat 56 65 (.iload_n 2) 1 2 0 (0) := ⟨rfl, rfl⟩
theorem c56_66 : q_cat 56 66 (.invokestatic 57) 3 175 3 (0) := ⟨rfl, rfl⟩
theorem c56_69 : q_cat 56 69 (.putfield 61) 3 1 6 (0) := ⟨rfl, rfl⟩
theorem c56_72 : q_cat 56 72 (.aload_n 0) 1 0 0 (0) := ⟨rfl, rfl⟩
theorem c56_73 : q_cat 56 73 (.iconst 0) 1 0 0 (0) := ⟨rfl, rfl⟩
theorem c56_74 : q_cat 56 74 (.putfield 64) 3 1 7 (0) := ⟨rfl, rfl⟩
theorem c56_77 : q_cat 56 77 (.aload_n 0) 1 0 0 (0) := ⟨rfl, rfl⟩
theorem c56_78 : q_cat 56 78 (.iconst 1) 1 0 0 (0) := ⟨rfl, rfl⟩
theorem c56_79 : q_cat 56 79 (.putfield 30) 3 1 8 (0) := ⟨rfl, rfl⟩
theorem c56_82 : q_cat 56 82 (.aload_n 0) 1 0 0 (0) := ⟨rfl, rfl⟩
theorem c56_83 : q_cat 56 83 (.iconst 0) 1 0 0 (0) := ⟨rfl, rfl⟩
theorem c56_84 : q_cat 56 84 (.putfield 33) 3 1 9 (0) := ⟨rfl, rfl⟩
theorem c56_87 : q_cat 56 87 (.aload_n 0) 1 0 0 (0) := ⟨rfl, rfl⟩
theorem c56_88 : q_cat 56 88 (.aload_n 0) 1 0 0 (0) := ⟨rfl, rfl⟩
theorem c56_89 : q_cat 56 89 (.getfield 61) 3 1 6 (0) := ⟨rfl, rfl⟩
theorem c56_92 : q_cat 56 92 (.aload_n 0) 1 0 0 (0) := ⟨rfl, rfl⟩
theorem c56_93 : q_cat 56 93 (.getfield 24) 3 1 4 (0) := ⟨rfl, rfl⟩
theorem c56_96 : q_cat 56 96 (.if_icmp .gt 7) 3 103 0 (0) := ⟨rfl, rfl⟩
theorem c56_99 : q_cat 56 99 (.iconst 1) 1 0 0 (0) := ⟨rfl, rfl⟩
theorem c56_100 : q_cat 56 100 (.goto 4) 3 104 0 (0) := ⟨rfl, rfl⟩
theorem c56_103 : q_cat 56 103 (.iconst 0) 1 0 0 (0) := ⟨rfl, rfl⟩
theorem c56_104 : q_cat 56 104 (.putfield 36) 3 1 10 (1) := ⟨rfl, rfl⟩
theorem c56_107 : q_cat 56 107 (.aload_n 0) 1 0 0 (0) := ⟨rfl, rfl⟩
theorem c56_108 : q_cat 56 108 (.iconst 0) 1 0 0 (0) := ⟨rfl, rfl⟩
theorem c56_109 : q_cat 56 109 (.putfield 67) 3 1 11 (1) := ⟨rfl, rfl⟩
theorem c56_112 : q_cat 56 112 (.aload_n 0) 1 0 0 (0) := ⟨rfl, rfl⟩
theorem c56_113 : q_cat 56 113 (.iconst 0) 1 0 0 (0) := ⟨rfl, rfl⟩
theorem c56_114 : q_cat 56 114 (.putfield 70) 3 1 12 (0) := ⟨rfl, rfl⟩
theorem c56_117 : q_cat 56 117 (.aload_n 0) 1 0 0 (0) := ⟨rfl, rfl⟩
theorem c56_118 : q_cat 56 118 (.iconst 0) 1 0 0 (0) := ⟨rfl, rfl⟩
theorem c56_119 : q_cat 56 119 (.putfield 73) 3 1 13 (0) := ⟨rfl, rfl⟩
theorem c56_122 : q_cat 56 122 (.aload_n 0) 1 0 0 (0) := ⟨rfl, rfl⟩
theorem c56_123 : q_cat 56 123 (.getfield 43) 3 1 14 (3) := ⟨rfl, rfl⟩
theorem c56_126 : q_cat 56 126 (.invokevirtual 76) 3 41 0 (0) := ⟨rfl, rfl⟩
theorem c56_129 : q_cat 56 129 (.return_) 1 0 0 (0) := ⟨rfl, rfl⟩
theorem k56 {Γ : q_Γ} (hG : q_GG Γ) {h : q_F} (hZ : q_Bz h) {o0 : Nat} {v2 : Int} (ho0 : q_isA o0) :
    q_M Γ q_K 155 56 [(2, Int.ofNat o0), (2, Int.ofNat 3), (0, v2)] h (fun t w h' => (t = 0 ∧ q_Fr (fun k => k = o0 ∨ k = o0 + 1) h h')) := by
  obtain ⟨fo00, fo01, fo02, fo03⟩ := q_fA ho0
  refine q_M.of (by decide) (Nat.le_of_ble_eq_true rfl) hG ?_
  refine r_aload_n c56_0 rfl rfl ?_
  refine r_aload_n c56_1 rfl rfl ?_
  refine r_iload_n c56_2 rfl rfl ?_
  refine r_iconst c56_3 rfl ?_
  refine r_vcG c56_4 (by first | assumption | omega) (by decide) (by first | assumption | rfl) rfl rfl rfl (k115 hG (q_Fr.bz (S := fun k => k = o0 ∨ k = o0 + 1) hZ (by repeat (first | exact q_Fr.rf | refine q_Fr.ud ?_ (by omega) (by first | assumption | rfl) rfl | refine q_Fr.udz ?_ (by omega) (by first | assumption | decide | omega) | refine q_Fr.tr ?_ (by assumption) (by intro k9 hk9; omega))))) ?_
  intro t1 w1 g1 p1
  obtain ⟨rfl, ⟨z1, rfl⟩, rfl⟩ := p1
  refine Or.inr (Or.inl ⟨rfl, ?_⟩)
  refine r_puti c56_7 (by first | assumption | omega) (by decide) (by first | assumption | rfl) rfl rfl rfl ?_
  refine r_aload_n c56_10 rfl rfl ?_
  refine r_aload_n c56_11 rfl rfl ?_
  refine r_iload_n c56_12 rfl rfl ?_
  refine r_iconst c56_13 rfl ?_
  refine r_vcG c56_14 (by first | assumption | omega) (by decide) (by first | assumption | rfl) rfl rfl rfl (k115 hG (q_Fr.bz (S := fun k => k = o0 ∨ k = o0 + 1) hZ (by repeat (first | exact q_Fr.rf | refine q_Fr.ud ?_ (by omega) (by first | assumption | rfl) rfl | refine q_Fr.udz ?_ (by omega) (by first | assumption | decide | omega) | refine q_Fr.tr ?_ (by assumption) (by intro k9 hk9; omega))))) ?_
  intro t2 w2 g2 p2
  obtain ⟨rfl, ⟨z2, rfl⟩, rfl⟩ := p2
  refine Or.inr (Or.inl ⟨rfl, ?_⟩)
  refine r_puti c56_17 (by first | assumption | omega) (by decide) (by first | assumption | rfl) rfl rfl rfl ?_
  refine r_aload_n c56_20 rfl rfl ?_
  refine r_aload_n c56_21 rfl rfl ?_
  refine r_iload_n c56_22 rfl rfl ?_
  refine r_iconst c56_23 rfl ?_
  refine r_vcG c56_24 (by first | assumption | omega) (by decide) (by first | assumption | rfl) rfl rfl rfl (k115 hG (q_Fr.bz (S := fun k => k = o0 ∨ k = o0 + 1) hZ (by repeat (first | exact q_Fr.rf | refine q_Fr.ud ?_ (by omega) (by first | assumption | rfl) rfl | refine q_Fr.udz ?_ (by omega) (by first | assumption | decide | omega) | refine q_Fr.tr ?_ (by assumption) (by intro k9 hk9; omega))))) ?_
  intro t3 w3 g3 p3
  obtain ⟨rfl, ⟨z3, rfl⟩, rfl⟩ := p3
  refine Or.inr (Or.inl ⟨rfl, ?_⟩)
  refine r_puti c56_27 (by first | assumption | omega) (by decide) (by first | assumption | rfl) rfl rfl rfl ?_
  refine r_aload_n c56_30 rfl rfl ?_
  refine r_aload_n c56_31 rfl rfl ?_
  refine r_iload_n c56_32 rfl rfl ?_
  refine r_iconst c56_33 rfl ?_
  refine r_vcG c56_34 (by first | assumption | omega) (by decide) (by first | assumption | rfl) rfl rfl rfl (k115 hG (q_Fr.bz (S := fun k => k = o0 ∨ k = o0 + 1) hZ (by repeat (first | exact q_Fr.rf | refine q_Fr.ud ?_ (by omega) (by first | assumption | rfl) rfl | refine q_Fr.udz ?_ (by omega) (by first | assumption | decide | omega) | refine q_Fr.tr ?_ (by assumption) (by intro k9 hk9; omega))))) ?_
  intro t4 w4 g4 p4
  obtain ⟨rfl, ⟨z4, rfl⟩, rfl⟩ := p4
  refine Or.inr (Or.inl ⟨rfl, ?_⟩)
  refine r_puti c56_37 (by first | assumption | omega) (by decide) (by first | assumption | rfl) rfl rfl rfl ?_
  refine r_aload_n c56_40 rfl rfl ?_
  refine r_aload_n c56_41 rfl rfl ?_
  refine r_iload_n c56_42 rfl rfl ?_
  refine r_iconst c56_43 rfl ?_
  refine r_vcG c56_44 (by first | assumption | omega) (by decide) (by first | assumption | rfl) rfl rfl rfl (k115 hG (q_Fr.bz (S := fun k => k = o0 ∨ k = o0 + 1) hZ (by repeat (first | exact q_Fr.rf | refine q_Fr.ud ?_ (by omega) (by first | assumption | rfl) rfl | refine q_Fr.udz ?_ (by omega) (by first | assumption | decide | omega) | refine q_Fr.tr ?_ (by assumption) (by intro k9 hk9; omega))))) ?_
  intro t5 w5 g5 p5
  obtain ⟨rfl, ⟨z5, rfl⟩, rfl⟩ := p5
  refine Or.inr (Or.inl ⟨rfl, ?_⟩)
  refine r_puti c56_47 (by first | assumption | omega) (by decide) (by first | assumption | rfl) rfl rfl rfl ?_
  refine r_aload_n c56_50 rfl rfl ?_
  refine r_aload_n c56_51 rfl rfl ?_
  refine r_iload_n c56_52 rfl rfl ?_
  refine r_iconst c56_53 rfl ?_
  refine r_vcG c56_54 (by first | assumption | omega) (by decide) (by first | assumption | rfl) rfl rfl rfl (k115 hG (q_Fr.bz (S := fun k => k = o0 ∨ k = o0 + 1) hZ (by repeat (first | exact q_Fr.rf | refine q_Fr.ud ?_ (by omega) (by first | assumption | rfl) rfl | refine q_Fr.udz ?_ (by omega) (by first | assumption | decide | omega) | refine q_Fr.tr ?_ (by assumption) (by intro k9 hk9; omega))))) ?_
  intro t6 w6 g6 p6
  obtain ⟨rfl, ⟨z6, rfl⟩, rfl⟩ := p6
  refine Or.inr (Or.inl ⟨rfl, ?_⟩)
  refine r_puti c56_57 (by first | assumption | omega) (by decide) (by first | assumption | rfl) rfl rfl rfl ?_
  refine r_aload_n c56_60 rfl rfl ?_
  refine r_aload_n c56_61 rfl rfl ?_
  refine r_getr c56_62 (by first | assumption | omega) (by decide) (by first | assumption | rfl) rfl rfl ?_
  refine r_iload_n c56_65 rfl rfl ?_
  refine r_callG c56_66 (fun _ => rfl) rfl rfl rfl (k175 hG (q_Fr.bz (S := fun k => k = o0 ∨ k = o0 + 1) hZ (by repeat (first | exact q_Fr.rf | refine q_Fr.ud ?_ (by omega) (by first | assumption | rfl) rfl | refine q_Fr.udz ?_ (by omega) (by first | assumption | decide | omega) | refine q_Fr.tr ?_ (by assumption) (by intro k9 hk9; omega)))) (by first | assumption | omega) (by first | assumption | rfl) (by first | assumption | decide)) ?_
  intro t7 w7 g7 p7
  obtain ⟨rfl, ⟨z7, rfl⟩, rfl⟩ := p7
  refine Or.inr (Or.inl ⟨rfl, ?_⟩)
  refine r_puti c56_69 (by first | assumption | omega) (by decide) (by first | assumption | rfl) rfl rfl rfl ?_
  refine r_aload_n c56_72 rfl rfl ?_
  refine r_iconst c56_73 rfl ?_
  refine r_puti c56_74 (by first | assumption | omega) (by decide) (by first | assumption | rfl) rfl rfl rfl ?_
  refine r_aload_n c56_77 rfl rfl ?_
  refine r_iconst c56_78 rfl ?_
  refine r_puti c56_79 (by first | assumption | omega) (by decide) (by first | assumption | rfl) rfl rfl rfl ?_
  refine r_aload_n c56_82 rfl rfl ?_
  refine r_iconst c56_83 rfl ?_
  refine r_puti c56_84 (by first | assumption | omega) (by decide) (by first | assumption | rfl) rfl rfl rfl ?_
  refine r_aload_n c56_87 rfl rfl ?_
  refine r_aload_n c56_88 rfl rfl ?_
  refine r_geti c56_89 (by first | assumption | omega) (by decide) (by first | assumption | rfl) rfl rfl ?_
  refine r_aload_n c56_92 rfl rfl ?_
  refine r_geti c56_93 (by first | assumption | omega) (by decide) (by first | assumption | rfl) rfl rfl ?_
  refine r_ic_gt c56_96 rfl (by first | exact q_w32_id (by omega) (by omega) | exact q_w32w _ | exact rfl) (by first | exact q_w32_id (by omega) (by omega) | exact q_w32w _ | exact rfl) ?_ ?_
  · intro b8
    refine r_iconst c56_103 rfl ?_
    refine r_puti c56_104 (by first | assumption | omega) (by decide) (by first | assumption | rfl) rfl rfl rfl ?_
    refine r_aload_n c56_107 rfl rfl ?_
    refine r_iconst c56_108 rfl ?_
    refine r_puti c56_109 (by first | assumption | omega) (by decide) (by first | assumption | rfl) rfl rfl rfl ?_
    refine r_aload_n c56_112 rfl rfl ?_
    refine r_iconst c56_113 rfl ?_
    refine r_puti c56_114 (by first | assumption | omega) (by decide) (by first | assumption | rfl) rfl rfl rfl ?_
    refine r_aload_n c56_117 rfl rfl ?_
    refine r_iconst c56_118 rfl ?_
    refine r_puti c56_119 (by first | assumption | omega) (by decide) (by first | assumption | rfl) rfl rfl rfl ?_
    refine r_aload_n c56_122 rfl rfl ?_
    refine r_getr c56_123 (by first | assumption | omega) (by decide) (by first | assumption | rfl) rfl rfl ?_
    refine r_vcG c56_126 (by first | assumption | omega) (by decide) (by first | assumption | rfl) rfl rfl rfl (k41 hG (q_Fr.bz (S := fun k => k = o0 ∨ k = o0 + 1) hZ (by repeat (first | exact q_Fr.rf | refine q_Fr.ud ?_ (by omega) (by first | assumption | rfl) rfl | refine q_Fr.udz ?_ (by omega) (by first | assumption | decide | omega) | refine q_Fr.tr ?_ (by assumption) (by intro k9 hk9; omega)))) (by first | assumption | exact q_hC (by assumption) | exact q_h1 (by assumption) | exact q_h3 (by assumption) | exact q_h5 (by assumption) | exact q_hG (by assumption) | exact q_hP | exact q_hB1 | exact q_hB2 | exact q_hT6 | exact q_hT15 | exact q_hT24)) ?_
    intro t9 w9 g9 p9
    obtain ⟨rfl, e9⟩ := p9
    refine Or.inl ⟨rfl, ?_⟩
    exact r_vret c56_129 ⟨rfl, rfl, rfl⟩ ⟨rfl, (by repeat (first | exact q_Fr.rf | refine q_Fr.ud ?_ (by omega) (by first | assumption | rfl) rfl | refine q_Fr.udz ?_ (by omega) (by first | assumption | decide | omega) | refine q_Fr.tr ?_ (by assumption) (by intro k9 hk9; omega)))⟩
  · intro b8
    refine r_iconst c56_99 rfl ?_
    refine r_goto c56_100 ?_
    refine r_puti c56_104 (by first | assumption | omega) (by decide) (by first | assumption | rfl) rfl rfl rfl ?_
    refine r_aload_n c56_107 rfl rfl ?_
    refine r_iconst c56_108 rfl ?_
    refine r_puti c56_109 (by first | assumption | omega) (by decide) (by first | assumption | rfl) rfl rfl rfl ?_
    refine r_aload_n c56_112 rfl rfl ?_
    refine r_iconst c56_113 rfl ?_
    refine r_puti c56_114 (by first | assumption | omega) (by decide) (by first | assumption | rfl) rfl rfl rfl ?_
    refine r_aload_n c56_117 rfl rfl ?_
    refine r_iconst c56_118 rfl ?_
    refine r_puti c56_119 (by first | assumption | omega) (by decide) (by first | assumption | rfl) rfl rfl rfl ?_
    refine r_aload_n c56_122 rfl rfl ?_
    refine r_getr c56_123 (by first | assumption | omega) (by decide) (by first | assumption | rfl) rfl rfl ?_
    refine r_vcG c56_126 (by first | assumption | omega) (by decide) (by first | assumption | rfl) rfl rfl rfl (k41 hG (q_Fr.bz (S := fun k => k = o0 ∨ k = o0 + 1) hZ (by repeat (first | exact q_Fr.rf | refine q_Fr.ud ?_ (by omega) (by first | assumption | rfl) rfl | refine q_Fr.udz ?_ (by omega) (by first | assumption | decide | omega) | refine q_Fr.tr ?_ (by assumption) (by intro k9 hk9; omega)))) (by first | assumption | exact q_hC (by assumption) | exact q_h1 (by assumption) | exact q_h3 (by assumption) | exact q_h5 (by assumption) | exact q_hG (by assumption) | exact q_hP | exact q_hB1 | exact q_hB2 | exact q_hT6 | exact q_hT15 | exact q_hT24)) ?_
    intro t10 w10 g10 p10
    obtain ⟨rfl, e10⟩ := p10
    refine Or.inl ⟨rfl, ?_⟩
    exact r_vret c56_129 ⟨rfl, rfl, rfl⟩ ⟨rfl, (by repeat (first | exact q_Fr.rf | refine q_Fr.ud ?_ (by omega) (by first | assumption | rfl) rfl | refine q_Fr.udz ?_ (by omega) (by first | assumption | decide | omega) | refine q_Fr.tr ?_ (by assumption) (by intro k9 hk9; omega)))⟩
theorem c139_0 : q_cat 139 0 (.aload_n 0) 1 0 0 (0) := ⟨rfl, rfl⟩
theorem c139_1 : q_cat 139 1 (.getfield 12) 3 6 0 (3) := ⟨rfl, rfl⟩
theorem c139_4 : q_cat 139 4 (.aload_n 1) 1 1 0 (0) := ⟨rfl, rfl⟩
theorem c139_5 : q_cat 139 5 (.iconst 0) 1 0 0 (0) := ⟨rfl, rfl⟩
theorem c139_6 : q_cat 139 6 (.invokevirtual 35) 3 56 0 (0) := ⟨rfl, rfl⟩
theorem c139_9 : q_cat 139 9 (.aload_n 0) 1 0 0 (0) := ⟨rfl, rfl⟩
theorem c139_10 : q_cat 139 10 (.getfield 18) 3 6 1 (3) := ⟨rfl, rfl⟩
theorem c139_13 : q_cat 139 13 (.aload_n 1) 1 1 0 (0) := ⟨rfl, rfl⟩
theorem c139_14 : q_cat 139 14 (.iconst 1) 1 0 0 (0) := ⟨rfl, rfl⟩
theorem c139_15 : q_cat 139 15 (.invokevirtual 35) 3 56 0 (0) := ⟨rfl, rfl⟩
theorem c139_18 : q_cat 139 18 (.aload_n 0) 1 0 0 (0) := ⟨rfl, rfl⟩
theorem c139_19 : q_cat 139 19 (.getfield 21) 3 6 2 (3) := ⟨rfl, rfl⟩
theorem c139_22 : q_cat 139 22 (.aload_n 1) 1 1 0 (0) := ⟨rfl, rfl⟩
theorem c139_23 : q_cat 139 23 (.iconst 2) 1 0 0 (0) := ⟨rfl, rfl⟩
theorem c139_24 : q_cat 139 24 (.invokevirtual 35) 3 56 0 (0) := ⟨rfl, rfl⟩
theorem c139_27 : q_cat 139 27 (.aload_n 0) 1 0 0 (0) := ⟨rfl, rfl⟩
theorem c139_28 : q_cat 139 28 (.getfield 27) 3 6 3 (3) := ⟨rfl, rfl⟩
theorem c139_31 : q_cat 139 31 (.invokevirtual 39) 3 143 0 (0) := ⟨rfl, rfl⟩
theorem c139_34 : q_cat 139 34 (.aload_n 0) 1 0 0 (0) := ⟨rfl, rfl⟩
theorem c139_35 : q_cat 139 35 (.aload_n 1) 1 1 0 (0) := ⟨rfl, rfl⟩
theorem c139_36 : q_cat 139 36 (.getfield 42) 3 5 2 (0) := ⟨rfl, rfl⟩
theorem c139_39 : q_cat 139 39 (.putfield 31) 3 6 4 (0) := ⟨rfl, rfl⟩
theorem c139_42 : q_cat 139 42 (.aload_n 0) 1 0 0 (0) := ⟨rfl, rfl⟩
theorem c139_43 : q_cat 139 43 (.aload_n 1) 1 1 0 (0) := ⟨rfl, rfl⟩
theorem c139_44 : q_cat 139 44 (.iconst 5) 1 0 0 (0) := ⟨rfl, rfl⟩
theorem c139_45 : q_cat 139 45 (.invokevirtual 45) 3 107 0 (0) := ⟨rfl, rfl⟩
theorem c139_48 : q_cat 139 48 (.putfield 49) 3 6 5 (1) := ⟨rfl, rfl⟩
theorem c139_51 : q_cat 139 51 (.aload_n 0) 1 0 0 (0) := ⟨rfl, rfl⟩
theorem c139_52 : q_cat 139 52 (.aload_n 1) 1 1 0 (0) := ⟨rfl, rfl⟩
theorem c139_53 : q_cat 139 53 (.bipush 6) 2 0 0 (0) := ⟨rfl, rfl⟩
theorem c139_55 : q_cat 139 55 (.invokevirtual 45) 3 107 0 (0) := ⟨rfl, rfl⟩
theorem c139_58 : q_cat 139 58 (.putfield 53) 3 6 6 (1) := ⟨rfl, rfl⟩
theorem c139_61 : q_cat 139 61 (.aload_n 0) 1 0 0 (0) := ⟨rfl, rfl⟩
theorem c139_62 : q_cat 139 62 (.iconst 0) 1 0 0 (0) := ⟨rfl, rfl⟩
theorem c139_63 : q_cat 139 63 (.putfield 56) 3 6 7 (0) := ⟨rfl, rfl⟩
theorem c139_66 : q_cat 139 66 (.aload_n 0) 1 0 0 (0) := ⟨rfl, rfl⟩
theorem c139_67 : q_cat 139 67 (.lconst 0) 1 0 0 (0) := ⟨rfl, rfl⟩
theorem c139_68 : q_cat 139 68 (.putfield 59) 3 6 8 (2) := ⟨rfl, rfl⟩
theorem c139_71 : q_cat 139 71 (.aload_n 0) 1 0 0 (0) := ⟨rfl, rfl⟩
theorem c139_72 : q_cat 139 72 (.lconst 0) 1 0 0 (0) := ⟨rfl, rfl⟩
theorem c139_73 : q_cat 139 73 (.putfield 63) 3 6 9 (2) := ⟨rfl, rfl⟩
theorem c139_76 : q_cat 139 76 (.aload_n 0) 1 0 0 (0) := ⟨rfl, rfl⟩
theorem c139_77 : q_cat 139 77 (.lconst 0) 1 0 0 (0) := ⟨rfl, rfl⟩
theorem c139_78 : q_cat 139 78 (.putfield 66) 3 6 10 (2) := ⟨rfl, rfl⟩
theorem c139_81 : q_cat 139 81 (.return_) 1 0 0 (0) := ⟨rfl, rfl⟩
theorem k139 {Γ : q_Γ} (hG : q_GG Γ) {h : q_F} (hZ : q_Bz h) {o0 : Nat} (ho0 : q_isT o0) :
    q_M Γ q_K 155 139 [(2, Int.ofNat o0), (2, Int.ofNat 3)] h (fun t w h' => (t = 0 ∧ q_Fr (fun k => o0 ≤ k ∧ k ≤ o0 + 8) h h')) := by
  obtain ⟨fo00, fo01, fo02, fo03, fo04, fo05, fo06, fo07, fo08, fo09, fo010⟩ := q_fT ho0
  refine q_M.of (by decide) (Nat.le_of_ble_eq_true rfl) hG ?_
  refine r_aload_n c139_0 rfl rfl ?_
  refine r_getr c139_1 (by first | assumption | omega) (by decide) (by first | assumption | rfl) rfl rfl ?_
  refine r_aload_n c139_4 rfl rfl ?_
  refine r_iconst c139_5 rfl ?_
  refine r_vcG c139_6 (by first | assumption | omega) (by decide) (by first | assumption | rfl) rfl rfl rfl (k56 hG (q_Fr.bz (S := fun k => o0 ≤ k ∧ k ≤ o0 + 8) hZ (by repeat (first | exact q_Fr.rf | refine q_Fr.ud ?_ (by omega) (by first | assumption | rfl) rfl | refine q_Fr.udz ?_ (by omega) (by first | assumption | decide | omega) | refine q_Fr.tr ?_ (by assumption) (by intro k9 hk9; omega)))) (by first | assumption | exact q_hC (by assumption) | exact q_h1 (by assumption) | exact q_h3 (by assumption) | exact q_h5 (by assumption) | exact q_hG (by assumption) | exact q_hP | exact q_hB1 | exact q_hB2 | exact q_hT6 | exact q_hT15 | exact q_hT24)) ?_
  intro t1 w1 g1 p1
  obtain ⟨rfl, e1⟩ := p1
  refine Or.inl ⟨rfl, ?_⟩
  refine r_aload_n c139_9 rfl rfl ?_
  refine r_getr c139_10 (by first | assumption | omega) (by decide) (by first | assumption | rfl) rfl rfl ?_
  refine r_aload_n c139_13 rfl rfl ?_
  refine r_iconst c139_14 rfl ?_
  refine r_vcG c139_15 (by first | assumption | omega) (by decide) (by first | assumption | rfl) rfl rfl rfl (k56 hG (q_Fr.bz (S := fun k => o0 ≤ k ∧ k ≤ o0 + 8) hZ (by repeat (first | exact q_Fr.rf | refine q_Fr.ud ?_ (by omega) (by first | assumption | rfl) rfl | refine q_Fr.udz ?_ (by omega) (by first | assumption | decide | omega) | refine q_Fr.tr ?_ (by assumption) (by intro k9 hk9; omega)))) (by first | assumption | exact q_hC (by assumption) | exact q_h1 (by assumption) | exact q_h3 (by assumption) | exact q_h5 (by assumption) | exact q_hG (by assumption) | exact q_hP | exact q_hB1 | exact q_hB2 | exact q_hT6 | exact q_hT15 | exact q_hT24)) ?_
  intro t2 w2 g2 p2
  obtain ⟨rfl, e2⟩ := p2
  refine Or.inl ⟨rfl, ?_⟩
  refine r_aload_n c139_18 rfl rfl ?_
  refine r_getr c139_19 (by first | assumption | omega) (by decide) (by first | assumption | rfl) rfl rfl ?_
  refine r_aload_n c139_22 rfl rfl ?_
  refine r_iconst c139_23 rfl ?_
  refine r_vcG c139_24 (by first | assumption | omega) (by decide) (by first | assumption | rfl) rfl rfl rfl (k56 hG (q_Fr.bz (S := fun k => o0 ≤ k ∧ k ≤ o0 + 8) hZ (by repeat (first | exact q_Fr.rf | refine q_Fr.ud ?_ (by omega) (by first | assumption | rfl) rfl | refine q_Fr.udz ?_ (by omega) (by first | assumption | decide | omega) | refine q_Fr.tr ?_ (by assumption) (by intro k9 hk9; omega)))) (by first | assumption | exact q_hC (by assumption) | exact q_h1 (by assumption) | exact q_h3 (by assumption) | exact q_h5 (by assumption) | exact q_hG (by assumption) | exact q_hP | exact q_hB1 | exact q_hB2 | exact q_hT6 | exact q_hT15 | exact q_hT24)) ?_
  intro t3 w3 g3 p3
  obtain ⟨rfl, e3⟩ := p3
  refine Or.inl ⟨rfl, ?_⟩
  refine r_aload_n c139_27 rfl rfl ?_
  refine r_getr c139_28 (by first | assumption | omega) (by decide) (by first | assumption | rfl) rfl rfl ?_
  refine r_vcG c139_31 (by first | assumption | omega) (by decide) (by first | assumption | rfl) rfl rfl rfl (k143 hG (q_Fr.bz (S := fun k => o0 ≤ k ∧ k ≤ o0 + 8) hZ (by repeat (first | exact q_Fr.rf | refine q_Fr.ud ?_ (by omega) (by first | assumption | rfl) rfl | refine q_Fr.udz ?_ (by omega) (by first | assumption | decide | omega) | refine q_Fr.tr ?_ (by assumption) (by intro k9 hk9; omega)))) (by first | assumption | exact q_hC (by assumption) | exact q_h1 (by assumption) | exact q_h3 (by assumption) | exact q_h5 (by assumption) | exact q_hG (by assumption) | exact q_hP | exact q_hB1 | exact q_hB2 | exact q_hT6 | exact q_hT15 | exact q_hT24)) ?_
  intro t4 w4 g4 p4
  obtain ⟨rfl, e4⟩ := p4
  refine Or.inl ⟨rfl, ?_⟩
  refine r_aload_n c139_34 rfl rfl ?_
  refine r_aload_n c139_35 rfl rfl ?_
  refine r_geti c139_36 (by first | assumption | omega) (by decide) (by first | assumption | rfl) rfl rfl ?_
  refine r_puti c139_39 (by first | assumption | omega) (by decide) (by first | assumption | rfl) rfl rfl rfl ?_
  refine r_aload_n c139_42 rfl rfl ?_
  refine r_aload_n c139_43 rfl rfl ?_
  refine r_iconst c139_44 rfl ?_
  refine r_vcG c139_45 (by first | assumption | omega) (by decide) (by first | assumption | rfl) rfl rfl rfl (k107 hG (q_Fr.bz (S := fun k => o0 ≤ k ∧ k ≤ o0 + 8) hZ (by repeat (first | exact q_Fr.rf | refine q_Fr.ud ?_ (by omega) (by first | assumption | rfl) rfl | refine q_Fr.udz ?_ (by omega) (by first | assumption | decide | omega) | refine q_Fr.tr ?_ (by assumption) (by intro k9 hk9; omega))))) ?_
  intro t5 w5 g5 p5
  obtain ⟨rfl, ⟨z5, rfl, hz5⟩, rfl⟩ := p5
  refine Or.inr (Or.inl ⟨rfl, ?_⟩)
  refine r_puti c139_48 (by first | assumption | omega) (by decide) (by first | assumption | rfl) rfl (q_fit_b (by first | assumption | omega)) rfl ?_
  refine r_aload_n c139_51 rfl rfl ?_
  refine r_aload_n c139_52 rfl rfl ?_
  refine r_bipush c139_53 rfl ?_
  refine r_vcG c139_55 (by first | assumption | omega) (by decide) (by first | assumption | rfl) rfl rfl rfl (k107 hG (q_Fr.bz (S := fun k => o0 ≤ k ∧ k ≤ o0 + 8) hZ (by repeat (first | exact q_Fr.rf | refine q_Fr.ud ?_ (by omega) (by first | assumption | rfl) rfl | refine q_Fr.udz ?_ (by omega) (by first | assumption | decide | omega) | refine q_Fr.tr ?_ (by assumption) (by intro k9 hk9; omega))))) ?_
  intro t6 w6 g6 p6
  obtain ⟨rfl, ⟨z6, rfl, hz6⟩, rfl⟩ := p6
  refine Or.inr (Or.inl ⟨rfl, ?_⟩)
  refine r_puti c139_58 (by first | assumption | omega) (by decide) (by first | assumption | rfl) rfl (q_fit_b (by first | assumption | omega)) rfl ?_
  refine r_aload_n c139_61 rfl rfl ?_
  refine r_iconst c139_62 rfl ?_
  refine r_puti c139_63 (by first | assumption | omega) (by decide) (by first | assumption | rfl) rfl rfl rfl ?_
  refine r_aload_n c139_66 rfl rfl ?_
  refine r_lconst c139_67 rfl ?_
  refine r_putl c139_68 (by first | assumption | omega) (by decide) (by first | assumption | rfl) rfl rfl rfl ?_
  refine r_aload_n c139_71 rfl rfl ?_
  refine r_lconst c139_72 rfl ?_
  refine r_putl c139_73 (by first | assumption | omega) (by decide) (by first | assumption | rfl) rfl rfl rfl ?_
  refine r_aload_n c139_76 rfl rfl ?_
  refine r_lconst c139_77 rfl ?_
  refine r_putl c139_78 (by first | assumption | omega) (by decide) (by first | assumption | rfl) rfl rfl rfl ?_
  exact r_vret c139_81 ⟨rfl, rfl, rfl⟩ ⟨rfl, (by repeat (first | exact q_Fr.rf | refine q_Fr.ud ?_ (by omega) (by first | assumption | rfl) rfl | refine q_Fr.udz ?_ (by omega) (by first | assumption | decide | omega) | refine q_Fr.tr ?_ (by assumption) (by intro k9 hk9; omega)))⟩
