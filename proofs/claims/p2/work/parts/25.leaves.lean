/-! Part 25: the class over any heap: weak contracts of the leaves. Printed by wip/tools/genk.py. -/
theorem c175_0 : q_cat 175 0 (.iload_n 1) 1 1 0 (0) := ⟨rfl, rfl⟩
theorem c175_1 : q_cat 175 1 (.ifCond .lt 15) 3 16 0 (0) := ⟨rfl, rfl⟩
theorem c175_4 : q_cat 175 4 (.iload_n 1) 1 1 0 (0) := ⟨rfl, rfl⟩
theorem c175_5 : q_cat 175 5 (.aload_n 0) 1 0 0 (0) := ⟨rfl, rfl⟩
theorem c175_6 : q_cat 175 6 (.arraylength) 1 0 0 (0) := ⟨rfl, rfl⟩
theorem c175_7 : q_cat 175 7 (.if_icmp .ge 9) 3 16 0 (0) := ⟨rfl, rfl⟩
theorem c175_10 : q_cat 175 10 (.aload_n 0) 1 0 0 (0) := ⟨rfl, rfl⟩
theorem c175_11 : q_cat 175 11 (.iload_n 1) 1 1 0 (0) := ⟨rfl, rfl⟩
theorem c175_12 : q_cat 175 12 (.iaload) 1 0 0 (0) := ⟨rfl, rfl⟩
theorem c175_13 : q_cat 175 13 (.goto 4) 3 17 0 (0) := ⟨rfl, rfl⟩
theorem c175_16 : q_cat 175 16 (.iconst 0) 1 0 0 (0) := ⟨rfl, rfl⟩
theorem c175_17 : q_cat 175 17 (.ireturn) 1 0 0 (0) := ⟨rfl, rfl⟩
theorem k175 {Γ : q_Γ} (hG : q_GG Γ) {h : q_F} (hZ : q_Bz h) {o0 N0 : Nat} {ds0 : List q_Ds} {v1 : Int} (hn0 : o0 < 155) (hk0 : q_K o0 = (1, N0, ds0)) (hN0 : N0 ≤ 2048) :
    q_M Γ q_K 155 175 [(2, Int.ofNat o0), (0, v1)] h (fun t w h' => (t = 1 ∧ (∃ z, w = ((0, z) : q_V)) ∧ h' = h)) := by
  have hNN0 : q_w32 (N0 : Int) = N0 := q_w32_id (by omega) (by omega)
  refine q_M.of (by decide) (Nat.le_of_ble_eq_true rfl) hG ?_
  refine r_iload_n c175_0 rfl rfl ?_
  refine r_if_lt c175_1 rfl (by first | exact q_w32_id (by omega) (by omega) | exact q_w32w _ | exact rfl) ?_ ?_
  · intro b1
    refine r_iconst c175_16 rfl ?_
    exact r_iret c175_17 ⟨rfl, rfl, rfl⟩ ⟨rfl, ⟨_, rfl⟩, rfl⟩
  · intro b1
    refine r_iload_n c175_4 rfl rfl ?_
    refine r_aload_n c175_5 rfl rfl ?_
    refine r_alen c175_6 (by first | assumption | omega) (by decide) (by first | assumption | rfl) (by decide) rfl ?_
    refine r_ic_ge c175_7 rfl (by first | exact q_w32_id (by omega) (by omega) | exact q_w32w _ | exact rfl) (by first | exact q_w32_id (by omega) (by omega) | exact q_w32w _ | exact rfl) ?_ ?_
    · intro b2
      refine r_iconst c175_16 rfl ?_
      exact r_iret c175_17 ⟨rfl, rfl, rfl⟩ ⟨rfl, ⟨_, rfl⟩, rfl⟩
    · intro b2
      refine r_aload_n c175_10 rfl rfl ?_
      refine r_iload_n c175_11 rfl rfl ?_
      refine r_iald c175_12 (by first | assumption | omega) (by decide) (by first | assumption | rfl) (by first | assumption | decide) (by first | exact q_w32_id (by omega) (by omega) | exact q_w32w _ | exact rfl) (by first | assumption | omega) (by first | assumption | omega) rfl ?_
      refine r_goto c175_13 ?_
      exact r_iret c175_17 ⟨rfl, rfl, rfl⟩ ⟨rfl, ⟨_, rfl⟩, rfl⟩
theorem k175_9 {Γ : q_Γ} (hG : q_GG Γ) {h : q_F} {s0 : Int} {v1 : Int} (hs0 : s0.toNat = 1 ∨ s0.toNat = 2) :
    q_M Γ q_K 155 175 [(9, s0), (0, v1)] h (fun t w h' => (t = 1 ∧ (∃ z, w = ((0, z) : q_V)) ∧ h' = h)) := by
  have h6 : ((q_ln Γ.2.2.2.1 s0.toNat : Nat) : Int) = 6 := by rcases hs0 with e | e <;> rw [e] <;> rfl
  refine q_M.of (by decide) (Nat.le_of_ble_eq_true rfl) hG ?_
  refine r_iload_n c175_0 rfl rfl ?_
  refine r_if_lt c175_1 rfl (by first | exact q_w32_id (by omega) (by omega) | exact q_w32w _ | exact rfl) ?_ ?_
  · intro b1
    refine r_iconst c175_16 rfl ?_
    exact r_iret c175_17 ⟨rfl, rfl, rfl⟩ ⟨rfl, ⟨_, rfl⟩, rfl⟩
  · intro b1
    refine r_iload_n c175_4 rfl rfl ?_
    refine r_aload9 c175_5 rfl rfl ?_
    refine r_alen9 c175_6 (by omega) h6 rfl ?_
    refine r_ic_ge c175_7 rfl (by first | exact q_w32_id (by omega) (by omega) | exact q_w32w _ | exact rfl) (show q_w32 6 = 6 from rfl) ?_ ?_
    · intro b2
      refine r_iconst c175_16 rfl ?_
      exact r_iret c175_17 ⟨rfl, rfl, rfl⟩ ⟨rfl, ⟨_, rfl⟩, rfl⟩
    · intro b2
      refine r_aload9 c175_10 rfl rfl ?_
      refine r_iload_n c175_11 rfl rfl ?_
      refine r_iald9 c175_12 hs0 (by first | exact q_w32_id (by omega) (by omega) | exact q_w32w _ | exact rfl) (by omega) (by omega) rfl rfl ?_
      refine r_goto c175_13 ?_
      exact r_iret c175_17 ⟨rfl, rfl, rfl⟩ ⟨rfl, ⟨_, rfl⟩, rfl⟩
theorem c174_0 : q_cat 174 0 (.iload_n 1) 1 1 0 (0) := ⟨rfl, rfl⟩
theorem c174_1 : q_cat 174 1 (.ifCond .lt 13) 3 14 0 (0) := ⟨rfl, rfl⟩
theorem c174_4 : q_cat 174 4 (.iload_n 1) 1 1 0 (0) := ⟨rfl, rfl⟩
theorem c174_5 : q_cat 174 5 (.aload_n 0) 1 0 0 (0) := ⟨rfl, rfl⟩
theorem c174_6 : q_cat 174 6 (.arraylength) 1 0 0 (0) := ⟨rfl, rfl⟩
theorem c174_7 : q_cat 174 7 (.if_icmp .ge 7) 3 14 0 (0) := ⟨rfl, rfl⟩
theorem c174_10 : q_cat 174 10 (.aload_n 0) 1 0 0 (0) := ⟨rfl, rfl⟩
theorem c174_11 : q_cat 174 11 (.iload_n 1) 1 1 0 (0) := ⟨rfl, rfl⟩
theorem c174_12 : q_cat 174 12 (.iload_n 2) 1 2 0 (0) := ⟨rfl, rfl⟩
theorem c174_13 : q_cat 174 13 (.iastore) 1 0 0 (0) := ⟨rfl, rfl⟩
theorem c174_14 : q_cat 174 14 (.return_) 1 0 0 (0) := ⟨rfl, rfl⟩
theorem k174 {Γ : q_Γ} (hG : q_GG Γ) {h : q_F} (hZ : q_Bz h) {o0 N0 : Nat} {ds0 : List q_Ds} {v1 : Int} {v2 : Int} (hn0 : o0 < 155) (hk0 : q_K o0 = (1, N0, ds0)) (hN0 : N0 ≤ 2048) :
    q_M Γ q_K 155 174 [(2, Int.ofNat o0), (0, v1), (0, v2)] h (fun t w h' => (t = 0 ∧ q_Fr (fun k => k = o0) h h')) := by
  have hNN0 : q_w32 (N0 : Int) = N0 := q_w32_id (by omega) (by omega)
  refine q_M.of (by decide) (Nat.le_of_ble_eq_true rfl) hG ?_
  refine r_iload_n c174_0 rfl rfl ?_
  refine r_if_lt c174_1 rfl (by first | exact q_w32_id (by omega) (by omega) | exact q_w32w _ | exact rfl) ?_ ?_
  · intro b1
    exact r_vret c174_14 ⟨rfl, rfl, rfl⟩ ⟨rfl, (by repeat (first | exact q_Fr.rf | refine q_Fr.ud ?_ (by omega) (by first | assumption | rfl) rfl | refine q_Fr.udz ?_ (by omega) (by first | assumption | decide | omega) | refine q_Fr.tr ?_ (by assumption) (by intro k9 hk9; omega)))⟩
  · intro b1
    refine r_iload_n c174_4 rfl rfl ?_
    refine r_aload_n c174_5 rfl rfl ?_
    refine r_alen c174_6 (by first | assumption | omega) (by decide) (by first | assumption | rfl) (by decide) rfl ?_
    refine r_ic_ge c174_7 rfl (by first | exact q_w32_id (by omega) (by omega) | exact q_w32w _ | exact rfl) (by first | exact q_w32_id (by omega) (by omega) | exact q_w32w _ | exact rfl) ?_ ?_
    · intro b2
      exact r_vret c174_14 ⟨rfl, rfl, rfl⟩ ⟨rfl, (by repeat (first | exact q_Fr.rf | refine q_Fr.ud ?_ (by omega) (by first | assumption | rfl) rfl | refine q_Fr.udz ?_ (by omega) (by first | assumption | decide | omega) | refine q_Fr.tr ?_ (by assumption) (by intro k9 hk9; omega)))⟩
    · intro b2
      refine r_aload_n c174_10 rfl rfl ?_
      refine r_iload_n c174_11 rfl rfl ?_
      refine r_iload_n c174_12 rfl rfl ?_
      refine r_iast c174_13 (by first | assumption | omega) (by decide) (by first | assumption | rfl) (by first | assumption | decide) (by first | exact q_w32_id (by omega) (by omega) | exact q_w32w _ | exact rfl) (by first | assumption | omega) (by first | assumption | omega) rfl ?_
      exact r_vret c174_14 ⟨rfl, rfl, rfl⟩ ⟨rfl, (by repeat (first | exact q_Fr.rf | refine q_Fr.ud ?_ (by omega) (by first | assumption | rfl) rfl | refine q_Fr.udz ?_ (by omega) (by first | assumption | decide | omega) | refine q_Fr.tr ?_ (by assumption) (by intro k9 hk9; omega)))⟩
theorem c201_0 : q_cat 201 0 (.iload_n 1) 1 1 0 (0) := ⟨rfl, rfl⟩
theorem c201_1 : q_cat 201 1 (.ifCond .ne 7) 3 8 0 (0) := ⟨rfl, rfl⟩
theorem c201_4 : q_cat 201 4 (.iconst 0) 1 0 0 (0) := ⟨rfl, rfl⟩
theorem c201_5 : q_cat 201 5 (.goto 6) 3 11 0 (0) := ⟨rfl, rfl⟩
theorem c201_8 : q_cat 201 8 (.iload_n 0) 1 0 0 (0) := ⟨rfl, rfl⟩
theorem c201_9 : q_cat 201 9 (.iload_n 1) 1 1 0 (0) := ⟨rfl, rfl⟩
theorem c201_10 : q_cat 201 10 (.idiv) 1 0 0 (0) := ⟨rfl, rfl⟩
theorem c201_11 : q_cat 201 11 (.ireturn) 1 0 0 (0) := ⟨rfl, rfl⟩
theorem k201 {Γ : q_Γ} (hG : q_GG Γ) {h : q_F} (hZ : q_Bz h) {v0 : Int} {v1 : Int}  :
    q_M Γ q_K 155 201 [(0, v0), (0, v1)] h (fun t w h' => (t = 1 ∧ (∃ z, w = ((0, z) : q_V)) ∧ h' = h)) := by
  refine q_M.of (by decide) (Nat.le_of_ble_eq_true rfl) hG ?_
  refine r_iload_n c201_0 rfl rfl ?_
  refine r_if_ne c201_1 rfl (by first | exact q_w32_id (by omega) (by omega) | exact q_w32w _ | exact rfl) ?_ ?_
  · intro b1
    refine r_iload_n c201_8 rfl rfl ?_
    refine r_iload_n c201_9 rfl rfl ?_
    refine r_idiv c201_10 (by first | assumption | omega) rfl rfl ?_
    exact r_iret c201_11 ⟨rfl, rfl, rfl⟩ ⟨rfl, ⟨_, rfl⟩, rfl⟩
  · intro b1
    refine r_iconst c201_4 rfl ?_
    refine r_goto c201_5 ?_
    exact r_iret c201_11 ⟨rfl, rfl, rfl⟩ ⟨rfl, ⟨_, rfl⟩, rfl⟩
theorem c41_0 : q_cat 41 0 (.aload_n 0) 1 0 0 (0) := ⟨rfl, rfl⟩
theorem c41_1 : q_cat 41 1 (.iconst 0) 1 0 0 (0) := ⟨rfl, rfl⟩
theorem c41_2 : q_cat 41 2 (.putfield 7) 3 0 0 (0) := ⟨rfl, rfl⟩
theorem c41_5 : q_cat 41 5 (.aload_n 0) 1 0 0 (0) := ⟨rfl, rfl⟩
theorem c41_6 : q_cat 41 6 (.iconst 0) 1 0 0 (0) := ⟨rfl, rfl⟩
theorem c41_7 : q_cat 41 7 (.putfield 13) 3 0 1 (0) := ⟨rfl, rfl⟩
theorem c41_10 : q_cat 41 10 (.aload_n 0) 1 0 0 (0) := ⟨rfl, rfl⟩
theorem c41_11 : q_cat 41 11 (.iconst 0) 1 0 0 (0) := ⟨rfl, rfl⟩
theorem c41_12 : q_cat 41 12 (.putfield 16) 3 0 2 (0) := ⟨rfl, rfl⟩
theorem c41_15 : q_cat 41 15 (.aload_n 0) 1 0 0 (0) := ⟨rfl, rfl⟩
theorem c41_16 : q_cat 41 16 (.iconst 0) 1 0 0 (0) := ⟨rfl, rfl⟩
theorem c41_17 : q_cat 41 17 (.putfield 19) 3 0 3 (0) := ⟨rfl, rfl⟩
theorem c41_20 : q_cat 41 20 (.aload_n 0) 1 0 0 (0) := ⟨rfl, rfl⟩
theorem c41_21 : q_cat 41 21 (.iconst 0) 1 0 0 (0) := ⟨rfl, rfl⟩
theorem c41_22 : q_cat 41 22 (.putfield 22) 3 0 4 (0) := ⟨rfl, rfl⟩
theorem c41_25 : q_cat 41 25 (.aload_n 0) 1 0 0 (0) := ⟨rfl, rfl⟩
theorem c41_26 : q_cat 41 26 (.iconst 0) 1 0 0 (0) := ⟨rfl, rfl⟩
theorem c41_27 : q_cat 41 27 (.putfield 25) 3 0 5 (0) := ⟨rfl, rfl⟩
theorem c41_30 : q_cat 41 30 (.aload_n 0) 1 0 0 (0) := ⟨rfl, rfl⟩
theorem c41_31 : q_cat 41 31 (.iconst 0) 1 0 0 (0) := ⟨rfl, rfl⟩
theorem c41_32 : q_cat 41 32 (.putfield 28) 3 0 6 (0) := ⟨rfl, rfl⟩
theorem c41_35 : q_cat 41 35 (.return_) 1 0 0 (0) := ⟨rfl, rfl⟩
theorem k41 {Γ : q_Γ} (hG : q_GG Γ) {h : q_F} (hZ : q_Bz h) {o0 : Nat} (ho0 : q_isC o0) :
    q_M Γ q_K 155 41 [(2, Int.ofNat o0)] h (fun t w h' => (t = 0 ∧ q_Fr (fun k => k = o0) h h')) := by
  obtain ⟨fo00, fo01, fo02⟩ := q_fC ho0
  refine q_M.of (by decide) (Nat.le_of_ble_eq_true rfl) hG ?_
  refine r_aload_n c41_0 rfl rfl ?_
  refine r_iconst c41_1 rfl ?_
  refine r_puti c41_2 (by first | assumption | omega) (by decide) (by first | assumption | rfl) rfl rfl rfl ?_
  refine r_aload_n c41_5 rfl rfl ?_
  refine r_iconst c41_6 rfl ?_
  refine r_puti c41_7 (by first | assumption | omega) (by decide) (by first | assumption | rfl) rfl rfl rfl ?_
  refine r_aload_n c41_10 rfl rfl ?_
  refine r_iconst c41_11 rfl ?_
  refine r_puti c41_12 (by first | assumption | omega) (by decide) (by first | assumption | rfl) rfl rfl rfl ?_
  refine r_aload_n c41_15 rfl rfl ?_
  refine r_iconst c41_16 rfl ?_
  refine r_puti c41_17 (by first | assumption | omega) (by decide) (by first | assumption | rfl) rfl rfl rfl ?_
  refine r_aload_n c41_20 rfl rfl ?_
  refine r_iconst c41_21 rfl ?_
  refine r_puti c41_22 (by first | assumption | omega) (by decide) (by first | assumption | rfl) rfl rfl rfl ?_
  refine r_aload_n c41_25 rfl rfl ?_
  refine r_iconst c41_26 rfl ?_
  refine r_puti c41_27 (by first | assumption | omega) (by decide) (by first | assumption | rfl) rfl rfl rfl ?_
  refine r_aload_n c41_30 rfl rfl ?_
  refine r_iconst c41_31 rfl ?_
  refine r_puti c41_32 (by first | assumption | omega) (by decide) (by first | assumption | rfl) rfl rfl rfl ?_
  exact r_vret c41_35 ⟨rfl, rfl, rfl⟩ ⟨rfl, (by repeat (first | exact q_Fr.rf | refine q_Fr.ud ?_ (by omega) (by first | assumption | rfl) rfl | refine q_Fr.udz ?_ (by omega) (by first | assumption | decide | omega) | refine q_Fr.tr ?_ (by assumption) (by intro k9 hk9; omega)))⟩
theorem c42_0 : q_cat 42 0 (.aload_n 0) 1 0 0 (0) := ⟨rfl, rfl⟩
theorem c42_1 : q_cat 42 1 (.aload_n 1) 1 1 0 (0) := ⟨rfl, rfl⟩
theorem c42_2 : q_cat 42 2 (.getfield 7) 3 0 0 (0) := ⟨rfl, rfl⟩
theorem c42_5 : q_cat 42 5 (.putfield 7) 3 0 0 (0) := ⟨rfl, rfl⟩
theorem c42_8 : q_cat 42 8 (.aload_n 0) 1 0 0 (0) := ⟨rfl, rfl⟩
theorem c42_9 : q_cat 42 9 (.aload_n 1) 1 1 0 (0) := ⟨rfl, rfl⟩
theorem c42_10 : q_cat 42 10 (.getfield 13) 3 0 1 (0) := ⟨rfl, rfl⟩
theorem c42_13 : q_cat 42 13 (.putfield 13) 3 0 1 (0) := ⟨rfl, rfl⟩
theorem c42_16 : q_cat 42 16 (.aload_n 0) 1 0 0 (0) := ⟨rfl, rfl⟩
theorem c42_17 : q_cat 42 17 (.aload_n 1) 1 1 0 (0) := ⟨rfl, rfl⟩
theorem c42_18 : q_cat 42 18 (.getfield 16) 3 0 2 (0) := ⟨rfl, rfl⟩
theorem c42_21 : q_cat 42 21 (.putfield 16) 3 0 2 (0) := ⟨rfl, rfl⟩
theorem c42_24 : q_cat 42 24 (.aload_n 0) 1 0 0 (0) := ⟨rfl, rfl⟩
theorem c42_25 : q_cat 42 25 (.aload_n 1) 1 1 0 (0) := ⟨rfl, rfl⟩
theorem c42_26 : q_cat 42 26 (.getfield 19) 3 0 3 (0) := ⟨rfl, rfl⟩
theorem c42_29 : q_cat 42 29 (.putfield 19) 3 0 3 (0) := ⟨rfl, rfl⟩
theorem c42_32 : q_cat 42 32 (.aload_n 0) 1 0 0 (0) := ⟨rfl, rfl⟩
theorem c42_33 : q_cat 42 33 (.aload_n 1) 1 1 0 (0) := ⟨rfl, rfl⟩
theorem c42_34 : q_cat 42 34 (.getfield 22) 3 0 4 (0) := ⟨rfl, rfl⟩
theorem c42_37 : q_cat 42 37 (.putfield 22) 3 0 4 (0) := ⟨rfl, rfl⟩
theorem c42_40 : q_cat 42 40 (.aload_n 0) 1 0 0 (0) := ⟨rfl, rfl⟩
theorem c42_41 : q_cat 42 41 (.aload_n 1) 1 1 0 (0) := ⟨rfl, rfl⟩
theorem c42_42 : q_cat 42 42 (.getfield 25) 3 0 5 (0) := ⟨rfl, rfl⟩
theorem c42_45 : q_cat 42 45 (.putfield 25) 3 0 5 (0) := ⟨rfl, rfl⟩
theorem c42_48 : q_cat 42 48 (.aload_n 0) 1 0 0 (0) := ⟨rfl, rfl⟩
theorem c42_49 : q_cat 42 49 (.aload_n 1) 1 1 0 (0) := ⟨rfl, rfl⟩
theorem c42_50 : q_cat 42 50 (.getfield 28) 3 0 6 (0) := ⟨rfl, rfl⟩
theorem c42_53 : q_cat 42 53 (.putfield 28) 3 0 6 (0) := ⟨rfl, rfl⟩
theorem c42_56 : q_cat 42 56 (.return_) 1 0 0 (0) := ⟨rfl, rfl⟩
theorem k42 {Γ : q_Γ} (hG : q_GG Γ) {h : q_F} (hZ : q_Bz h) {o0 : Nat} {o1 : Nat} (ho0 : q_isC o0) (ho1 : q_isC o1) :
    q_M Γ q_K 155 42 [(2, Int.ofNat o0), (2, Int.ofNat o1)] h (fun t w h' => (t = 0 ∧ q_Fr (fun k => k = o0) h h')) := by
  obtain ⟨fo00, fo01, fo02⟩ := q_fC ho0
  obtain ⟨fo10, fo11, fo12⟩ := q_fC ho1
  refine q_M.of (by decide) (Nat.le_of_ble_eq_true rfl) hG ?_
  refine r_aload_n c42_0 rfl rfl ?_
  refine r_aload_n c42_1 rfl rfl ?_
  refine r_geti c42_2 (by first | assumption | omega) (by decide) (by first | assumption | rfl) rfl rfl ?_
  refine r_puti c42_5 (by first | assumption | omega) (by decide) (by first | assumption | rfl) rfl rfl rfl ?_
  refine r_aload_n c42_8 rfl rfl ?_
  refine r_aload_n c42_9 rfl rfl ?_
  refine r_geti c42_10 (by first | assumption | omega) (by decide) (by first | assumption | rfl) rfl rfl ?_
  refine r_puti c42_13 (by first | assumption | omega) (by decide) (by first | assumption | rfl) rfl rfl rfl ?_
  refine r_aload_n c42_16 rfl rfl ?_
  refine r_aload_n c42_17 rfl rfl ?_
  refine r_geti c42_18 (by first | assumption | omega) (by decide) (by first | assumption | rfl) rfl rfl ?_
  refine r_puti c42_21 (by first | assumption | omega) (by decide) (by first | assumption | rfl) rfl rfl rfl ?_
  refine r_aload_n c42_24 rfl rfl ?_
  refine r_aload_n c42_25 rfl rfl ?_
  refine r_geti c42_26 (by first | assumption | omega) (by decide) (by first | assumption | rfl) rfl rfl ?_
  refine r_puti c42_29 (by first | assumption | omega) (by decide) (by first | assumption | rfl) rfl rfl rfl ?_
  refine r_aload_n c42_32 rfl rfl ?_
  refine r_aload_n c42_33 rfl rfl ?_
  refine r_geti c42_34 (by first | assumption | omega) (by decide) (by first | assumption | rfl) rfl rfl ?_
  refine r_puti c42_37 (by first | assumption | omega) (by decide) (by first | assumption | rfl) rfl rfl rfl ?_
  refine r_aload_n c42_40 rfl rfl ?_
  refine r_aload_n c42_41 rfl rfl ?_
  refine r_geti c42_42 (by first | assumption | omega) (by decide) (by first | assumption | rfl) rfl rfl ?_
  refine r_puti c42_45 (by first | assumption | omega) (by decide) (by first | assumption | rfl) rfl rfl rfl ?_
  refine r_aload_n c42_48 rfl rfl ?_
  refine r_aload_n c42_49 rfl rfl ?_
  refine r_geti c42_50 (by first | assumption | omega) (by decide) (by first | assumption | rfl) rfl rfl ?_
  refine r_puti c42_53 (by first | assumption | omega) (by decide) (by first | assumption | rfl) rfl rfl rfl ?_
  exact r_vret c42_56 ⟨rfl, rfl, rfl⟩ ⟨rfl, (by repeat (first | exact q_Fr.rf | refine q_Fr.ud ?_ (by omega) (by first | assumption | rfl) rfl | refine q_Fr.udz ?_ (by omega) (by first | assumption | decide | omega) | refine q_Fr.tr ?_ (by assumption) (by intro k9 hk9; omega)))⟩
theorem c44_0 : q_cat 44 0 (.iload_n 1) 1 1 0 (0) := ⟨rfl, rfl⟩
theorem c44_1 : q_cat 44 1 (.tableswitch 60 0 4 #[35, 40, 45, 50, 55]) 35 0 0 (0) := ⟨rfl, rfl⟩
theorem c44_36 : q_cat 44 36 (.aload_n 0) 1 0 0 (0) := ⟨rfl, rfl⟩
theorem c44_37 : q_cat 44 37 (.getfield 7) 3 0 0 (0) := ⟨rfl, rfl⟩
theorem c44_40 : q_cat 44 40 (.ireturn) 1 0 0 (0) := ⟨rfl, rfl⟩
theorem c44_41 : q_cat 44 41 (.aload_n 0) 1 0 0 (0) := ⟨rfl, rfl⟩
theorem c44_42 : q_cat 44 42 (.getfield 13) 3 0 1 (0) := ⟨rfl, rfl⟩
theorem c44_45 : q_cat 44 45 (.ireturn) 1 0 0 (0) := ⟨rfl, rfl⟩
theorem c44_46 : q_cat 44 46 (.aload_n 0) 1 0 0 (0) := ⟨rfl, rfl⟩
theorem c44_47 : q_cat 44 47 (.getfield 19) 3 0 3 (0) := ⟨rfl, rfl⟩
theorem c44_50 : q_cat 44 50 (.ireturn) 1 0 0 (0) := ⟨rfl, rfl⟩
theorem c44_51 : q_cat 44 51 (.aload_n 0) 1 0 0 (0) := ⟨rfl, rfl⟩
theorem c44_52 : q_cat 44 52 (.getfield 22) 3 0 4 (0) := ⟨rfl, rfl⟩
theorem c44_55 : q_cat 44 55 (.ireturn) 1 0 0 (0) := ⟨rfl, rfl⟩
theorem c44_56 : q_cat 44 56 (.aload_n 0) 1 0 0 (0) := ⟨rfl, rfl⟩
theorem c44_57 : q_cat 44 57 (.getfield 25) 3 0 5 (0) := ⟨rfl, rfl⟩
theorem c44_60 : q_cat 44 60 (.ireturn) 1 0 0 (0) := ⟨rfl, rfl⟩
theorem c44_61 : q_cat 44 61 (.aload_n 0) 1 0 0 (0) := ⟨rfl, rfl⟩
theorem c44_62 : q_cat 44 62 (.getfield 28) 3 0 6 (0) := ⟨rfl, rfl⟩
theorem c44_65 : q_cat 44 65 (.ireturn) 1 0 0 (0) := ⟨rfl, rfl⟩
theorem k44 {Γ : q_Γ} (hG : q_GG Γ) {h : q_F} (hZ : q_Bz h) {o0 : Nat} {v1 : Int} (ho0 : q_isC o0) :
    q_M Γ q_K 155 44 [(2, Int.ofNat o0), (0, v1)] h (fun t w h' => (t = 1 ∧ (∃ z, w = ((0, z) : q_V)) ∧ h' = h)) := by
  obtain ⟨fo00, fo01, fo02⟩ := q_fC ho0
  refine q_M.of (by decide) (Nat.le_of_ble_eq_true rfl) hG ?_
  refine r_iload_n c44_0 rfl rfl ?_
  refine r_tsw c44_1 (td := 61) (by first | exact q_w32_id (by omega) (by omega) | exact q_w32w _ | exact rfl) (by decide) (by decide) rfl rfl ?_ ?_
  · intro b1
    refine r_aload_n c44_61 rfl rfl ?_
    refine r_geti c44_62 (by first | assumption | omega) (by decide) (by first | assumption | rfl) rfl rfl ?_
    exact r_iret c44_65 ⟨rfl, rfl, rfl⟩ ⟨rfl, ⟨_, rfl⟩, rfl⟩
  · intro b1 b1b
    obtain e0 | e1 | e2 | e3 | e4 : _ = (0 : Int) ∨ _ = (1 : Int) ∨ _ = (2 : Int) ∨ _ = (3 : Int) ∨ _ = (4 : Int) := q_sw4 b1 b1b
    · refine ⟨36, by rw [e0]; rfl, ?_⟩
      refine r_aload_n c44_36 rfl rfl ?_
      refine r_geti c44_37 (by first | assumption | omega) (by decide) (by first | assumption | rfl) rfl rfl ?_
      exact r_iret c44_40 ⟨rfl, rfl, rfl⟩ ⟨rfl, ⟨_, rfl⟩, rfl⟩
    · refine ⟨41, by rw [e1]; rfl, ?_⟩
      refine r_aload_n c44_41 rfl rfl ?_
      refine r_geti c44_42 (by first | assumption | omega) (by decide) (by first | assumption | rfl) rfl rfl ?_
      exact r_iret c44_45 ⟨rfl, rfl, rfl⟩ ⟨rfl, ⟨_, rfl⟩, rfl⟩
    · refine ⟨46, by rw [e2]; rfl, ?_⟩
      refine r_aload_n c44_46 rfl rfl ?_
      refine r_geti c44_47 (by first | assumption | omega) (by decide) (by first | assumption | rfl) rfl rfl ?_
      exact r_iret c44_50 ⟨rfl, rfl, rfl⟩ ⟨rfl, ⟨_, rfl⟩, rfl⟩
    · refine ⟨51, by rw [e3]; rfl, ?_⟩
      refine r_aload_n c44_51 rfl rfl ?_
      refine r_geti c44_52 (by first | assumption | omega) (by decide) (by first | assumption | rfl) rfl rfl ?_
      exact r_iret c44_55 ⟨rfl, rfl, rfl⟩ ⟨rfl, ⟨_, rfl⟩, rfl⟩
    · refine ⟨56, by rw [e4]; rfl, ?_⟩
      refine r_aload_n c44_56 rfl rfl ?_
      refine r_geti c44_57 (by first | assumption | omega) (by decide) (by first | assumption | rfl) rfl rfl ?_
      exact r_iret c44_60 ⟨rfl, rfl, rfl⟩ ⟨rfl, ⟨_, rfl⟩, rfl⟩
theorem c45_0 : q_cat 45 0 (.iload_n 1) 1 1 0 (0) := ⟨rfl, rfl⟩
theorem c45_1 : q_cat 45 1 (.tableswitch 60 0 4 #[35, 40, 45, 50, 55]) 35 0 0 (0) := ⟨rfl, rfl⟩
theorem c45_36 : q_cat 45 36 (.aload_n 0) 1 0 0 (0) := ⟨rfl, rfl⟩
theorem c45_37 : q_cat 45 37 (.getfield 9) 3 1 0 (0) := ⟨rfl, rfl⟩
theorem c45_40 : q_cat 45 40 (.ireturn) 1 0 0 (0) := ⟨rfl, rfl⟩
theorem c45_41 : q_cat 45 41 (.aload_n 0) 1 0 0 (0) := ⟨rfl, rfl⟩
theorem c45_42 : q_cat 45 42 (.getfield 15) 3 1 1 (0) := ⟨rfl, rfl⟩
theorem c45_45 : q_cat 45 45 (.ireturn) 1 0 0 (0) := ⟨rfl, rfl⟩
theorem c45_46 : q_cat 45 46 (.aload_n 0) 1 0 0 (0) := ⟨rfl, rfl⟩
theorem c45_47 : q_cat 45 47 (.getfield 18) 3 1 2 (0) := ⟨rfl, rfl⟩
theorem c45_50 : q_cat 45 50 (.ireturn) 1 0 0 (0) := ⟨rfl, rfl⟩
theorem c45_51 : q_cat 45 51 (.aload_n 0) 1 0 0 (0) := ⟨rfl, rfl⟩
theorem c45_52 : q_cat 45 52 (.getfield 21) 3 1 3 (0) := ⟨rfl, rfl⟩
theorem c45_55 : q_cat 45 55 (.ireturn) 1 0 0 (0) := ⟨rfl, rfl⟩
theorem c45_56 : q_cat 45 56 (.aload_n 0) 1 0 0 (0) := ⟨rfl, rfl⟩
theorem c45_57 : q_cat 45 57 (.getfield 24) 3 1 4 (0) := ⟨rfl, rfl⟩
theorem c45_60 : q_cat 45 60 (.ireturn) 1 0 0 (0) := ⟨rfl, rfl⟩
theorem c45_61 : q_cat 45 61 (.aload_n 0) 1 0 0 (0) := ⟨rfl, rfl⟩
theorem c45_62 : q_cat 45 62 (.getfield 27) 3 1 5 (0) := ⟨rfl, rfl⟩
theorem c45_65 : q_cat 45 65 (.ireturn) 1 0 0 (0) := ⟨rfl, rfl⟩
theorem k45 {Γ : q_Γ} (hG : q_GG Γ) {h : q_F} (hZ : q_Bz h) {o0 : Nat} {v1 : Int} (ho0 : q_isA o0) :
    q_M Γ q_K 155 45 [(2, Int.ofNat o0), (0, v1)] h (fun t w h' => (t = 1 ∧ (∃ z, w = ((0, z) : q_V)) ∧ h' = h)) := by
  obtain ⟨fo00, fo01, fo02, fo03⟩ := q_fA ho0
  refine q_M.of (by decide) (Nat.le_of_ble_eq_true rfl) hG ?_
  refine r_iload_n c45_0 rfl rfl ?_
  refine r_tsw c45_1 (td := 61) (by first | exact q_w32_id (by omega) (by omega) | exact q_w32w _ | exact rfl) (by decide) (by decide) rfl rfl ?_ ?_
  · intro b1
    refine r_aload_n c45_61 rfl rfl ?_
    refine r_geti c45_62 (by first | assumption | omega) (by decide) (by first | assumption | rfl) rfl rfl ?_
    exact r_iret c45_65 ⟨rfl, rfl, rfl⟩ ⟨rfl, ⟨_, rfl⟩, rfl⟩
  · intro b1 b1b
    obtain e0 | e1 | e2 | e3 | e4 : _ = (0 : Int) ∨ _ = (1 : Int) ∨ _ = (2 : Int) ∨ _ = (3 : Int) ∨ _ = (4 : Int) := q_sw4 b1 b1b
    · refine ⟨36, by rw [e0]; rfl, ?_⟩
      refine r_aload_n c45_36 rfl rfl ?_
      refine r_geti c45_37 (by first | assumption | omega) (by decide) (by first | assumption | rfl) rfl rfl ?_
      exact r_iret c45_40 ⟨rfl, rfl, rfl⟩ ⟨rfl, ⟨_, rfl⟩, rfl⟩
    · refine ⟨41, by rw [e1]; rfl, ?_⟩
      refine r_aload_n c45_41 rfl rfl ?_
      refine r_geti c45_42 (by first | assumption | omega) (by decide) (by first | assumption | rfl) rfl rfl ?_
      exact r_iret c45_45 ⟨rfl, rfl, rfl⟩ ⟨rfl, ⟨_, rfl⟩, rfl⟩
    · refine ⟨46, by rw [e2]; rfl, ?_⟩
      refine r_aload_n c45_46 rfl rfl ?_
      refine r_geti c45_47 (by first | assumption | omega) (by decide) (by first | assumption | rfl) rfl rfl ?_
      exact r_iret c45_50 ⟨rfl, rfl, rfl⟩ ⟨rfl, ⟨_, rfl⟩, rfl⟩
    · refine ⟨51, by rw [e3]; rfl, ?_⟩
      refine r_aload_n c45_51 rfl rfl ?_
      refine r_geti c45_52 (by first | assumption | omega) (by decide) (by first | assumption | rfl) rfl rfl ?_
      exact r_iret c45_55 ⟨rfl, rfl, rfl⟩ ⟨rfl, ⟨_, rfl⟩, rfl⟩
    · refine ⟨56, by rw [e4]; rfl, ?_⟩
      refine r_aload_n c45_56 rfl rfl ?_
      refine r_geti c45_57 (by first | assumption | omega) (by decide) (by first | assumption | rfl) rfl rfl ?_
      exact r_iret c45_60 ⟨rfl, rfl, rfl⟩ ⟨rfl, ⟨_, rfl⟩, rfl⟩
theorem c50_0 : q_cat 50 0 (.iload_n 1) 1 1 0 (0) := ⟨rfl, rfl⟩
theorem c50_1 : q_cat 50 1 (.tableswitch 91 6 11 #[39, 44, 49, 65, 73, 78]) 39 0 0 (0) := ⟨rfl, rfl⟩
theorem c50_40 : q_cat 50 40 (.aload_n 0) 1 0 0 (0) := ⟨rfl, rfl⟩
theorem c50_41 : q_cat 50 41 (.getfield 61) 3 1 6 (0) := ⟨rfl, rfl⟩
theorem c50_44 : q_cat 50 44 (.ireturn) 1 0 0 (0) := ⟨rfl, rfl⟩
theorem c50_45 : q_cat 50 45 (.aload_n 0) 1 0 0 (0) := ⟨rfl, rfl⟩
theorem c50_46 : q_cat 50 46 (.getfield 64) 3 1 7 (0) := ⟨rfl, rfl⟩
theorem c50_49 : q_cat 50 49 (.ireturn) 1 0 0 (0) := ⟨rfl, rfl⟩
theorem c50_50 : q_cat 50 50 (.aload_n 0) 1 0 0 (0) := ⟨rfl, rfl⟩
theorem c50_51 : q_cat 50 51 (.getfield 43) 3 1 14 (3) := ⟨rfl, rfl⟩
theorem c50_54 : q_cat 50 54 (.getfield 83) 3 0 0 (0) := ⟨rfl, rfl⟩
theorem c50_57 : q_cat 50 57 (.aload_n 0) 1 0 0 (0) := ⟨rfl, rfl⟩
theorem c50_58 : q_cat 50 58 (.getfield 43) 3 1 14 (3) := ⟨rfl, rfl⟩
theorem c50_61 : q_cat 50 61 (.getfield 86) 3 0 1 (0) := ⟨rfl, rfl⟩
theorem c50_64 : q_cat 50 64 (.isub) 1 0 0 (0) := ⟨rfl, rfl⟩
theorem c50_65 : q_cat 50 65 (.ireturn) 1 0 0 (0) := ⟨rfl, rfl⟩
theorem c50_66 : q_cat 50 66 (.aload_n 0) 1 0 0 (0) := ⟨rfl, rfl⟩
theorem c50_67 : q_cat 50 67 (.getfield 43) 3 1 14 (3) := ⟨rfl, rfl⟩
theorem c50_70 : q_cat 50 70 (.getfield 89) 3 0 2 (0) := ⟨rfl, rfl⟩
theorem c50_73 : q_cat 50 73 (.ireturn) 1 0 0 (0) := ⟨rfl, rfl⟩
theorem c50_74 : q_cat 50 74 (.aload_n 0) 1 0 0 (0) := ⟨rfl, rfl⟩
theorem c50_75 : q_cat 50 75 (.getfield 33) 3 1 9 (0) := ⟨rfl, rfl⟩
theorem c50_78 : q_cat 50 78 (.ireturn) 1 0 0 (0) := ⟨rfl, rfl⟩
theorem c50_79 : q_cat 50 79 (.aload_n 0) 1 0 0 (0) := ⟨rfl, rfl⟩
theorem c50_80 : q_cat 50 80 (.getfield 67) 3 1 11 (1) := ⟨rfl, rfl⟩
theorem c50_83 : q_cat 50 83 (.ifCond .eq 7) 3 90 0 (0) := ⟨rfl, rfl⟩
theorem c50_86 : q_cat 50 86 (.iconst 1) 1 0 0 (0) := ⟨rfl, rfl⟩
theorem c50_87 : q_cat 50 87 (.goto 4) 3 91 0 (0) := ⟨rfl, rfl⟩
theorem c50_90 : q_cat 50 90 (.iconst 0) 1 0 0 (0) := ⟨rfl, rfl⟩
theorem c50_91 : q_cat 50 91 (.ireturn) 1 0 0 (0) := ⟨rfl, rfl⟩
theorem c50_92 : q_cat 50 92 (.aload_n 0) 1 0 0 (0) := ⟨rfl, rfl⟩
theorem c50_93 : q_cat 50 93 (.getfield 30) 3 1 8 (0) := ⟨rfl, rfl⟩
theorem c50_96 : q_cat 50 96 (.ireturn) 1 0 0 (0) := ⟨rfl, rfl⟩
theorem k50 {Γ : q_Γ} (hG : q_GG Γ) {h : q_F} (hZ : q_Bz h) {o0 : Nat} {v1 : Int} (ho0 : q_isA o0) :
    q_M Γ q_K 155 50 [(2, Int.ofNat o0), (0, v1)] h (fun t w h' => (t = 1 ∧ (∃ z, w = ((0, z) : q_V)) ∧ h' = h)) := by
  obtain ⟨fo00, fo01, fo02, fo03⟩ := q_fA ho0
  refine q_M.of (by decide) (Nat.le_of_ble_eq_true rfl) hG ?_
  refine r_iload_n c50_0 rfl rfl ?_
  refine r_tsw c50_1 (td := 92) (by first | exact q_w32_id (by omega) (by omega) | exact q_w32w _ | exact rfl) (by decide) (by decide) rfl rfl ?_ ?_
  · intro b1
    refine r_aload_n c50_92 rfl rfl ?_
    refine r_geti c50_93 (by first | assumption | omega) (by decide) (by first | assumption | rfl) rfl rfl ?_
    exact r_iret c50_96 ⟨rfl, rfl, rfl⟩ ⟨rfl, ⟨_, rfl⟩, rfl⟩
  · intro b1 b1b
    obtain e6 | e7 | e8 | e9 | e10 | e11 : _ = (6 : Int) ∨ _ = (7 : Int) ∨ _ = (8 : Int) ∨ _ = (9 : Int) ∨ _ = (10 : Int) ∨ _ = (11 : Int) := q_sw6b b1 b1b
    · refine ⟨40, by rw [e6]; rfl, ?_⟩
      refine r_aload_n c50_40 rfl rfl ?_
      refine r_geti c50_41 (by first | assumption | omega) (by decide) (by first | assumption | rfl) rfl rfl ?_
      exact r_iret c50_44 ⟨rfl, rfl, rfl⟩ ⟨rfl, ⟨_, rfl⟩, rfl⟩
    · refine ⟨45, by rw [e7]; rfl, ?_⟩
      refine r_aload_n c50_45 rfl rfl ?_
      refine r_geti c50_46 (by first | assumption | omega) (by decide) (by first | assumption | rfl) rfl rfl ?_
      exact r_iret c50_49 ⟨rfl, rfl, rfl⟩ ⟨rfl, ⟨_, rfl⟩, rfl⟩
    · refine ⟨50, by rw [e8]; rfl, ?_⟩
      refine r_aload_n c50_50 rfl rfl ?_
      refine r_getr c50_51 (by first | assumption | omega) (by decide) (by first | assumption | rfl) rfl rfl ?_
      refine r_geti c50_54 (by first | assumption | omega) (by decide) (by first | assumption | rfl) rfl rfl ?_
      refine r_aload_n c50_57 rfl rfl ?_
      refine r_getr c50_58 (by first | assumption | omega) (by decide) (by first | assumption | rfl) rfl rfl ?_
      refine r_geti c50_61 (by first | assumption | omega) (by decide) (by first | assumption | rfl) rfl rfl ?_
      refine r_isub c50_64 (by first | exact q_w32_id (by omega) (by omega) | exact q_w32w _ | exact rfl) rfl ?_
      exact r_iret c50_65 ⟨rfl, rfl, rfl⟩ ⟨rfl, ⟨_, rfl⟩, rfl⟩
    · refine ⟨66, by rw [e9]; rfl, ?_⟩
      refine r_aload_n c50_66 rfl rfl ?_
      refine r_getr c50_67 (by first | assumption | omega) (by decide) (by first | assumption | rfl) rfl rfl ?_
      refine r_geti c50_70 (by first | assumption | omega) (by decide) (by first | assumption | rfl) rfl rfl ?_
      exact r_iret c50_73 ⟨rfl, rfl, rfl⟩ ⟨rfl, ⟨_, rfl⟩, rfl⟩
    · refine ⟨74, by rw [e10]; rfl, ?_⟩
      refine r_aload_n c50_74 rfl rfl ?_
      refine r_geti c50_75 (by first | assumption | omega) (by decide) (by first | assumption | rfl) rfl rfl ?_
      exact r_iret c50_78 ⟨rfl, rfl, rfl⟩ ⟨rfl, ⟨_, rfl⟩, rfl⟩
    · refine ⟨79, by rw [e11]; rfl, ?_⟩
      refine r_aload_n c50_79 rfl rfl ?_
      refine r_getz hZ c50_80 (by first | assumption | omega) (by decide) (by first | assumption | rfl) rfl rfl rfl ?_
      intro z2
      refine r_if_eq c50_83 rfl (by first | exact q_w32_id (by omega) (by omega) | exact q_w32w _ | exact rfl) ?_ ?_
      · intro b3
        refine r_iconst c50_90 rfl ?_
        exact r_iret c50_91 ⟨rfl, rfl, rfl⟩ ⟨rfl, ⟨_, rfl⟩, rfl⟩
      · intro b3
        refine r_iconst c50_86 rfl ?_
        refine r_goto c50_87 ?_
        exact r_iret c50_91 ⟨rfl, rfl, rfl⟩ ⟨rfl, ⟨_, rfl⟩, rfl⟩
theorem c47_0 : q_cat 47 0 (.aload_n 0) 1 0 0 (0) := ⟨rfl, rfl⟩
theorem c47_1 : q_cat 47 1 (.getfield 61) 3 1 6 (0) := ⟨rfl, rfl⟩
theorem c47_4 : q_cat 47 4 (.aload_n 0) 1 0 0 (0) := ⟨rfl, rfl⟩
theorem c47_5 : q_cat 47 5 (.getfield 73) 3 1 13 (0) := ⟨rfl, rfl⟩
theorem c47_8 : q_cat 47 8 (.isub) 1 0 0 (0) := ⟨rfl, rfl⟩
theorem c47_9 : q_cat 47 9 (.aload_n 0) 1 0 0 (0) := ⟨rfl, rfl⟩
theorem c47_10 : q_cat 47 10 (.getfield 70) 3 1 12 (0) := ⟨rfl, rfl⟩
theorem c47_13 : q_cat 47 13 (.isub) 1 0 0 (0) := ⟨rfl, rfl⟩
theorem c47_14 : q_cat 47 14 (.ireturn) 1 0 0 (0) := ⟨rfl, rfl⟩
theorem k47 {Γ : q_Γ} (hG : q_GG Γ) {h : q_F} (hZ : q_Bz h) {o0 : Nat} (ho0 : q_isA o0) :
    q_M Γ q_K 155 47 [(2, Int.ofNat o0)] h (fun t w h' => (t = 1 ∧ (∃ z, w = ((0, z) : q_V)) ∧ h' = h)) := by
  obtain ⟨fo00, fo01, fo02, fo03⟩ := q_fA ho0
  refine q_M.of (by decide) (Nat.le_of_ble_eq_true rfl) hG ?_
  refine r_aload_n c47_0 rfl rfl ?_
  refine r_geti c47_1 (by first | assumption | omega) (by decide) (by first | assumption | rfl) rfl rfl ?_
  refine r_aload_n c47_4 rfl rfl ?_
  refine r_geti c47_5 (by first | assumption | omega) (by decide) (by first | assumption | rfl) rfl rfl ?_
  refine r_isub c47_8 (by first | exact q_w32_id (by omega) (by omega) | exact q_w32w _ | exact rfl) rfl ?_
  refine r_aload_n c47_9 rfl rfl ?_
  refine r_geti c47_10 (by first | assumption | omega) (by decide) (by first | assumption | rfl) rfl rfl ?_
  refine r_isub c47_13 (by first | exact q_w32_id (by omega) (by omega) | exact q_w32w _ | exact rfl) rfl ?_
  exact r_iret c47_14 ⟨rfl, rfl, rfl⟩ ⟨rfl, ⟨_, rfl⟩, rfl⟩
theorem c53_0 : q_cat 53 0 (.iload_n 1) 1 1 0 (0) := ⟨rfl, rfl⟩
theorem c53_1 : q_cat 53 1 (.ifCond .lt 15) 3 16 0 (0) := ⟨rfl, rfl⟩
theorem c53_4 : q_cat 53 4 (.iload_n 1) 1 1 0 (0) := ⟨rfl, rfl⟩
theorem c53_5 : q_cat 53 5 (.aload_n 0) 1 0 0 (0) := ⟨rfl, rfl⟩
theorem c53_6 : q_cat 53 6 (.getfield 9) 3 1 0 (0) := ⟨rfl, rfl⟩
theorem c53_9 : q_cat 53 9 (.if_icmp .gt 7) 3 16 0 (0) := ⟨rfl, rfl⟩
theorem c53_12 : q_cat 53 12 (.iconst 1) 1 0 0 (0) := ⟨rfl, rfl⟩
theorem c53_13 : q_cat 53 13 (.goto 4) 3 17 0 (0) := ⟨rfl, rfl⟩
theorem c53_16 : q_cat 53 16 (.iconst 0) 1 0 0 (0) := ⟨rfl, rfl⟩
theorem c53_17 : q_cat 53 17 (.ireturn) 1 0 0 (0) := ⟨rfl, rfl⟩
theorem k53 {Γ : q_Γ} (hG : q_GG Γ) {h : q_F} (hZ : q_Bz h) {o0 : Nat} {v1 : Int} (ho0 : q_isA o0) :
    q_M Γ q_K 155 53 [(2, Int.ofNat o0), (0, v1)] h (fun t w h' => (t = 1 ∧ (∃ z, w = ((0, z) : q_V) ∧ (z = 0 ∨ z = 1)) ∧ h' = h)) := by
  obtain ⟨fo00, fo01, fo02, fo03⟩ := q_fA ho0
  refine q_M.of (by decide) (Nat.le_of_ble_eq_true rfl) hG ?_
  refine r_iload_n c53_0 rfl rfl ?_
  refine r_if_lt c53_1 rfl (by first | exact q_w32_id (by omega) (by omega) | exact q_w32w _ | exact rfl) ?_ ?_
  · intro b1
    refine r_iconst c53_16 rfl ?_
    exact r_zret c53_17 ⟨rfl, rfl, rfl⟩ (by decide) ⟨rfl, ⟨_, rfl, (by decide)⟩, rfl⟩
  · intro b1
    refine r_iload_n c53_4 rfl rfl ?_
    refine r_aload_n c53_5 rfl rfl ?_
    refine r_geti c53_6 (by first | assumption | omega) (by decide) (by first | assumption | rfl) rfl rfl ?_
    refine r_ic_gt c53_9 rfl (by first | exact q_w32_id (by omega) (by omega) | exact q_w32w _ | exact rfl) (by first | exact q_w32_id (by omega) (by omega) | exact q_w32w _ | exact rfl) ?_ ?_
    · intro b2
      refine r_iconst c53_16 rfl ?_
      exact r_zret c53_17 ⟨rfl, rfl, rfl⟩ (by decide) ⟨rfl, ⟨_, rfl, (by decide)⟩, rfl⟩
    · intro b2
      refine r_iconst c53_12 rfl ?_
      refine r_goto c53_13 ?_
      exact r_zret c53_17 ⟨rfl, rfl, rfl⟩ (by decide) ⟨rfl, ⟨_, rfl, (by decide)⟩, rfl⟩
theorem c54_0 : q_cat 54 0 (.aload_n 0) 1 0 0 (0) := ⟨rfl, rfl⟩
theorem c54_1 : q_cat 54 1 (.getfield 33) 3 1 9 (0) := ⟨rfl, rfl⟩
theorem c54_4 : q_cat 54 4 (.ifCond .ne 10) 3 14 0 (0) := ⟨rfl, rfl⟩
theorem c54_7 : q_cat 54 7 (.aload_n 0) 1 0 0 (0) := ⟨rfl, rfl⟩
theorem c54_8 : q_cat 54 8 (.getfield 36) 3 1 10 (1) := ⟨rfl, rfl⟩
theorem c54_11 : q_cat 54 11 (.goto 16) 3 27 0 (0) := ⟨rfl, rfl⟩
theorem c54_14 : q_cat 54 14 (.aload_n 0) 1 0 0 (0) := ⟨rfl, rfl⟩
theorem c54_15 : q_cat 54 15 (.getfield 33) 3 1 9 (0) := ⟨rfl, rfl⟩
theorem c54_18 : q_cat 54 18 (.iconst 2) 1 0 0 (0) := ⟨rfl, rfl⟩
theorem c54_19 : q_cat 54 19 (.if_icmp .ne 7) 3 26 0 (0) := ⟨rfl, rfl⟩
theorem c54_22 : q_cat 54 22 (.iconst 1) 1 0 0 (0) := ⟨rfl, rfl⟩
theorem c54_23 : q_cat 54 23 (.goto 4) 3 27 0 (0) := ⟨rfl, rfl⟩
theorem c54_26 : q_cat 54 26 (.iconst 0) 1 0 0 (0) := ⟨rfl, rfl⟩
theorem c54_27 : q_cat 54 27 (.ireturn) 1 0 0 (0) := ⟨rfl, rfl⟩
theorem k54 {Γ : q_Γ} (hG : q_GG Γ) {h : q_F} (hZ : q_Bz h) {o0 : Nat} (ho0 : q_isA o0) :
    q_M Γ q_K 155 54 [(2, Int.ofNat o0)] h (fun t w h' => (t = 1 ∧ (∃ z, w = ((0, z) : q_V) ∧ (z = 0 ∨ z = 1)) ∧ h' = h)) := by
  obtain ⟨fo00, fo01, fo02, fo03⟩ := q_fA ho0
  refine q_M.of (by decide) (Nat.le_of_ble_eq_true rfl) hG ?_
  refine r_aload_n c54_0 rfl rfl ?_
  refine r_geti c54_1 (by first | assumption | omega) (by decide) (by first | assumption | rfl) rfl rfl ?_
  refine r_if_ne c54_4 rfl (by first | exact q_w32_id (by omega) (by omega) | exact q_w32w _ | exact rfl) ?_ ?_
  · intro b1
    refine r_aload_n c54_14 rfl rfl ?_
    refine r_geti c54_15 (by first | assumption | omega) (by decide) (by first | assumption | rfl) rfl rfl ?_
    refine r_iconst c54_18 rfl ?_
    refine r_ic_ne c54_19 rfl (by first | exact q_w32_id (by omega) (by omega) | exact q_w32w _ | exact rfl) (show q_w32 (2) = 2 from rfl) ?_ ?_
    · intro b2
      refine r_iconst c54_26 rfl ?_
      exact r_zret c54_27 ⟨rfl, rfl, rfl⟩ (by decide) ⟨rfl, ⟨_, rfl, (by decide)⟩, rfl⟩
    · intro b2
      refine r_iconst c54_22 rfl ?_
      refine r_goto c54_23 ?_
      exact r_zret c54_27 ⟨rfl, rfl, rfl⟩ (by decide) ⟨rfl, ⟨_, rfl, (by decide)⟩, rfl⟩
  · intro b1
    refine r_aload_n c54_7 rfl rfl ?_
    refine r_getz hZ c54_8 (by first | assumption | omega) (by decide) (by first | assumption | rfl) rfl rfl rfl ?_
    intro z3
    refine r_goto c54_11 ?_
    exact r_zret c54_27 ⟨rfl, rfl, rfl⟩ (by first | assumption | omega) ⟨rfl, ⟨_, rfl, (by first | assumption | omega)⟩, rfl⟩
theorem c58_0 : q_cat 58 0 (.iload_n 1) 1 1 0 (0) := ⟨rfl, rfl⟩
theorem c58_1 : q_cat 58 1 (.ifCond .le 11) 3 12 0 (0) := ⟨rfl, rfl⟩
theorem c58_4 : q_cat 58 4 (.aload_n 0) 1 0 0 (0) := ⟨rfl, rfl⟩
theorem c58_5 : q_cat 58 5 (.getfield 30) 3 1 8 (0) := ⟨rfl, rfl⟩
theorem c58_8 : q_cat 58 8 (.iconst (-1)) 1 0 0 (0) := ⟨rfl, rfl⟩
theorem c58_9 : q_cat 58 9 (.if_icmp .eq 15) 3 24 0 (0) := ⟨rfl, rfl⟩
theorem c58_12 : q_cat 58 12 (.iload_n 1) 1 1 0 (0) := ⟨rfl, rfl⟩
theorem c58_13 : q_cat 58 13 (.ifCond .ge 15) 3 28 0 (0) := ⟨rfl, rfl⟩
theorem c58_16 : q_cat 58 16 (.aload_n 0) 1 0 0 (0) := ⟨rfl, rfl⟩
theorem c58_17 : q_cat 58 17 (.getfield 30) 3 1 8 (0) := ⟨rfl, rfl⟩
theorem c58_20 : q_cat 58 20 (.iconst 1) 1 0 0 (0) := ⟨rfl, rfl⟩
theorem c58_21 : q_cat 58 21 (.if_icmp .ne 7) 3 28 0 (0) := ⟨rfl, rfl⟩
theorem c58_24 : q_cat 58 24 (.iconst 1) 1 0 0 (0) := ⟨rfl, rfl⟩
theorem c58_25 : q_cat 58 25 (.goto 4) 3 29 0 (0) := ⟨rfl, rfl⟩
theorem c58_28 : q_cat 58 28 (.iconst 0) 1 0 0 (0) := ⟨rfl, rfl⟩
theorem c58_29 : q_cat 58 29 (.ireturn) 1 0 0 (0) := ⟨rfl, rfl⟩
theorem k58 {Γ : q_Γ} (hG : q_GG Γ) {h : q_F} (hZ : q_Bz h) {o0 : Nat} {v1 : Int} (ho0 : q_isA o0) :
    q_M Γ q_K 155 58 [(2, Int.ofNat o0), (0, v1)] h (fun t w h' => (t = 1 ∧ (∃ z, w = ((0, z) : q_V) ∧ (z = 0 ∨ z = 1)) ∧ h' = h)) := by
  obtain ⟨fo00, fo01, fo02, fo03⟩ := q_fA ho0
  refine q_M.of (by decide) (Nat.le_of_ble_eq_true rfl) hG ?_
  refine r_iload_n c58_0 rfl rfl ?_
  refine r_if_le c58_1 rfl (by first | exact q_w32_id (by omega) (by omega) | exact q_w32w _ | exact rfl) ?_ ?_
  · intro b1
    refine r_iload_n c58_12 rfl rfl ?_
    refine r_if_ge c58_13 rfl (by first | exact q_w32_id (by omega) (by omega) | exact q_w32w _ | exact rfl) ?_ ?_
    · intro b2
      refine r_iconst c58_28 rfl ?_
      exact r_zret c58_29 ⟨rfl, rfl, rfl⟩ (by decide) ⟨rfl, ⟨_, rfl, (by decide)⟩, rfl⟩
    · intro b2
      refine r_aload_n c58_16 rfl rfl ?_
      refine r_geti c58_17 (by first | assumption | omega) (by decide) (by first | assumption | rfl) rfl rfl ?_
      refine r_iconst c58_20 rfl ?_
      refine r_ic_ne c58_21 rfl (by first | exact q_w32_id (by omega) (by omega) | exact q_w32w _ | exact rfl) (show q_w32 (1) = 1 from rfl) ?_ ?_
      · intro b3
        refine r_iconst c58_28 rfl ?_
        exact r_zret c58_29 ⟨rfl, rfl, rfl⟩ (by decide) ⟨rfl, ⟨_, rfl, (by decide)⟩, rfl⟩
      · intro b3
        refine r_iconst c58_24 rfl ?_
        refine r_goto c58_25 ?_
        exact r_zret c58_29 ⟨rfl, rfl, rfl⟩ (by decide) ⟨rfl, ⟨_, rfl, (by decide)⟩, rfl⟩
  · intro b1
    refine r_aload_n c58_4 rfl rfl ?_
    refine r_geti c58_5 (by first | assumption | omega) (by decide) (by first | assumption | rfl) rfl rfl ?_
    refine r_iconst c58_8 rfl ?_
    refine r_ic_eq c58_9 rfl (by first | exact q_w32_id (by omega) (by omega) | exact q_w32w _ | exact rfl) (show q_w32 (-1) = -1 from rfl) ?_ ?_
    · intro b4
      refine r_iconst c58_24 rfl ?_
      refine r_goto c58_25 ?_
      exact r_zret c58_29 ⟨rfl, rfl, rfl⟩ (by decide) ⟨rfl, ⟨_, rfl, (by decide)⟩, rfl⟩
    · intro b4
      refine r_iload_n c58_12 rfl rfl ?_
      refine r_if_ge c58_13 rfl (by first | exact q_w32_id (by omega) (by omega) | exact q_w32w _ | exact rfl) ?_ ?_
      · intro b5
        refine r_iconst c58_28 rfl ?_
        exact r_zret c58_29 ⟨rfl, rfl, rfl⟩ (by decide) ⟨rfl, ⟨_, rfl, (by decide)⟩, rfl⟩
      · intro b5
        refine r_aload_n c58_16 rfl rfl ?_
        refine r_geti c58_17 (by first | assumption | omega) (by decide) (by first | assumption | rfl) rfl rfl ?_
        refine r_iconst c58_20 rfl ?_
        refine r_ic_ne c58_21 rfl (by first | exact q_w32_id (by omega) (by omega) | exact q_w32w _ | exact rfl) (show q_w32 (1) = 1 from rfl) ?_ ?_
        · intro b6
          refine r_iconst c58_28 rfl ?_
          exact r_zret c58_29 ⟨rfl, rfl, rfl⟩ (by decide) ⟨rfl, ⟨_, rfl, (by decide)⟩, rfl⟩
        · intro b6
          refine r_iconst c58_24 rfl ?_
          refine r_goto c58_25 ?_
          exact r_zret c58_29 ⟨rfl, rfl, rfl⟩ (by decide) ⟨rfl, ⟨_, rfl, (by decide)⟩, rfl⟩
theorem c52_0 : q_cat 52 0 (.aload_n 0) 1 0 0 (0) := ⟨rfl, rfl⟩
theorem c52_1 : q_cat 52 1 (.getfield 43) 3 1 14 (3) := ⟨rfl, rfl⟩
theorem c52_4 : q_cat 52 4 (.dup) 1 0 0 (0) := ⟨rfl, rfl⟩
theorem c52_5 : q_cat 52 5 (.getfield 83) 3 0 0 (0) := ⟨rfl, rfl⟩
theorem c52_8 : q_cat 52 8 (.iconst 1) 1 0 0 (0) := ⟨rfl, rfl⟩
theorem c52_9 : q_cat 52 9 (.iadd) 1 0 0 (0) := ⟨rfl, rfl⟩
theorem c52_10 : q_cat 52 10 (.putfield 83) 3 0 0 (0) := ⟨rfl, rfl⟩
theorem c52_13 : q_cat 52 13 (.aload_n 0) 1 0 0 (0) := ⟨rfl, rfl⟩
theorem c52_14 : q_cat 52 14 (.getfield 64) 3 1 7 (0) := ⟨rfl, rfl⟩
theorem c52_17 : q_cat 52 17 (.aload_n 0) 1 0 0 (0) := ⟨rfl, rfl⟩
theorem c52_18 : q_cat 52 18 (.getfield 15) 3 1 1 (0) := ⟨rfl, rfl⟩
theorem c52_21 : q_cat 52 21 (.if_icmp .ge 15) 3 36 0 (0) := ⟨rfl, rfl⟩
theorem c52_24 : q_cat 52 24 (.aload_n 0) 1 0 0 (0) := ⟨rfl, rfl⟩
theorem c52_25 : q_cat 52 25 (.dup) 1 0 0 (0) := ⟨rfl, rfl⟩
theorem c52_26 : q_cat 52 26 (.getfield 64) 3 1 7 (0) := ⟨rfl, rfl⟩
theorem c52_29 : q_cat 52 29 (.iconst 1) 1 0 0 (0) := ⟨rfl, rfl⟩
theorem c52_30 : q_cat 52 30 (.iadd) 1 0 0 (0) := ⟨rfl, rfl⟩
theorem c52_31 : q_cat 52 31 (.putfield 64) 3 1 7 (0) := ⟨rfl, rfl⟩
theorem c52_34 : q_cat 52 34 (.iconst 1) 1 0 0 (0) := ⟨rfl, rfl⟩
theorem c52_35 : q_cat 52 35 (.ireturn) 1 0 0 (0) := ⟨rfl, rfl⟩
theorem c52_36 : q_cat 52 36 (.aload_n 0) 1 0 0 (0) := ⟨rfl, rfl⟩
theorem c52_37 : q_cat 52 37 (.getfield 61) 3 1 6 (0) := ⟨rfl, rfl⟩
theorem c52_40 : q_cat 52 40 (.aload_n 0) 1 0 0 (0) := ⟨rfl, rfl⟩
theorem c52_41 : q_cat 52 41 (.getfield 9) 3 1 0 (0) := ⟨rfl, rfl⟩
theorem c52_44 : q_cat 52 44 (.if_icmp .ge 15) 3 59 0 (0) := ⟨rfl, rfl⟩
theorem c52_47 : q_cat 52 47 (.aload_n 0) 1 0 0 (0) := ⟨rfl, rfl⟩
theorem c52_48 : q_cat 52 48 (.dup) 1 0 0 (0) := ⟨rfl, rfl⟩
theorem c52_49 : q_cat 52 49 (.getfield 61) 3 1 6 (0) := ⟨rfl, rfl⟩
theorem c52_52 : q_cat 52 52 (.iconst 1) 1 0 0 (0) := ⟨rfl, rfl⟩
theorem c52_53 : q_cat 52 53 (.iadd) 1 0 0 (0) := ⟨rfl, rfl⟩
theorem c52_54 : q_cat 52 54 (.putfield 61) 3 1 6 (0) := ⟨rfl, rfl⟩
theorem c52_57 : q_cat 52 57 (.iconst 1) 1 0 0 (0) := ⟨rfl, rfl⟩
theorem c52_58 : q_cat 52 58 (.ireturn) 1 0 0 (0) := ⟨rfl, rfl⟩
theorem c52_59 : q_cat 52 59 (.iconst 0) 1 0 0 (0) := ⟨rfl, rfl⟩
theorem c52_60 : q_cat 52 60 (.ireturn) 1 0 0 (0) := ⟨rfl, rfl⟩
theorem k52 {Γ : q_Γ} (hG : q_GG Γ) {h : q_F} (hZ : q_Bz h) {o0 : Nat} (ho0 : q_isA o0) :
    q_M Γ q_K 155 52 [(2, Int.ofNat o0)] h (fun t w h' => (t = 1 ∧ (∃ z, w = ((0, z) : q_V) ∧ (z = 0 ∨ z = 1)) ∧ q_Fr (fun k => k = o0 ∨ k = o0 + 1) h h')) := by
  obtain ⟨fo00, fo01, fo02, fo03⟩ := q_fA ho0
  refine q_M.of (by decide) (Nat.le_of_ble_eq_true rfl) hG ?_
  refine r_aload_n c52_0 rfl rfl ?_
  refine r_getr c52_1 (by first | assumption | omega) (by decide) (by first | assumption | rfl) rfl rfl ?_
  refine r_dup c52_4 rfl rfl ?_
  refine r_geti c52_5 (by first | assumption | omega) (by decide) (by first | assumption | rfl) rfl rfl ?_
  refine r_iconst c52_8 rfl ?_
  refine r_iadd c52_9 (by first | exact q_w32_id (by omega) (by omega) | exact q_w32w _ | exact rfl) rfl ?_
  refine r_puti c52_10 (by first | assumption | omega) (by decide) (by first | assumption | rfl) rfl rfl rfl ?_
  refine r_aload_n c52_13 rfl rfl ?_
  refine r_geti c52_14 (by first | assumption | omega) (by decide) (by first | assumption | rfl) rfl rfl ?_
  refine r_aload_n c52_17 rfl rfl ?_
  refine r_geti c52_18 (by first | assumption | omega) (by decide) (by first | assumption | rfl) rfl rfl ?_
  refine r_ic_ge c52_21 rfl (by first | exact q_w32_id (by omega) (by omega) | exact q_w32w _ | exact rfl) (by first | exact q_w32_id (by omega) (by omega) | exact q_w32w _ | exact rfl) ?_ ?_
  · intro b1
    refine r_aload_n c52_36 rfl rfl ?_
    refine r_geti c52_37 (by first | assumption | omega) (by decide) (by first | assumption | rfl) rfl rfl ?_
    refine r_aload_n c52_40 rfl rfl ?_
    refine r_geti c52_41 (by first | assumption | omega) (by decide) (by first | assumption | rfl) rfl rfl ?_
    refine r_ic_ge c52_44 rfl (by first | exact q_w32_id (by omega) (by omega) | exact q_w32w _ | exact rfl) (by first | exact q_w32_id (by omega) (by omega) | exact q_w32w _ | exact rfl) ?_ ?_
    · intro b2
      refine r_iconst c52_59 rfl ?_
      exact r_zret c52_60 ⟨rfl, rfl, rfl⟩ (by decide) ⟨rfl, ⟨_, rfl, (by decide)⟩, (by repeat (first | exact q_Fr.rf | refine q_Fr.ud ?_ (by omega) (by first | assumption | rfl) rfl | refine q_Fr.udz ?_ (by omega) (by first | assumption | decide | omega) | refine q_Fr.tr ?_ (by assumption) (by intro k9 hk9; omega)))⟩
    · intro b2
      refine r_aload_n c52_47 rfl rfl ?_
      refine r_dup c52_48 rfl rfl ?_
      refine r_geti c52_49 (by first | assumption | omega) (by decide) (by first | assumption | rfl) rfl rfl ?_
      refine r_iconst c52_52 rfl ?_
      refine r_iadd c52_53 (by first | exact q_w32_id (by omega) (by omega) | exact q_w32w _ | exact rfl) rfl ?_
      refine r_puti c52_54 (by first | assumption | omega) (by decide) (by first | assumption | rfl) rfl rfl rfl ?_
      refine r_iconst c52_57 rfl ?_
      exact r_zret c52_58 ⟨rfl, rfl, rfl⟩ (by decide) ⟨rfl, ⟨_, rfl, (by decide)⟩, (by repeat (first | exact q_Fr.rf | refine q_Fr.ud ?_ (by omega) (by first | assumption | rfl) rfl | refine q_Fr.udz ?_ (by omega) (by first | assumption | decide | omega) | refine q_Fr.tr ?_ (by assumption) (by intro k9 hk9; omega)))⟩
  · intro b1
    refine r_aload_n c52_24 rfl rfl ?_
    refine r_dup c52_25 rfl rfl ?_
    refine r_geti c52_26 (by first | assumption | omega) (by decide) (by first | assumption | rfl) rfl rfl ?_
    refine r_iconst c52_29 rfl ?_
    refine r_iadd c52_30 (by first | exact q_w32_id (by omega) (by omega) | exact q_w32w _ | exact rfl) rfl ?_
    refine r_puti c52_31 (by first | assumption | omega) (by decide) (by first | assumption | rfl) rfl rfl rfl ?_
    refine r_iconst c52_34 rfl ?_
    exact r_zret c52_35 ⟨rfl, rfl, rfl⟩ (by decide) ⟨rfl, ⟨_, rfl, (by decide)⟩, (by repeat (first | exact q_Fr.rf | refine q_Fr.ud ?_ (by omega) (by first | assumption | rfl) rfl | refine q_Fr.udz ?_ (by omega) (by first | assumption | decide | omega) | refine q_Fr.tr ?_ (by assumption) (by intro k9 hk9; omega)))⟩
theorem c51_0 : q_cat 51 0 (.aload_n 0) 1 0 0 (0) := ⟨rfl, rfl⟩
theorem c51_1 : q_cat 51 1 (.getfield 43) 3 1 14 (3) := ⟨rfl, rfl⟩
theorem c51_4 : q_cat 51 4 (.dup) 1 0 0 (0) := ⟨rfl, rfl⟩
theorem c51_5 : q_cat 51 5 (.getfield 86) 3 0 1 (0) := ⟨rfl, rfl⟩
theorem c51_8 : q_cat 51 8 (.iconst 1) 1 0 0 (0) := ⟨rfl, rfl⟩
theorem c51_9 : q_cat 51 9 (.iadd) 1 0 0 (0) := ⟨rfl, rfl⟩
theorem c51_10 : q_cat 51 10 (.putfield 86) 3 0 1 (0) := ⟨rfl, rfl⟩
theorem c51_13 : q_cat 51 13 (.aload_n 0) 1 0 0 (0) := ⟨rfl, rfl⟩
theorem c51_14 : q_cat 51 14 (.getfield 64) 3 1 7 (0) := ⟨rfl, rfl⟩
theorem c51_17 : q_cat 51 17 (.ifCond .le 15) 3 32 0 (0) := ⟨rfl, rfl⟩
theorem c51_20 : q_cat 51 20 (.aload_n 0) 1 0 0 (0) := ⟨rfl, rfl⟩
theorem c51_21 : q_cat 51 21 (.dup) 1 0 0 (0) := ⟨rfl, rfl⟩
theorem c51_22 : q_cat 51 22 (.getfield 64) 3 1 7 (0) := ⟨rfl, rfl⟩
theorem c51_25 : q_cat 51 25 (.iconst 1) 1 0 0 (0) := ⟨rfl, rfl⟩
theorem c51_26 : q_cat 51 26 (.isub) 1 0 0 (0) := ⟨rfl, rfl⟩
theorem c51_27 : q_cat 51 27 (.putfield 64) 3 1 7 (0) := ⟨rfl, rfl⟩
theorem c51_30 : q_cat 51 30 (.iconst 1) 1 0 0 (0) := ⟨rfl, rfl⟩
theorem c51_31 : q_cat 51 31 (.ireturn) 1 0 0 (0) := ⟨rfl, rfl⟩
theorem c51_32 : q_cat 51 32 (.aload_n 0) 1 0 0 (0) := ⟨rfl, rfl⟩
theorem c51_33 : q_cat 51 33 (.getfield 61) 3 1 6 (0) := ⟨rfl, rfl⟩
theorem c51_36 : q_cat 51 36 (.ifCond .le 15) 3 51 0 (0) := ⟨rfl, rfl⟩
theorem c51_39 : q_cat 51 39 (.aload_n 0) 1 0 0 (0) := ⟨rfl, rfl⟩
theorem c51_40 : q_cat 51 40 (.dup) 1 0 0 (0) := ⟨rfl, rfl⟩
theorem c51_41 : q_cat 51 41 (.getfield 61) 3 1 6 (0) := ⟨rfl, rfl⟩
theorem c51_44 : q_cat 51 44 (.iconst 1) 1 0 0 (0) := ⟨rfl, rfl⟩
theorem c51_45 : q_cat 51 45 (.isub) 1 0 0 (0) := ⟨rfl, rfl⟩
theorem c51_46 : q_cat 51 46 (.putfield 61) 3 1 6 (0) := ⟨rfl, rfl⟩
theorem c51_49 : q_cat 51 49 (.iconst 1) 1 0 0 (0) := ⟨rfl, rfl⟩
theorem c51_50 : q_cat 51 50 (.ireturn) 1 0 0 (0) := ⟨rfl, rfl⟩
theorem c51_51 : q_cat 51 51 (.iconst 0) 1 0 0 (0) := ⟨rfl, rfl⟩
theorem c51_52 : q_cat 51 52 (.ireturn) 1 0 0 (0) := ⟨rfl, rfl⟩
theorem k51 {Γ : q_Γ} (hG : q_GG Γ) {h : q_F} (hZ : q_Bz h) {o0 : Nat} (ho0 : q_isA o0) :
    q_M Γ q_K 155 51 [(2, Int.ofNat o0)] h (fun t w h' => (t = 1 ∧ (∃ z, w = ((0, z) : q_V) ∧ (z = 0 ∨ z = 1)) ∧ q_Fr (fun k => k = o0 ∨ k = o0 + 1) h h')) := by
  obtain ⟨fo00, fo01, fo02, fo03⟩ := q_fA ho0
  refine q_M.of (by decide) (Nat.le_of_ble_eq_true rfl) hG ?_
  refine r_aload_n c51_0 rfl rfl ?_
  refine r_getr c51_1 (by first | assumption | omega) (by decide) (by first | assumption | rfl) rfl rfl ?_
  refine r_dup c51_4 rfl rfl ?_
  refine r_geti c51_5 (by first | assumption | omega) (by decide) (by first | assumption | rfl) rfl rfl ?_
  refine r_iconst c51_8 rfl ?_
  refine r_iadd c51_9 (by first | exact q_w32_id (by omega) (by omega) | exact q_w32w _ | exact rfl) rfl ?_
  refine r_puti c51_10 (by first | assumption | omega) (by decide) (by first | assumption | rfl) rfl rfl rfl ?_
  refine r_aload_n c51_13 rfl rfl ?_
  refine r_geti c51_14 (by first | assumption | omega) (by decide) (by first | assumption | rfl) rfl rfl ?_
  refine r_if_le c51_17 rfl (by first | exact q_w32_id (by omega) (by omega) | exact q_w32w _ | exact rfl) ?_ ?_
  · intro b1
    refine r_aload_n c51_32 rfl rfl ?_
    refine r_geti c51_33 (by first | assumption | omega) (by decide) (by first | assumption | rfl) rfl rfl ?_
    refine r_if_le c51_36 rfl (by first | exact q_w32_id (by omega) (by omega) | exact q_w32w _ | exact rfl) ?_ ?_
    · intro b2
      refine r_iconst c51_51 rfl ?_
      exact r_zret c51_52 ⟨rfl, rfl, rfl⟩ (by decide) ⟨rfl, ⟨_, rfl, (by decide)⟩, (by repeat (first | exact q_Fr.rf | refine q_Fr.ud ?_ (by omega) (by first | assumption | rfl) rfl | refine q_Fr.udz ?_ (by omega) (by first | assumption | decide | omega) | refine q_Fr.tr ?_ (by assumption) (by intro k9 hk9; omega)))⟩
    · intro b2
      refine r_aload_n c51_39 rfl rfl ?_
      refine r_dup c51_40 rfl rfl ?_
      refine r_geti c51_41 (by first | assumption | omega) (by decide) (by first | assumption | rfl) rfl rfl ?_
      refine r_iconst c51_44 rfl ?_
      refine r_isub c51_45 (by first | exact q_w32_id (by omega) (by omega) | exact q_w32w _ | exact rfl) rfl ?_
      refine r_puti c51_46 (by first | assumption | omega) (by decide) (by first | assumption | rfl) rfl rfl rfl ?_
      refine r_iconst c51_49 rfl ?_
      exact r_zret c51_50 ⟨rfl, rfl, rfl⟩ (by decide) ⟨rfl, ⟨_, rfl, (by decide)⟩, (by repeat (first | exact q_Fr.rf | refine q_Fr.ud ?_ (by omega) (by first | assumption | rfl) rfl | refine q_Fr.udz ?_ (by omega) (by first | assumption | decide | omega) | refine q_Fr.tr ?_ (by assumption) (by intro k9 hk9; omega)))⟩
  · intro b1
    refine r_aload_n c51_20 rfl rfl ?_
    refine r_dup c51_21 rfl rfl ?_
    refine r_geti c51_22 (by first | assumption | omega) (by decide) (by first | assumption | rfl) rfl rfl ?_
    refine r_iconst c51_25 rfl ?_
    refine r_isub c51_26 (by first | exact q_w32_id (by omega) (by omega) | exact q_w32w _ | exact rfl) rfl ?_
    refine r_puti c51_27 (by first | assumption | omega) (by decide) (by first | assumption | rfl) rfl rfl rfl ?_
    refine r_iconst c51_30 rfl ?_
    exact r_zret c51_31 ⟨rfl, rfl, rfl⟩ (by decide) ⟨rfl, ⟨_, rfl, (by decide)⟩, (by repeat (first | exact q_Fr.rf | refine q_Fr.ud ?_ (by omega) (by first | assumption | rfl) rfl | refine q_Fr.udz ?_ (by omega) (by first | assumption | decide | omega) | refine q_Fr.tr ?_ (by assumption) (by intro k9 hk9; omega)))⟩
theorem c49_0 : q_cat 49 0 (.aload_n 0) 1 0 0 (0) := ⟨rfl, rfl⟩
theorem c49_1 : q_cat 49 1 (.iload_n 1) 1 1 0 (0) := ⟨rfl, rfl⟩
theorem c49_2 : q_cat 49 2 (.putfield 30) 3 1 8 (0) := ⟨rfl, rfl⟩
theorem c49_5 : q_cat 49 5 (.iload_n 1) 1 1 0 (0) := ⟨rfl, rfl⟩
theorem c49_6 : q_cat 49 6 (.iconst 1) 1 0 0 (0) := ⟨rfl, rfl⟩
theorem c49_7 : q_cat 49 7 (.if_icmp .ne 10) 3 17 0 (0) := ⟨rfl, rfl⟩
theorem c49_10 : q_cat 49 10 (.aload_n 0) 1 0 0 (0) := ⟨rfl, rfl⟩
theorem c49_11 : q_cat 49 11 (.invokevirtual 92) 3 52 0 (0) := ⟨rfl, rfl⟩
theorem c49_14 : q_cat 49 14 (.goto 7) 3 21 0 (0) := ⟨rfl, rfl⟩
theorem c49_17 : q_cat 49 17 (.aload_n 0) 1 0 0 (0) := ⟨rfl, rfl⟩
theorem c49_18 : q_cat 49 18 (.invokevirtual 96) 3 51 0 (0) := ⟨rfl, rfl⟩
theorem c49_21 : q_cat 49 21 (.istore_n 2) 1 2 0 (0) := ⟨rfl, rfl⟩
theorem c49_22 : q_cat 49 22 (.iload_n 2) 1 2 0 (0) := ⟨rfl, rfl⟩
theorem c49_23 : q_cat 49 23 (.ifCond .ne 16) 3 39 0 (0) := ⟨rfl, rfl⟩
theorem c49_26 : q_cat 49 26 (.aload_n 0) 1 0 0 (0) := ⟨rfl, rfl⟩
theorem c49_27 : q_cat 49 27 (.getfield 43) 3 1 14 (3) := ⟨rfl, rfl⟩
theorem c49_30 : q_cat 49 30 (.dup) 1 0 0 (0) := ⟨rfl, rfl⟩
theorem c49_31 : q_cat 49 31 (.getfield 89) 3 0 2 (0) := ⟨rfl, rfl⟩
theorem c49_34 : q_cat 49 34 (.iconst 1) 1 0 0 (0) := ⟨rfl, rfl⟩
theorem c49_35 : q_cat 49 35 (.iadd) 1 0 0 (0) := ⟨rfl, rfl⟩
theorem c49_36 : q_cat 49 36 (.putfield 89) 3 0 2 (0) := ⟨rfl, rfl⟩
theorem c49_39 : q_cat 49 39 (.aload_n 0) 1 0 0 (0) := ⟨rfl, rfl⟩
theorem c49_40 : q_cat 49 40 (.getfield 61) 3 1 6 (0) := ⟨rfl, rfl⟩
theorem c49_43 : q_cat 49 43 (.aload_n 0) 1 0 0 (0) := ⟨rfl, rfl⟩
theorem c49_44 : q_cat 49 44 (.getfield 24) 3 1 4 (0) := ⟨rfl, rfl⟩
theorem c49_47 : q_cat 49 47 (.if_icmp .gt 11) 3 58 0 (0) := ⟨rfl, rfl⟩
theorem c49_50 : q_cat 49 50 (.aload_n 0) 1 0 0 (0) := ⟨rfl, rfl⟩
theorem c49_51 : q_cat 49 51 (.iconst 1) 1 0 0 (0) := ⟨rfl, rfl⟩
theorem c49_52 : q_cat 49 52 (.putfield 36) 3 1 10 (1) := ⟨rfl, rfl⟩
theorem c49_55 : q_cat 49 55 (.goto 24) 3 79 0 (0) := ⟨rfl, rfl⟩
theorem c49_58 : q_cat 49 58 (.aload_n 0) 1 0 0 (0) := ⟨rfl, rfl⟩
theorem c49_59 : q_cat 49 59 (.getfield 61) 3 1 6 (0) := ⟨rfl, rfl⟩
theorem c49_62 : q_cat 49 62 (.aload_n 0) 1 0 0 (0) := ⟨rfl, rfl⟩
theorem c49_63 : q_cat 49 63 (.getfield 24) 3 1 4 (0) := ⟨rfl, rfl⟩
theorem c49_66 : q_cat 49 66 (.aload_n 0) 1 0 0 (0) := ⟨rfl, rfl⟩
theorem c49_67 : q_cat 49 67 (.getfield 27) 3 1 5 (0) := ⟨rfl, rfl⟩
theorem c49_70 : q_cat 49 70 (.iadd) 1 0 0 (0) := ⟨rfl, rfl⟩
theorem c49_71 : q_cat 49 71 (.if_icmp .le 8) 3 79 0 (0) := ⟨rfl, rfl⟩
theorem c49_74 : q_cat 49 74 (.aload_n 0) 1 0 0 (0) := ⟨rfl, rfl⟩
theorem c49_75 : q_cat 49 75 (.iconst 0) 1 0 0 (0) := ⟨rfl, rfl⟩
theorem c49_76 : q_cat 49 76 (.putfield 36) 3 1 10 (1) := ⟨rfl, rfl⟩
theorem c49_79 : q_cat 49 79 (.iload_n 2) 1 2 0 (0) := ⟨rfl, rfl⟩
theorem c49_80 : q_cat 49 80 (.ireturn) 1 0 0 (0) := ⟨rfl, rfl⟩
theorem k49 {Γ : q_Γ} (hG : q_GG Γ) {h : q_F} (hZ : q_Bz h) {o0 : Nat} {v1 : Int} (ho0 : q_isA o0) :
    q_M Γ q_K 155 49 [(2, Int.ofNat o0), (0, v1)] h (fun t w h' => (t = 1 ∧ (∃ z, w = ((0, z) : q_V) ∧ (z = 0 ∨ z = 1)) ∧ q_Fr (fun k => k = o0 ∨ k = o0 + 1) h h')) := by
  obtain ⟨fo00, fo01, fo02, fo03⟩ := q_fA ho0
  refine q_M.of (by decide) (Nat.le_of_ble_eq_true rfl) hG ?_
  refine r_aload_n c49_0 rfl rfl ?_
  refine r_iload_n c49_1 rfl rfl ?_
  refine r_puti c49_2 (by first | assumption | omega) (by decide) (by first | assumption | rfl) rfl rfl rfl ?_
  refine r_iload_n c49_5 rfl rfl ?_
  refine r_iconst c49_6 rfl ?_
  refine r_ic_ne c49_7 rfl (by first | exact q_w32_id (by omega) (by omega) | exact q_w32w _ | exact rfl) (show q_w32 (1) = 1 from rfl) ?_ ?_
  · intro b1
    refine r_aload_n c49_17 rfl rfl ?_
    refine r_vcG c49_18 (by first | assumption | omega) (by decide) (by first | assumption | rfl) rfl rfl rfl (k51 hG (q_Fr.bz (S := fun k => k = o0 ∨ k = o0 + 1) hZ (by repeat (first | exact q_Fr.rf | refine q_Fr.ud ?_ (by omega) (by first | assumption | rfl) rfl | refine q_Fr.udz ?_ (by omega) (by first | assumption | decide | omega) | refine q_Fr.tr ?_ (by assumption) (by intro k9 hk9; omega)))) (by first | assumption | exact q_hC (by assumption) | exact q_h1 (by assumption) | exact q_h3 (by assumption) | exact q_h5 (by assumption) | exact q_hG (by assumption) | exact q_hP | exact q_hB1 | exact q_hB2 | exact q_hT6 | exact q_hT15 | exact q_hT24)) ?_
    intro t2 w2 g2 p2
    obtain ⟨rfl, ⟨z2, rfl, hz2⟩, e2⟩ := p2
    refine Or.inr (Or.inl ⟨rfl, ?_⟩)
    refine r_istore_n c49_21 (lo' := [(2, _), (0, _), (1, _)]) rfl rfl rfl ?_
    refine r_iload_n c49_22 rfl rfl ?_
    refine r_if_ne c49_23 rfl (by first | exact q_w32_id (by omega) (by omega) | exact q_w32w _ | exact rfl) ?_ ?_
    · intro b3
      refine r_aload_n c49_39 rfl rfl ?_
      refine r_geti c49_40 (by first | assumption | omega) (by decide) (by first | assumption | rfl) rfl rfl ?_
      refine r_aload_n c49_43 rfl rfl ?_
      refine r_geti c49_44 (by first | assumption | omega) (by decide) (by first | assumption | rfl) rfl rfl ?_
      refine r_ic_gt c49_47 rfl (by first | exact q_w32_id (by omega) (by omega) | exact q_w32w _ | exact rfl) (by first | exact q_w32_id (by omega) (by omega) | exact q_w32w _ | exact rfl) ?_ ?_
      · intro b4
        refine r_aload_n c49_58 rfl rfl ?_
        refine r_geti c49_59 (by first | assumption | omega) (by decide) (by first | assumption | rfl) rfl rfl ?_
        refine r_aload_n c49_62 rfl rfl ?_
        refine r_geti c49_63 (by first | assumption | omega) (by decide) (by first | assumption | rfl) rfl rfl ?_
        refine r_aload_n c49_66 rfl rfl ?_
        refine r_geti c49_67 (by first | assumption | omega) (by decide) (by first | assumption | rfl) rfl rfl ?_
        refine r_iadd c49_70 (by first | exact q_w32_id (by omega) (by omega) | exact q_w32w _ | exact rfl) rfl ?_
        refine r_ic_le c49_71 rfl (by first | exact q_w32_id (by omega) (by omega) | exact q_w32w _ | exact rfl) (by first | exact q_w32_id (by omega) (by omega) | exact q_w32w _ | exact rfl) ?_ ?_
        · intro b5
          refine r_iload_n c49_79 rfl rfl ?_
          exact r_zret c49_80 ⟨rfl, rfl, rfl⟩ (by first | assumption | omega) ⟨rfl, ⟨_, rfl, (by first | assumption | omega)⟩, (by repeat (first | exact q_Fr.rf | refine q_Fr.ud ?_ (by omega) (by first | assumption | rfl) rfl | refine q_Fr.udz ?_ (by omega) (by first | assumption | decide | omega) | refine q_Fr.tr ?_ (by assumption) (by intro k9 hk9; omega)))⟩
        · intro b5
          refine r_aload_n c49_74 rfl rfl ?_
          refine r_iconst c49_75 rfl ?_
          refine r_puti c49_76 (by first | assumption | omega) (by decide) (by first | assumption | rfl) rfl rfl rfl ?_
          refine r_iload_n c49_79 rfl rfl ?_
          exact r_zret c49_80 ⟨rfl, rfl, rfl⟩ (by first | assumption | omega) ⟨rfl, ⟨_, rfl, (by first | assumption | omega)⟩, (by repeat (first | exact q_Fr.rf | refine q_Fr.ud ?_ (by omega) (by first | assumption | rfl) rfl | refine q_Fr.udz ?_ (by omega) (by first | assumption | decide | omega) | refine q_Fr.tr ?_ (by assumption) (by intro k9 hk9; omega)))⟩
      · intro b4
        refine r_aload_n c49_50 rfl rfl ?_
        refine r_iconst c49_51 rfl ?_
        refine r_puti c49_52 (by first | assumption | omega) (by decide) (by first | assumption | rfl) rfl rfl rfl ?_
        refine r_goto c49_55 ?_
        refine r_iload_n c49_79 rfl rfl ?_
        exact r_zret c49_80 ⟨rfl, rfl, rfl⟩ (by first | assumption | omega) ⟨rfl, ⟨_, rfl, (by first | assumption | omega)⟩, (by repeat (first | exact q_Fr.rf | refine q_Fr.ud ?_ (by omega) (by first | assumption | rfl) rfl | refine q_Fr.udz ?_ (by omega) (by first | assumption | decide | omega) | refine q_Fr.tr ?_ (by assumption) (by intro k9 hk9; omega)))⟩
    · intro b3
      refine r_aload_n c49_26 rfl rfl ?_
      refine r_getr c49_27 (by first | assumption | omega) (by decide) (by first | assumption | rfl) rfl rfl ?_
      refine r_dup c49_30 rfl rfl ?_
      refine r_geti c49_31 (by first | assumption | omega) (by decide) (by first | assumption | rfl) rfl rfl ?_
      refine r_iconst c49_34 rfl ?_
      refine r_iadd c49_35 (by first | exact q_w32_id (by omega) (by omega) | exact q_w32w _ | exact rfl) rfl ?_
      refine r_puti c49_36 (by first | assumption | omega) (by decide) (by first | assumption | rfl) rfl rfl rfl ?_
      refine r_aload_n c49_39 rfl rfl ?_
      refine r_geti c49_40 (by first | assumption | omega) (by decide) (by first | assumption | rfl) rfl rfl ?_
      refine r_aload_n c49_43 rfl rfl ?_
      refine r_geti c49_44 (by first | assumption | omega) (by decide) (by first | assumption | rfl) rfl rfl ?_
      refine r_ic_gt c49_47 rfl (by first | exact q_w32_id (by omega) (by omega) | exact q_w32w _ | exact rfl) (by first | exact q_w32_id (by omega) (by omega) | exact q_w32w _ | exact rfl) ?_ ?_
      · intro b6
        refine r_aload_n c49_58 rfl rfl ?_
        refine r_geti c49_59 (by first | assumption | omega) (by decide) (by first | assumption | rfl) rfl rfl ?_
        refine r_aload_n c49_62 rfl rfl ?_
        refine r_geti c49_63 (by first | assumption | omega) (by decide) (by first | assumption | rfl) rfl rfl ?_
        refine r_aload_n c49_66 rfl rfl ?_
        refine r_geti c49_67 (by first | assumption | omega) (by decide) (by first | assumption | rfl) rfl rfl ?_
        refine r_iadd c49_70 (by first | exact q_w32_id (by omega) (by omega) | exact q_w32w _ | exact rfl) rfl ?_
        refine r_ic_le c49_71 rfl (by first | exact q_w32_id (by omega) (by omega) | exact q_w32w _ | exact rfl) (by first | exact q_w32_id (by omega) (by omega) | exact q_w32w _ | exact rfl) ?_ ?_
        · intro b7
          refine r_iload_n c49_79 rfl rfl ?_
          exact r_zret c49_80 ⟨rfl, rfl, rfl⟩ (by first | assumption | omega) ⟨rfl, ⟨_, rfl, (by first | assumption | omega)⟩, (by repeat (first | exact q_Fr.rf | refine q_Fr.ud ?_ (by omega) (by first | assumption | rfl) rfl | refine q_Fr.udz ?_ (by omega) (by first | assumption | decide | omega) | refine q_Fr.tr ?_ (by assumption) (by intro k9 hk9; omega)))⟩
        · intro b7
          refine r_aload_n c49_74 rfl rfl ?_
          refine r_iconst c49_75 rfl ?_
          refine r_puti c49_76 (by first | assumption | omega) (by decide) (by first | assumption | rfl) rfl rfl rfl ?_
          refine r_iload_n c49_79 rfl rfl ?_
          exact r_zret c49_80 ⟨rfl, rfl, rfl⟩ (by first | assumption | omega) ⟨rfl, ⟨_, rfl, (by first | assumption | omega)⟩, (by repeat (first | exact q_Fr.rf | refine q_Fr.ud ?_ (by omega) (by first | assumption | rfl) rfl | refine q_Fr.udz ?_ (by omega) (by first | assumption | decide | omega) | refine q_Fr.tr ?_ (by assumption) (by intro k9 hk9; omega)))⟩
      · intro b6
        refine r_aload_n c49_50 rfl rfl ?_
        refine r_iconst c49_51 rfl ?_
        refine r_puti c49_52 (by first | assumption | omega) (by decide) (by first | assumption | rfl) rfl rfl rfl ?_
        refine r_goto c49_55 ?_
        refine r_iload_n c49_79 rfl rfl ?_
        exact r_zret c49_80 ⟨rfl, rfl, rfl⟩ (by first | assumption | omega) ⟨rfl, ⟨_, rfl, (by first | assumption | omega)⟩, (by repeat (first | exact q_Fr.rf | refine q_Fr.ud ?_ (by omega) (by first | assumption | rfl) rfl | refine q_Fr.udz ?_ (by omega) (by first | assumption | decide | omega) | refine q_Fr.tr ?_ (by assumption) (by intro k9 hk9; omega)))⟩
  · intro b1
    refine r_aload_n c49_10 rfl rfl ?_
    refine r_vcG c49_11 (by first | assumption | omega) (by decide) (by first | assumption | rfl) rfl rfl rfl (k52 hG (q_Fr.bz (S := fun k => k = o0 ∨ k = o0 + 1) hZ (by repeat (first | exact q_Fr.rf | refine q_Fr.ud ?_ (by omega) (by first | assumption | rfl) rfl | refine q_Fr.udz ?_ (by omega) (by first | assumption | decide | omega) | refine q_Fr.tr ?_ (by assumption) (by intro k9 hk9; omega)))) (by first | assumption | exact q_hC (by assumption) | exact q_h1 (by assumption) | exact q_h3 (by assumption) | exact q_h5 (by assumption) | exact q_hG (by assumption) | exact q_hP | exact q_hB1 | exact q_hB2 | exact q_hT6 | exact q_hT15 | exact q_hT24)) ?_
    intro t8 w8 g8 p8
    obtain ⟨rfl, ⟨z8, rfl, hz8⟩, e8⟩ := p8
    refine Or.inr (Or.inl ⟨rfl, ?_⟩)
    refine r_goto c49_14 ?_
    refine r_istore_n c49_21 (lo' := [(2, _), (0, _), (1, _)]) rfl rfl rfl ?_
    refine r_iload_n c49_22 rfl rfl ?_
    refine r_if_ne c49_23 rfl (by first | exact q_w32_id (by omega) (by omega) | exact q_w32w _ | exact rfl) ?_ ?_
    · intro b9
      refine r_aload_n c49_39 rfl rfl ?_
      refine r_geti c49_40 (by first | assumption | omega) (by decide) (by first | assumption | rfl) rfl rfl ?_
      refine r_aload_n c49_43 rfl rfl ?_
      refine r_geti c49_44 (by first | assumption | omega) (by decide) (by first | assumption | rfl) rfl rfl ?_
      refine r_ic_gt c49_47 rfl (by first | exact q_w32_id (by omega) (by omega) | exact q_w32w _ | exact rfl) (by first | exact q_w32_id (by omega) (by omega) | exact q_w32w _ | exact rfl) ?_ ?_
      · intro b10
        refine r_aload_n c49_58 rfl rfl ?_
        refine r_geti c49_59 (by first | assumption | omega) (by decide) (by first | assumption | rfl) rfl rfl ?_
        refine r_aload_n c49_62 rfl rfl ?_
        refine r_geti c49_63 (by first | assumption | omega) (by decide) (by first | assumption | rfl) rfl rfl ?_
        refine r_aload_n c49_66 rfl rfl ?_
        refine r_geti c49_67 (by first | assumption | omega) (by decide) (by first | assumption | rfl) rfl rfl ?_
        refine r_iadd c49_70 (by first | exact q_w32_id (by omega) (by omega) | exact q_w32w _ | exact rfl) rfl ?_
        refine r_ic_le c49_71 rfl (by first | exact q_w32_id (by omega) (by omega) | exact q_w32w _ | exact rfl) (by first | exact q_w32_id (by omega) (by omega) | exact q_w32w _ | exact rfl) ?_ ?_
        · intro b11
          refine r_iload_n c49_79 rfl rfl ?_
          exact r_zret c49_80 ⟨rfl, rfl, rfl⟩ (by first | assumption | omega) ⟨rfl, ⟨_, rfl, (by first | assumption | omega)⟩, (by repeat (first | exact q_Fr.rf | refine q_Fr.ud ?_ (by omega) (by first | assumption | rfl) rfl | refine q_Fr.udz ?_ (by omega) (by first | assumption | decide | omega) | refine q_Fr.tr ?_ (by assumption) (by intro k9 hk9; omega)))⟩
        · intro b11
          refine r_aload_n c49_74 rfl rfl ?_
          refine r_iconst c49_75 rfl ?_
          refine r_puti c49_76 (by first | assumption | omega) (by decide) (by first | assumption | rfl) rfl rfl rfl ?_
          refine r_iload_n c49_79 rfl rfl ?_
          exact r_zret c49_80 ⟨rfl, rfl, rfl⟩ (by first | assumption | omega) ⟨rfl, ⟨_, rfl, (by first | assumption | omega)⟩, (by repeat (first | exact q_Fr.rf | refine q_Fr.ud ?_ (by omega) (by first | assumption | rfl) rfl | refine q_Fr.udz ?_ (by omega) (by first | assumption | decide | omega) | refine q_Fr.tr ?_ (by assumption) (by intro k9 hk9; omega)))⟩
      · intro b10
        refine r_aload_n c49_50 rfl rfl ?_
        refine r_iconst c49_51 rfl ?_
        refine r_puti c49_52 (by first | assumption | omega) (by decide) (by first | assumption | rfl) rfl rfl rfl ?_
        refine r_goto c49_55 ?_
        refine r_iload_n c49_79 rfl rfl ?_
        exact r_zret c49_80 ⟨rfl, rfl, rfl⟩ (by first | assumption | omega) ⟨rfl, ⟨_, rfl, (by first | assumption | omega)⟩, (by repeat (first | exact q_Fr.rf | refine q_Fr.ud ?_ (by omega) (by first | assumption | rfl) rfl | refine q_Fr.udz ?_ (by omega) (by first | assumption | decide | omega) | refine q_Fr.tr ?_ (by assumption) (by intro k9 hk9; omega)))⟩
    · intro b9
      refine r_aload_n c49_26 rfl rfl ?_
      refine r_getr c49_27 (by first | assumption | omega) (by decide) (by first | assumption | rfl) rfl rfl ?_
      refine r_dup c49_30 rfl rfl ?_
      refine r_geti c49_31 (by first | assumption | omega) (by decide) (by first | assumption | rfl) rfl rfl ?_
      refine r_iconst c49_34 rfl ?_
      refine r_iadd c49_35 (by first | exact q_w32_id (by omega) (by omega) | exact q_w32w _ | exact rfl) rfl ?_
      refine r_puti c49_36 (by first | assumption | omega) (by decide) (by first | assumption | rfl) rfl rfl rfl ?_
      refine r_aload_n c49_39 rfl rfl ?_
      refine r_geti c49_40 (by first | assumption | omega) (by decide) (by first | assumption | rfl) rfl rfl ?_
      refine r_aload_n c49_43 rfl rfl ?_
      refine r_geti c49_44 (by first | assumption | omega) (by decide) (by first | assumption | rfl) rfl rfl ?_
      refine r_ic_gt c49_47 rfl (by first | exact q_w32_id (by omega) (by omega) | exact q_w32w _ | exact rfl) (by first | exact q_w32_id (by omega) (by omega) | exact q_w32w _ | exact rfl) ?_ ?_
      · intro b12
        refine r_aload_n c49_58 rfl rfl ?_
        refine r_geti c49_59 (by first | assumption | omega) (by decide) (by first | assumption | rfl) rfl rfl ?_
        refine r_aload_n c49_62 rfl rfl ?_
        refine r_geti c49_63 (by first | assumption | omega) (by decide) (by first | assumption | rfl) rfl rfl ?_
        refine r_aload_n c49_66 rfl rfl ?_
        refine r_geti c49_67 (by first | assumption | omega) (by decide) (by first | assumption | rfl) rfl rfl ?_
        refine r_iadd c49_70 (by first | exact q_w32_id (by omega) (by omega) | exact q_w32w _ | exact rfl) rfl ?_
        refine r_ic_le c49_71 rfl (by first | exact q_w32_id (by omega) (by omega) | exact q_w32w _ | exact rfl) (by first | exact q_w32_id (by omega) (by omega) | exact q_w32w _ | exact rfl) ?_ ?_
        · intro b13
          refine r_iload_n c49_79 rfl rfl ?_
          exact r_zret c49_80 ⟨rfl, rfl, rfl⟩ (by first | assumption | omega) ⟨rfl, ⟨_, rfl, (by first | assumption | omega)⟩, (by repeat (first | exact q_Fr.rf | refine q_Fr.ud ?_ (by omega) (by first | assumption | rfl) rfl | refine q_Fr.udz ?_ (by omega) (by first | assumption | decide | omega) | refine q_Fr.tr ?_ (by assumption) (by intro k9 hk9; omega)))⟩
        · intro b13
          refine r_aload_n c49_74 rfl rfl ?_
          refine r_iconst c49_75 rfl ?_
          refine r_puti c49_76 (by first | assumption | omega) (by decide) (by first | assumption | rfl) rfl rfl rfl ?_
          refine r_iload_n c49_79 rfl rfl ?_
          exact r_zret c49_80 ⟨rfl, rfl, rfl⟩ (by first | assumption | omega) ⟨rfl, ⟨_, rfl, (by first | assumption | omega)⟩, (by repeat (first | exact q_Fr.rf | refine q_Fr.ud ?_ (by omega) (by first | assumption | rfl) rfl | refine q_Fr.udz ?_ (by omega) (by first | assumption | decide | omega) | refine q_Fr.tr ?_ (by assumption) (by intro k9 hk9; omega)))⟩
      · intro b12
        refine r_aload_n c49_50 rfl rfl ?_
        refine r_iconst c49_51 rfl ?_
        refine r_puti c49_52 (by first | assumption | omega) (by decide) (by first | assumption | rfl) rfl rfl rfl ?_
        refine r_goto c49_55 ?_
        refine r_iload_n c49_79 rfl rfl ?_
        exact r_zret c49_80 ⟨rfl, rfl, rfl⟩ (by first | assumption | omega) ⟨rfl, ⟨_, rfl, (by first | assumption | omega)⟩, (by repeat (first | exact q_Fr.rf | refine q_Fr.ud ?_ (by omega) (by first | assumption | rfl) rfl | refine q_Fr.udz ?_ (by omega) (by first | assumption | decide | omega) | refine q_Fr.tr ?_ (by assumption) (by intro k9 hk9; omega)))⟩
theorem c59_0 : q_cat 59 0 (.aload_n 0) 1 0 0 (0) := ⟨rfl, rfl⟩
theorem c59_1 : q_cat 59 1 (.iconst 1) 1 0 0 (0) := ⟨rfl, rfl⟩
theorem c59_2 : q_cat 59 2 (.putfield 67) 3 1 11 (1) := ⟨rfl, rfl⟩
theorem c59_5 : q_cat 59 5 (.aload_n 0) 1 0 0 (0) := ⟨rfl, rfl⟩
theorem c59_6 : q_cat 59 6 (.iconst 0) 1 0 0 (0) := ⟨rfl, rfl⟩
theorem c59_7 : q_cat 59 7 (.putfield 70) 3 1 12 (0) := ⟨rfl, rfl⟩
theorem c59_10 : q_cat 59 10 (.aload_n 0) 1 0 0 (0) := ⟨rfl, rfl⟩
theorem c59_11 : q_cat 59 11 (.aload_n 0) 1 0 0 (0) := ⟨rfl, rfl⟩
theorem c59_12 : q_cat 59 12 (.getfield 61) 3 1 6 (0) := ⟨rfl, rfl⟩
theorem c59_15 : q_cat 59 15 (.putfield 73) 3 1 13 (0) := ⟨rfl, rfl⟩
theorem c59_18 : q_cat 59 18 (.return_) 1 0 0 (0) := ⟨rfl, rfl⟩
theorem k59 {Γ : q_Γ} (hG : q_GG Γ) {h : q_F} (hZ : q_Bz h) {o0 : Nat} (ho0 : q_isA o0) :
    q_M Γ q_K 155 59 [(2, Int.ofNat o0)] h (fun t w h' => (t = 0 ∧ q_Fr (fun k => k = o0 ∨ k = o0 + 1) h h')) := by
  obtain ⟨fo00, fo01, fo02, fo03⟩ := q_fA ho0
  refine q_M.of (by decide) (Nat.le_of_ble_eq_true rfl) hG ?_
  refine r_aload_n c59_0 rfl rfl ?_
  refine r_iconst c59_1 rfl ?_
  refine r_puti c59_2 (by first | assumption | omega) (by decide) (by first | assumption | rfl) rfl rfl rfl ?_
  refine r_aload_n c59_5 rfl rfl ?_
  refine r_iconst c59_6 rfl ?_
  refine r_puti c59_7 (by first | assumption | omega) (by decide) (by first | assumption | rfl) rfl rfl rfl ?_
  refine r_aload_n c59_10 rfl rfl ?_
  refine r_aload_n c59_11 rfl rfl ?_
  refine r_geti c59_12 (by first | assumption | omega) (by decide) (by first | assumption | rfl) rfl rfl ?_
  refine r_puti c59_15 (by first | assumption | omega) (by decide) (by first | assumption | rfl) rfl rfl rfl ?_
  exact r_vret c59_18 ⟨rfl, rfl, rfl⟩ ⟨rfl, (by repeat (first | exact q_Fr.rf | refine q_Fr.ud ?_ (by omega) (by first | assumption | rfl) rfl | refine q_Fr.udz ?_ (by omega) (by first | assumption | decide | omega) | refine q_Fr.tr ?_ (by assumption) (by intro k9 hk9; omega)))⟩
theorem c57_0 : q_cat 57 0 (.iload_n 1) 1 1 0 (0) := ⟨rfl, rfl⟩
theorem c57_1 : q_cat 57 1 (.ifCond .eq 30) 3 31 0 (0) := ⟨rfl, rfl⟩
theorem c57_4 : q_cat 57 4 (.aload_n 0) 1 0 0 (0) := ⟨rfl, rfl⟩
theorem c57_5 : q_cat 57 5 (.getfield 61) 3 1 6 (0) := ⟨rfl, rfl⟩
theorem c57_8 : q_cat 57 8 (.aload_n 0) 1 0 0 (0) := ⟨rfl, rfl⟩
theorem c57_9 : q_cat 57 9 (.getfield 9) 3 1 0 (0) := ⟨rfl, rfl⟩
theorem c57_12 : q_cat 57 12 (.if_icmp .ge 17) 3 29 0 (0) := ⟨rfl, rfl⟩
theorem c57_15 : q_cat 57 15 (.aload_n 0) 1 0 0 (0) := ⟨rfl, rfl⟩
theorem c57_16 : q_cat 57 16 (.getfield 15) 3 1 1 (0) := ⟨rfl, rfl⟩
theorem c57_19 : q_cat 57 19 (.aload_n 0) 1 0 0 (0) := ⟨rfl, rfl⟩
theorem c57_20 : q_cat 57 20 (.getfield 64) 3 1 7 (0) := ⟨rfl, rfl⟩
theorem c57_23 : q_cat 57 23 (.isub) 1 0 0 (0) := ⟨rfl, rfl⟩
theorem c57_24 : q_cat 57 24 (.iconst 1) 1 0 0 (0) := ⟨rfl, rfl⟩
theorem c57_25 : q_cat 57 25 (.iadd) 1 0 0 (0) := ⟨rfl, rfl⟩
theorem c57_26 : q_cat 57 26 (.goto 4) 3 30 0 (0) := ⟨rfl, rfl⟩
theorem c57_29 : q_cat 57 29 (.iconst (-1)) 1 0 0 (0) := ⟨rfl, rfl⟩
theorem c57_30 : q_cat 57 30 (.ireturn) 1 0 0 (0) := ⟨rfl, rfl⟩
theorem c57_31 : q_cat 57 31 (.aload_n 0) 1 0 0 (0) := ⟨rfl, rfl⟩
theorem c57_32 : q_cat 57 32 (.getfield 61) 3 1 6 (0) := ⟨rfl, rfl⟩
theorem c57_35 : q_cat 57 35 (.ifCond .le 12) 3 47 0 (0) := ⟨rfl, rfl⟩
theorem c57_38 : q_cat 57 38 (.aload_n 0) 1 0 0 (0) := ⟨rfl, rfl⟩
theorem c57_39 : q_cat 57 39 (.getfield 64) 3 1 7 (0) := ⟨rfl, rfl⟩
theorem c57_42 : q_cat 57 42 (.iconst 1) 1 0 0 (0) := ⟨rfl, rfl⟩
theorem c57_43 : q_cat 57 43 (.iadd) 1 0 0 (0) := ⟨rfl, rfl⟩
theorem c57_44 : q_cat 57 44 (.goto 4) 3 48 0 (0) := ⟨rfl, rfl⟩
theorem c57_47 : q_cat 57 47 (.iconst (-1)) 1 0 0 (0) := ⟨rfl, rfl⟩
theorem c57_48 : q_cat 57 48 (.ireturn) 1 0 0 (0) := ⟨rfl, rfl⟩
theorem k57 {Γ : q_Γ} (hG : q_GG Γ) {h : q_F} (hZ : q_Bz h) {o0 : Nat} {v1 : Int} (ho0 : q_isA o0) (hz1 : v1 = 0 ∨ v1 = 1) :
    q_M Γ q_K 155 57 [(2, Int.ofNat o0), (0, v1)] h (fun t w h' => (t = 1 ∧ (∃ z, w = ((0, z) : q_V)) ∧ h' = h)) := by
  obtain ⟨fo00, fo01, fo02, fo03⟩ := q_fA ho0
  refine q_M.of (by decide) (Nat.le_of_ble_eq_true rfl) hG ?_
  refine r_iload_n c57_0 rfl rfl ?_
  refine r_if_eq c57_1 rfl (by first | exact q_w32_id (by omega) (by omega) | exact q_w32w _ | exact rfl) ?_ ?_
  · intro b1
    refine r_aload_n c57_31 rfl rfl ?_
    refine r_geti c57_32 (by first | assumption | omega) (by decide) (by first | assumption | rfl) rfl rfl ?_
    refine r_if_le c57_35 rfl (by first | exact q_w32_id (by omega) (by omega) | exact q_w32w _ | exact rfl) ?_ ?_
    · intro b2
      refine r_iconst c57_47 rfl ?_
      exact r_iret c57_48 ⟨rfl, rfl, rfl⟩ ⟨rfl, ⟨_, rfl⟩, rfl⟩
    · intro b2
      refine r_aload_n c57_38 rfl rfl ?_
      refine r_geti c57_39 (by first | assumption | omega) (by decide) (by first | assumption | rfl) rfl rfl ?_
      refine r_iconst c57_42 rfl ?_
      refine r_iadd c57_43 (by first | exact q_w32_id (by omega) (by omega) | exact q_w32w _ | exact rfl) rfl ?_
      refine r_goto c57_44 ?_
      exact r_iret c57_48 ⟨rfl, rfl, rfl⟩ ⟨rfl, ⟨_, rfl⟩, rfl⟩
  · intro b1
    refine r_aload_n c57_4 rfl rfl ?_
    refine r_geti c57_5 (by first | assumption | omega) (by decide) (by first | assumption | rfl) rfl rfl ?_
    refine r_aload_n c57_8 rfl rfl ?_
    refine r_geti c57_9 (by first | assumption | omega) (by decide) (by first | assumption | rfl) rfl rfl ?_
    refine r_ic_ge c57_12 rfl (by first | exact q_w32_id (by omega) (by omega) | exact q_w32w _ | exact rfl) (by first | exact q_w32_id (by omega) (by omega) | exact q_w32w _ | exact rfl) ?_ ?_
    · intro b3
      refine r_iconst c57_29 rfl ?_
      exact r_iret c57_30 ⟨rfl, rfl, rfl⟩ ⟨rfl, ⟨_, rfl⟩, rfl⟩
    · intro b3
      refine r_aload_n c57_15 rfl rfl ?_
      refine r_geti c57_16 (by first | assumption | omega) (by decide) (by first | assumption | rfl) rfl rfl ?_
      refine r_aload_n c57_19 rfl rfl ?_
      refine r_geti c57_20 (by first | assumption | omega) (by decide) (by first | assumption | rfl) rfl rfl ?_
      refine r_isub c57_23 (by first | exact q_w32_id (by omega) (by omega) | exact q_w32w _ | exact rfl) rfl ?_
      refine r_iconst c57_24 rfl ?_
      refine r_iadd c57_25 (by first | exact q_w32_id (by omega) (by omega) | exact q_w32w _ | exact rfl) rfl ?_
      refine r_goto c57_26 ?_
      exact r_iret c57_30 ⟨rfl, rfl, rfl⟩ ⟨rfl, ⟨_, rfl⟩, rfl⟩
theorem c55_0 : q_cat 55 0 (.aload_n 0) 1 0 0 (0) := ⟨rfl, rfl⟩
theorem c55_1 : q_cat 55 1 (.getfield 9) 3 1 0 (0) := ⟨rfl, rfl⟩
theorem c55_4 : q_cat 55 4 (.aload_n 0) 1 0 0 (0) := ⟨rfl, rfl⟩
theorem c55_5 : q_cat 55 5 (.getfield 15) 3 1 1 (0) := ⟨rfl, rfl⟩
theorem c55_8 : q_cat 55 8 (.iadd) 1 0 0 (0) := ⟨rfl, rfl⟩
theorem c55_9 : q_cat 55 9 (.iconst 1) 1 0 0 (0) := ⟨rfl, rfl⟩
theorem c55_10 : q_cat 55 10 (.iadd) 1 0 0 (0) := ⟨rfl, rfl⟩
theorem c55_11 : q_cat 55 11 (.istore_n 2) 1 2 0 (0) := ⟨rfl, rfl⟩
theorem c55_12 : q_cat 55 12 (.iconst 0) 1 0 0 (0) := ⟨rfl, rfl⟩
theorem c55_13 : q_cat 55 13 (.istore_n 3) 1 3 0 (0) := ⟨rfl, rfl⟩
theorem c55_14 : q_cat 55 14 (.iload_n 3) 1 3 0 (0) := ⟨rfl, rfl⟩
theorem c55_15 : q_cat 55 15 (.iload_n 2) 1 2 0 (0) := ⟨rfl, rfl⟩
theorem c55_16 : q_cat 55 16 (.if_icmp .ge 31) 3 47 0 (0) := ⟨rfl, rfl⟩
theorem c55_19 : q_cat 55 19 (.aload_n 0) 1 0 0 (0) := ⟨rfl, rfl⟩
theorem c55_20 : q_cat 55 20 (.invokevirtual 99) 3 54 0 (0) := ⟨rfl, rfl⟩
theorem c55_23 : q_cat 55 23 (.iload_n 1) 1 1 0 (0) := ⟨rfl, rfl⟩
theorem c55_24 : q_cat 55 24 (.if_icmp .eq 23) 3 47 0 (0) := ⟨rfl, rfl⟩
theorem c55_27 : q_cat 55 27 (.aload_n 0) 1 0 0 (0) := ⟨rfl, rfl⟩
theorem c55_28 : q_cat 55 28 (.iload_n 1) 1 1 0 (0) := ⟨rfl, rfl⟩
theorem c55_29 : q_cat 55 29 (.ifCond .eq 7) 3 36 0 (0) := ⟨rfl, rfl⟩
theorem c55_32 : q_cat 55 32 (.iconst (-1)) 1 0 0 (0) := ⟨rfl, rfl⟩
theorem c55_33 : q_cat 55 33 (.goto 4) 3 37 0 (0) := ⟨rfl, rfl⟩
theorem c55_36 : q_cat 55 36 (.iconst 1) 1 0 0 (0) := ⟨rfl, rfl⟩
theorem c55_37 : q_cat 55 37 (.invokevirtual 102) 3 49 0 (0) := ⟨rfl, rfl⟩
theorem c55_40 : q_cat 55 40 (.pop) 1 0 0 (0) := ⟨rfl, rfl⟩
theorem c55_41 : q_cat 55 41 (.iinc 3 1) 3 3 0 (0) := ⟨rfl, rfl⟩
theorem c55_44 : q_cat 55 44 (.goto (-30)) 3 14 0 (0) := ⟨rfl, rfl⟩
theorem c55_47 : q_cat 55 47 (.iload_n 3) 1 3 0 (0) := ⟨rfl, rfl⟩
theorem c55_48 : q_cat 55 48 (.ireturn) 1 0 0 (0) := ⟨rfl, rfl⟩
theorem l55_14 {Γ : q_Γ} (hG : q_GG Γ) {h0 : q_F} (hZ : q_Bz h0) {o0 : Nat} {v1 : Int} {u2 : Int} {u1 : Int} (ho0 : q_isA o0) (hz1 : v1 = 0 ∨ v1 = 1)
    (hx47 : ∀ {u3 : Int} {h : q_F}, q_Fr (fun k => k = o0 ∨ k = o0 + 1) h0 h → q_R Γ q_K 155 55 (fun t w h' => (t = 1 ∧ (∃ z, w = ((0, z) : q_V)) ∧ q_Fr (fun k => k = o0 ∨ k = o0 + 1) h0 h')) (47, [(3, (0, u3)), (2, (0, u2)), (0, (2, Int.ofNat o0)), (1, (0, u1))], [], q_hp q_K 155 h, [], 0, 0))
    : ∀ (m : Nat) {u3 : Int} {h : q_F}, (-2147483648 ≤ u3 ∧ u3 < 2147483648) → q_Fr (fun k => k = o0 ∨ k = o0 + 1) h0 h → 2147483648 - u3 < (m : Int) → q_R Γ q_K 155 55 (fun t w h' => (t = 1 ∧ (∃ z, w = ((0, z) : q_V)) ∧ q_Fr (fun k => k = o0 ∨ k = o0 + 1) h0 h')) (14, [(3, (0, u3)), (2, (0, u2)), (0, (2, Int.ofNat o0)), (1, (0, u1))], [], q_hp q_K 155 h, [], 0, 0)   := by
  obtain ⟨fo00, fo01, fo02, fo03⟩ := q_fA ho0
  intro m
  induction m with
  | zero =>
    intro u3 h hinv hf hmu
    exact absurd hmu (by omega)
  | succ m ih =>
    intro u3 h hinv hf hmu
    refine r_iload_n c55_14 rfl rfl ?_
    refine r_iload_n c55_15 rfl rfl ?_
    refine r_ic_ge c55_16 rfl (by first | exact q_w32_id (by omega) (by omega) | exact q_w32w _ | exact rfl) (by first | exact q_w32_id (by omega) (by omega) | exact q_w32w _ | exact rfl) ?_ ?_
    · intro b1
      refine q_R.wk (ks := [3, 2, 0, 1]) (lo' := [(3, _), (2, _), (0, _), (1, _)]) rfl ?_
      exact hx47 (by repeat (first | exact q_Fr.rf | refine q_Fr.ud ?_ (by omega) (by first | assumption | rfl) rfl | refine q_Fr.udz ?_ (by omega) (by first | assumption | decide | omega) | refine q_Fr.tr ?_ (by assumption) (by intro k9 hk9; omega)))
    · intro b1
      refine r_aload_n c55_19 rfl rfl ?_
      refine r_vcG c55_20 (by first | assumption | omega) (by decide) (by first | assumption | rfl) rfl rfl rfl (k54 hG (q_Fr.bz (S := fun k => k = o0 ∨ k = o0 + 1) hZ (by repeat (first | exact q_Fr.rf | refine q_Fr.ud ?_ (by omega) (by first | assumption | rfl) rfl | refine q_Fr.udz ?_ (by omega) (by first | assumption | decide | omega) | refine q_Fr.tr ?_ (by assumption) (by intro k9 hk9; omega)))) (by first | assumption | exact q_hC (by assumption) | exact q_h1 (by assumption) | exact q_h3 (by assumption) | exact q_h5 (by assumption) | exact q_hG (by assumption) | exact q_hP | exact q_hB1 | exact q_hB2 | exact q_hT6 | exact q_hT15 | exact q_hT24)) ?_
      intro t2 w2 g2 p2
      obtain ⟨rfl, ⟨z2, rfl, hz2⟩, rfl⟩ := p2
      refine Or.inr (Or.inl ⟨rfl, ?_⟩)
      refine r_iload_n c55_23 rfl rfl ?_
      refine r_ic_eq c55_24 rfl (by first | exact q_w32_id (by omega) (by omega) | exact q_w32w _ | exact rfl) (by first | exact q_w32_id (by omega) (by omega) | exact q_w32w _ | exact rfl) ?_ ?_
      · intro b3
        refine q_R.wk (ks := [3, 2, 0, 1]) (lo' := [(3, _), (2, _), (0, _), (1, _)]) rfl ?_
        exact hx47 (by repeat (first | exact q_Fr.rf | refine q_Fr.ud ?_ (by omega) (by first | assumption | rfl) rfl | refine q_Fr.udz ?_ (by omega) (by first | assumption | decide | omega) | refine q_Fr.tr ?_ (by assumption) (by intro k9 hk9; omega)))
      · intro b3
        refine r_aload_n c55_27 rfl rfl ?_
        refine r_iload_n c55_28 rfl rfl ?_
        refine r_if_eq c55_29 rfl (by first | exact q_w32_id (by omega) (by omega) | exact q_w32w _ | exact rfl) ?_ ?_
        · intro b4
          refine r_iconst c55_36 rfl ?_
          refine r_vcG c55_37 (by first | assumption | omega) (by decide) (by first | assumption | rfl) rfl rfl rfl (k49 hG (q_Fr.bz (S := fun k => k = o0 ∨ k = o0 + 1) hZ (by repeat (first | exact q_Fr.rf | refine q_Fr.ud ?_ (by omega) (by first | assumption | rfl) rfl | refine q_Fr.udz ?_ (by omega) (by first | assumption | decide | omega) | refine q_Fr.tr ?_ (by assumption) (by intro k9 hk9; omega)))) (by first | assumption | exact q_hC (by assumption) | exact q_h1 (by assumption) | exact q_h3 (by assumption) | exact q_h5 (by assumption) | exact q_hG (by assumption) | exact q_hP | exact q_hB1 | exact q_hB2 | exact q_hT6 | exact q_hT15 | exact q_hT24)) ?_
          intro t5 w5 g5 p5
          obtain ⟨rfl, ⟨z5, rfl, hz5⟩, e5⟩ := p5
          refine Or.inr (Or.inl ⟨rfl, ?_⟩)
          refine r_pop c55_40 rfl rfl ?_
          refine r_iinc c55_41 rfl (by first | exact q_w32_id (by omega) (by omega) | exact q_w32w _ | exact rfl) (lo' := [(3, _), (2, _), (0, _), (1, _)]) rfl rfl rfl ?_
          refine r_goto c55_44 ?_
          refine q_R.wk (ks := [3, 2, 0, 1]) (lo' := [(3, _), (2, _), (0, _), (1, _)]) rfl ?_
          exact ih (by first | omega | exact ⟨q_rg1 _, q_rg2 _⟩) (by repeat (first | exact q_Fr.rf | refine q_Fr.ud ?_ (by omega) (by first | assumption | rfl) rfl | refine q_Fr.udz ?_ (by omega) (by first | assumption | decide | omega) | refine q_Fr.tr ?_ (by assumption) (by intro k9 hk9; omega))) (by omega)
        · intro b4
          refine r_iconst c55_32 rfl ?_
          refine r_goto c55_33 ?_
          refine r_vcG c55_37 (by first | assumption | omega) (by decide) (by first | assumption | rfl) rfl rfl rfl (k49 hG (q_Fr.bz (S := fun k => k = o0 ∨ k = o0 + 1) hZ (by repeat (first | exact q_Fr.rf | refine q_Fr.ud ?_ (by omega) (by first | assumption | rfl) rfl | refine q_Fr.udz ?_ (by omega) (by first | assumption | decide | omega) | refine q_Fr.tr ?_ (by assumption) (by intro k9 hk9; omega)))) (by first | assumption | exact q_hC (by assumption) | exact q_h1 (by assumption) | exact q_h3 (by assumption) | exact q_h5 (by assumption) | exact q_hG (by assumption) | exact q_hP | exact q_hB1 | exact q_hB2 | exact q_hT6 | exact q_hT15 | exact q_hT24)) ?_
          intro t6 w6 g6 p6
          obtain ⟨rfl, ⟨z6, rfl, hz6⟩, e6⟩ := p6
          refine Or.inr (Or.inl ⟨rfl, ?_⟩)
          refine r_pop c55_40 rfl rfl ?_
          refine r_iinc c55_41 rfl (by first | exact q_w32_id (by omega) (by omega) | exact q_w32w _ | exact rfl) (lo' := [(3, _), (2, _), (0, _), (1, _)]) rfl rfl rfl ?_
          refine r_goto c55_44 ?_
          refine q_R.wk (ks := [3, 2, 0, 1]) (lo' := [(3, _), (2, _), (0, _), (1, _)]) rfl ?_
          exact ih (by first | omega | exact ⟨q_rg1 _, q_rg2 _⟩) (by repeat (first | exact q_Fr.rf | refine q_Fr.ud ?_ (by omega) (by first | assumption | rfl) rfl | refine q_Fr.udz ?_ (by omega) (by first | assumption | decide | omega) | refine q_Fr.tr ?_ (by assumption) (by intro k9 hk9; omega))) (by omega)

theorem k55 {Γ : q_Γ} (hG : q_GG Γ) {h : q_F} (hZ : q_Bz h) {o0 : Nat} {v1 : Int} (ho0 : q_isA o0) (hz1 : v1 = 0 ∨ v1 = 1) :
    q_M Γ q_K 155 55 [(2, Int.ofNat o0), (0, v1)] h (fun t w h' => (t = 1 ∧ (∃ z, w = ((0, z) : q_V)) ∧ q_Fr (fun k => k = o0 ∨ k = o0 + 1) h h')) := by
  obtain ⟨fo00, fo01, fo02, fo03⟩ := q_fA ho0
  refine q_M.of (by decide) (Nat.le_of_ble_eq_true rfl) hG ?_
  refine r_aload_n c55_0 rfl rfl ?_
  refine r_geti c55_1 (by first | assumption | omega) (by decide) (by first | assumption | rfl) rfl rfl ?_
  refine r_aload_n c55_4 rfl rfl ?_
  refine r_geti c55_5 (by first | assumption | omega) (by decide) (by first | assumption | rfl) rfl rfl ?_
  refine r_iadd c55_8 (by first | exact q_w32_id (by omega) (by omega) | exact q_w32w _ | exact rfl) rfl ?_
  refine r_iconst c55_9 rfl ?_
  refine r_iadd c55_10 (by first | exact q_w32_id (by omega) (by omega) | exact q_w32w _ | exact rfl) rfl ?_
  refine r_istore_n c55_11 (lo' := [(2, _), (0, _), (1, _)]) rfl rfl rfl ?_
  refine r_iconst c55_12 rfl ?_
  refine r_istore_n c55_13 (lo' := [(3, _), (2, _), (0, _), (1, _)]) rfl rfl rfl ?_
  refine q_R.wk (ks := [3, 2, 0, 1]) (lo' := [(3, _), (2, _), (0, _), (1, _)]) rfl ?_
  refine l55_14 (o0 := o0) (v1 := v1) hG hZ ho0 hz1 ?_ 4294967298 (by first | omega | exact ⟨q_rg1 _, q_rg2 _⟩) (by repeat (first | exact q_Fr.rf | refine q_Fr.ud ?_ (by omega) (by first | assumption | rfl) rfl | refine q_Fr.udz ?_ (by omega) (by first | assumption | decide | omega) | refine q_Fr.tr ?_ (by assumption) (by intro k9 hk9; omega))) (q_mu (by first | omega | exact ⟨q_rg1 _, q_rg2 _⟩))
  · intro u3_1 g1 f1
    refine r_iload_n c55_47 rfl rfl ?_
    exact r_iret c55_48 ⟨rfl, rfl, rfl⟩ ⟨rfl, ⟨_, rfl⟩, (by repeat (first | exact q_Fr.rf | refine q_Fr.ud ?_ (by omega) (by first | assumption | rfl) rfl | refine q_Fr.udz ?_ (by omega) (by first | assumption | decide | omega) | refine q_Fr.tr ?_ (by assumption) (by intro k9 hk9; omega)))⟩
theorem c46_0 : q_cat 46 0 (.aload_n 0) 1 0 0 (0) := ⟨rfl, rfl⟩
theorem c46_1 : q_cat 46 1 (.aload_n 1) 1 1 0 (0) := ⟨rfl, rfl⟩
theorem c46_2 : q_cat 46 2 (.getfield 9) 3 1 0 (0) := ⟨rfl, rfl⟩
theorem c46_5 : q_cat 46 5 (.putfield 9) 3 1 0 (0) := ⟨rfl, rfl⟩
theorem c46_8 : q_cat 46 8 (.aload_n 0) 1 0 0 (0) := ⟨rfl, rfl⟩
theorem c46_9 : q_cat 46 9 (.aload_n 1) 1 1 0 (0) := ⟨rfl, rfl⟩
theorem c46_10 : q_cat 46 10 (.getfield 15) 3 1 1 (0) := ⟨rfl, rfl⟩
theorem c46_13 : q_cat 46 13 (.putfield 15) 3 1 1 (0) := ⟨rfl, rfl⟩
theorem c46_16 : q_cat 46 16 (.aload_n 0) 1 0 0 (0) := ⟨rfl, rfl⟩
theorem c46_17 : q_cat 46 17 (.aload_n 1) 1 1 0 (0) := ⟨rfl, rfl⟩
theorem c46_18 : q_cat 46 18 (.getfield 18) 3 1 2 (0) := ⟨rfl, rfl⟩
theorem c46_21 : q_cat 46 21 (.putfield 18) 3 1 2 (0) := ⟨rfl, rfl⟩
theorem c46_24 : q_cat 46 24 (.aload_n 0) 1 0 0 (0) := ⟨rfl, rfl⟩
theorem c46_25 : q_cat 46 25 (.aload_n 1) 1 1 0 (0) := ⟨rfl, rfl⟩
theorem c46_26 : q_cat 46 26 (.getfield 21) 3 1 3 (0) := ⟨rfl, rfl⟩
theorem c46_29 : q_cat 46 29 (.putfield 21) 3 1 3 (0) := ⟨rfl, rfl⟩
theorem c46_32 : q_cat 46 32 (.aload_n 0) 1 0 0 (0) := ⟨rfl, rfl⟩
theorem c46_33 : q_cat 46 33 (.aload_n 1) 1 1 0 (0) := ⟨rfl, rfl⟩
theorem c46_34 : q_cat 46 34 (.getfield 24) 3 1 4 (0) := ⟨rfl, rfl⟩
theorem c46_37 : q_cat 46 37 (.putfield 24) 3 1 4 (0) := ⟨rfl, rfl⟩
theorem c46_40 : q_cat 46 40 (.aload_n 0) 1 0 0 (0) := ⟨rfl, rfl⟩
theorem c46_41 : q_cat 46 41 (.aload_n 1) 1 1 0 (0) := ⟨rfl, rfl⟩
theorem c46_42 : q_cat 46 42 (.getfield 27) 3 1 5 (0) := ⟨rfl, rfl⟩
theorem c46_45 : q_cat 46 45 (.putfield 27) 3 1 5 (0) := ⟨rfl, rfl⟩
theorem c46_48 : q_cat 46 48 (.aload_n 0) 1 0 0 (0) := ⟨rfl, rfl⟩
theorem c46_49 : q_cat 46 49 (.aload_n 1) 1 1 0 (0) := ⟨rfl, rfl⟩
theorem c46_50 : q_cat 46 50 (.getfield 61) 3 1 6 (0) := ⟨rfl, rfl⟩
theorem c46_53 : q_cat 46 53 (.putfield 61) 3 1 6 (0) := ⟨rfl, rfl⟩
theorem c46_56 : q_cat 46 56 (.aload_n 0) 1 0 0 (0) := ⟨rfl, rfl⟩
theorem c46_57 : q_cat 46 57 (.aload_n 1) 1 1 0 (0) := ⟨rfl, rfl⟩
theorem c46_58 : q_cat 46 58 (.getfield 64) 3 1 7 (0) := ⟨rfl, rfl⟩
theorem c46_61 : q_cat 46 61 (.putfield 64) 3 1 7 (0) := ⟨rfl, rfl⟩
theorem c46_64 : q_cat 46 64 (.aload_n 0) 1 0 0 (0) := ⟨rfl, rfl⟩
theorem c46_65 : q_cat 46 65 (.aload_n 1) 1 1 0 (0) := ⟨rfl, rfl⟩
theorem c46_66 : q_cat 46 66 (.getfield 30) 3 1 8 (0) := ⟨rfl, rfl⟩
theorem c46_69 : q_cat 46 69 (.putfield 30) 3 1 8 (0) := ⟨rfl, rfl⟩
theorem c46_72 : q_cat 46 72 (.aload_n 0) 1 0 0 (0) := ⟨rfl, rfl⟩
theorem c46_73 : q_cat 46 73 (.aload_n 1) 1 1 0 (0) := ⟨rfl, rfl⟩
theorem c46_74 : q_cat 46 74 (.getfield 33) 3 1 9 (0) := ⟨rfl, rfl⟩
theorem c46_77 : q_cat 46 77 (.putfield 33) 3 1 9 (0) := ⟨rfl, rfl⟩
theorem c46_80 : q_cat 46 80 (.aload_n 0) 1 0 0 (0) := ⟨rfl, rfl⟩
theorem c46_81 : q_cat 46 81 (.aload_n 1) 1 1 0 (0) := ⟨rfl, rfl⟩
theorem c46_82 : q_cat 46 82 (.getfield 36) 3 1 10 (1) := ⟨rfl, rfl⟩
theorem c46_85 : q_cat 46 85 (.putfield 36) 3 1 10 (1) := ⟨rfl, rfl⟩
theorem c46_88 : q_cat 46 88 (.aload_n 0) 1 0 0 (0) := ⟨rfl, rfl⟩
theorem c46_89 : q_cat 46 89 (.aload_n 1) 1 1 0 (0) := ⟨rfl, rfl⟩
theorem c46_90 : q_cat 46 90 (.getfield 67) 3 1 11 (1) := ⟨rfl, rfl⟩
theorem c46_93 : q_cat 46 93 (.putfield 67) 3 1 11 (1) := ⟨rfl, rfl⟩
theorem c46_96 : q_cat 46 96 (.aload_n 0) 1 0 0 (0) := ⟨rfl, rfl⟩
theorem c46_97 : q_cat 46 97 (.aload_n 1) 1 1 0 (0) := ⟨rfl, rfl⟩
theorem c46_98 : q_cat 46 98 (.getfield 70) 3 1 12 (0) := ⟨rfl, rfl⟩
theorem c46_101 : q_cat 46 101 (.putfield 70) 3 1 12 (0) := ⟨rfl, rfl⟩
theorem c46_104 : q_cat 46 104 (.aload_n 0) 1 0 0 (0) := ⟨rfl, rfl⟩
theorem c46_105 : q_cat 46 105 (.aload_n 1) 1 1 0 (0) := ⟨rfl, rfl⟩
theorem c46_106 : q_cat 46 106 (.getfield 73) 3 1 13 (0) := ⟨rfl, rfl⟩
theorem c46_109 : q_cat 46 109 (.putfield 73) 3 1 13 (0) := ⟨rfl, rfl⟩
theorem c46_112 : q_cat 46 112 (.aload_n 0) 1 0 0 (0) := ⟨rfl, rfl⟩
theorem c46_113 : q_cat 46 113 (.getfield 43) 3 1 14 (3) := ⟨rfl, rfl⟩
theorem c46_116 : q_cat 46 116 (.aload_n 1) 1 1 0 (0) := ⟨rfl, rfl⟩
theorem c46_117 : q_cat 46 117 (.getfield 43) 3 1 14 (3) := ⟨rfl, rfl⟩
theorem c46_120 : q_cat 46 120 (.invokevirtual 79) 3 42 0 (0) := ⟨rfl, rfl⟩
theorem c46_123 : q_cat 46 123 (.return_) 1 0 0 (0) := ⟨rfl, rfl⟩
theorem k46 {Γ : q_Γ} (hG : q_GG Γ) {h : q_F} (hZ : q_Bz h) {o0 : Nat} {o1 : Nat} (ho0 : q_isA o0) (ho1 : q_isA o1) :
    q_M Γ q_K 155 46 [(2, Int.ofNat o0), (2, Int.ofNat o1)] h (fun t w h' => (t = 0 ∧ q_Fr (fun k => k = o0 ∨ k = o0 + 1) h h')) := by
  obtain ⟨fo00, fo01, fo02, fo03⟩ := q_fA ho0
  obtain ⟨fo10, fo11, fo12, fo13⟩ := q_fA ho1
  refine q_M.of (by decide) (Nat.le_of_ble_eq_true rfl) hG ?_
  refine r_aload_n c46_0 rfl rfl ?_
  refine r_aload_n c46_1 rfl rfl ?_
  refine r_geti c46_2 (by first | assumption | omega) (by decide) (by first | assumption | rfl) rfl rfl ?_
  refine r_puti c46_5 (by first | assumption | omega) (by decide) (by first | assumption | rfl) rfl rfl rfl ?_
  refine r_aload_n c46_8 rfl rfl ?_
  refine r_aload_n c46_9 rfl rfl ?_
  refine r_geti c46_10 (by first | assumption | omega) (by decide) (by first | assumption | rfl) rfl rfl ?_
  refine r_puti c46_13 (by first | assumption | omega) (by decide) (by first | assumption | rfl) rfl rfl rfl ?_
  refine r_aload_n c46_16 rfl rfl ?_
  refine r_aload_n c46_17 rfl rfl ?_
  refine r_geti c46_18 (by first | assumption | omega) (by decide) (by first | assumption | rfl) rfl rfl ?_
  refine r_puti c46_21 (by first | assumption | omega) (by decide) (by first | assumption | rfl) rfl rfl rfl ?_
  refine r_aload_n c46_24 rfl rfl ?_
  refine r_aload_n c46_25 rfl rfl ?_
  refine r_geti c46_26 (by first | assumption | omega) (by decide) (by first | assumption | rfl) rfl rfl ?_
  refine r_puti c46_29 (by first | assumption | omega) (by decide) (by first | assumption | rfl) rfl rfl rfl ?_
  refine r_aload_n c46_32 rfl rfl ?_
  refine r_aload_n c46_33 rfl rfl ?_
  refine r_geti c46_34 (by first | assumption | omega) (by decide) (by first | assumption | rfl) rfl rfl ?_
  refine r_puti c46_37 (by first | assumption | omega) (by decide) (by first | assumption | rfl) rfl rfl rfl ?_
  refine r_aload_n c46_40 rfl rfl ?_
  refine r_aload_n c46_41 rfl rfl ?_
  refine r_geti c46_42 (by first | assumption | omega) (by decide) (by first | assumption | rfl) rfl rfl ?_
  refine r_puti c46_45 (by first | assumption | omega) (by decide) (by first | assumption | rfl) rfl rfl rfl ?_
  refine r_aload_n c46_48 rfl rfl ?_
  refine r_aload_n c46_49 rfl rfl ?_
  refine r_geti c46_50 (by first | assumption | omega) (by decide) (by first | assumption | rfl) rfl rfl ?_
  refine r_puti c46_53 (by first | assumption | omega) (by decide) (by first | assumption | rfl) rfl rfl rfl ?_
  refine r_aload_n c46_56 rfl rfl ?_
  refine r_aload_n c46_57 rfl rfl ?_
  refine r_geti c46_58 (by first | assumption | omega) (by decide) (by first | assumption | rfl) rfl rfl ?_
  refine r_puti c46_61 (by first | assumption | omega) (by decide) (by first | assumption | rfl) rfl rfl rfl ?_
  refine r_aload_n c46_64 rfl rfl ?_
  refine r_aload_n c46_65 rfl rfl ?_
  refine r_geti c46_66 (by first | assumption | omega) (by decide) (by first | assumption | rfl) rfl rfl ?_
  refine r_puti c46_69 (by first | assumption | omega) (by decide) (by first | assumption | rfl) rfl rfl rfl ?_
  refine r_aload_n c46_72 rfl rfl ?_
  refine r_aload_n c46_73 rfl rfl ?_
  refine r_geti c46_74 (by first | assumption | omega) (by decide) (by first | assumption | rfl) rfl rfl ?_
  refine r_puti c46_77 (by first | assumption | omega) (by decide) (by first | assumption | rfl) rfl rfl rfl ?_
  refine r_aload_n c46_80 rfl rfl ?_
  refine r_aload_n c46_81 rfl rfl ?_
  refine r_getz (q_Fr.bz (S := fun k => k = o0 ∨ k = o0 + 1) hZ (by repeat (first | exact q_Fr.rf | refine q_Fr.ud ?_ (by omega) (by first | assumption | rfl) rfl | refine q_Fr.udz ?_ (by omega) (by first | assumption | decide | omega) | refine q_Fr.tr ?_ (by assumption) (by intro k9 hk9; omega)))) c46_82 (by first | assumption | omega) (by decide) (by first | assumption | rfl) rfl rfl rfl ?_
  intro z1
  refine r_puti c46_85 (by first | assumption | omega) (by decide) (by first | assumption | rfl) rfl (q_fit_b (by first | assumption | omega)) rfl ?_
  refine r_aload_n c46_88 rfl rfl ?_
  refine r_aload_n c46_89 rfl rfl ?_
  refine r_getz (q_Fr.bz (S := fun k => k = o0 ∨ k = o0 + 1) hZ (by repeat (first | exact q_Fr.rf | refine q_Fr.ud ?_ (by omega) (by first | assumption | rfl) rfl | refine q_Fr.udz ?_ (by omega) (by first | assumption | decide | omega) | refine q_Fr.tr ?_ (by assumption) (by intro k9 hk9; omega)))) c46_90 (by first | assumption | omega) (by decide) (by first | assumption | rfl) rfl rfl rfl ?_
  intro z2
  refine r_puti c46_93 (by first | assumption | omega) (by decide) (by first | assumption | rfl) rfl (q_fit_b (by first | assumption | omega)) rfl ?_
  refine r_aload_n c46_96 rfl rfl ?_
  refine r_aload_n c46_97 rfl rfl ?_
  refine r_geti c46_98 (by first | assumption | omega) (by decide) (by first | assumption | rfl) rfl rfl ?_
  refine r_puti c46_101 (by first | assumption | omega) (by decide) (by first | assumption | rfl) rfl rfl rfl ?_
  refine r_aload_n c46_104 rfl rfl ?_
  refine r_aload_n c46_105 rfl rfl ?_
  refine r_geti c46_106 (by first | assumption | omega) (by decide) (by first | assumption | rfl) rfl rfl ?_
  refine r_puti c46_109 (by first | assumption | omega) (by decide) (by first | assumption | rfl) rfl rfl rfl ?_
  refine r_aload_n c46_112 rfl rfl ?_
  refine r_getr c46_113 (by first | assumption | omega) (by decide) (by first | assumption | rfl) rfl rfl ?_
  refine r_aload_n c46_116 rfl rfl ?_
  refine r_getr c46_117 (by first | assumption | omega) (by decide) (by first | assumption | rfl) rfl rfl ?_
  refine r_vcG c46_120 (by first | assumption | omega) (by decide) (by first | assumption | rfl) rfl rfl rfl (k42 hG (q_Fr.bz (S := fun k => k = o0 ∨ k = o0 + 1) hZ (by repeat (first | exact q_Fr.rf | refine q_Fr.ud ?_ (by omega) (by first | assumption | rfl) rfl | refine q_Fr.udz ?_ (by omega) (by first | assumption | decide | omega) | refine q_Fr.tr ?_ (by assumption) (by intro k9 hk9; omega)))) (by first | assumption | exact q_hC (by assumption) | exact q_h1 (by assumption) | exact q_h3 (by assumption) | exact q_h5 (by assumption) | exact q_hG (by assumption) | exact q_hP | exact q_hB1 | exact q_hB2 | exact q_hT6 | exact q_hT15 | exact q_hT24) (by first | assumption | exact q_hC (by assumption) | exact q_h1 (by assumption) | exact q_h3 (by assumption) | exact q_h5 (by assumption) | exact q_hG (by assumption) | exact q_hP | exact q_hB1 | exact q_hB2 | exact q_hT6 | exact q_hT15 | exact q_hT24)) ?_
  intro t3 w3 g3 p3
  obtain ⟨rfl, e3⟩ := p3
  refine Or.inl ⟨rfl, ?_⟩
  exact r_vret c46_123 ⟨rfl, rfl, rfl⟩ ⟨rfl, (by repeat (first | exact q_Fr.rf | refine q_Fr.ud ?_ (by omega) (by first | assumption | rfl) rfl | refine q_Fr.udz ?_ (by omega) (by first | assumption | decide | omega) | refine q_Fr.tr ?_ (by assumption) (by intro k9 hk9; omega)))⟩
theorem c60_0 : q_cat 60 0 (.aload_n 0) 1 0 0 (0) := ⟨rfl, rfl⟩
theorem c60_1 : q_cat 60 1 (.getfield 15) 3 2 1 (0) := ⟨rfl, rfl⟩
theorem c60_4 : q_cat 60 4 (.ifCond .lt 36) 3 40 0 (0) := ⟨rfl, rfl⟩
theorem c60_7 : q_cat 60 7 (.aload_n 0) 1 0 0 (0) := ⟨rfl, rfl⟩
theorem c60_8 : q_cat 60 8 (.getfield 15) 3 2 1 (0) := ⟨rfl, rfl⟩
theorem c60_11 : q_cat 60 11 (.aload_n 0) 1 0 0 (0) := ⟨rfl, rfl⟩
theorem c60_12 : q_cat 60 12 (.getfield 9) 3 2 0 (3) := ⟨rfl, rfl⟩
theorem c60_15 : q_cat 60 15 (.arraylength) 1 0 0 (0) := ⟨rfl, rfl⟩
theorem c60_16 : q_cat 60 16 (.if_icmp .ge 24) 3 40 0 (0) := ⟨rfl, rfl⟩
theorem c60_19 : q_cat 60 19 (.aload_n 0) 1 0 0 (0) := ⟨rfl, rfl⟩
theorem c60_20 : q_cat 60 20 (.getfield 9) 3 2 0 (3) := ⟨rfl, rfl⟩
theorem c60_23 : q_cat 60 23 (.aload_n 0) 1 0 0 (0) := ⟨rfl, rfl⟩
theorem c60_24 : q_cat 60 24 (.getfield 15) 3 2 1 (0) := ⟨rfl, rfl⟩
theorem c60_27 : q_cat 60 27 (.iload_n 1) 1 1 0 (0) := ⟨rfl, rfl⟩
theorem c60_28 : q_cat 60 28 (.i2b) 1 0 0 (0) := ⟨rfl, rfl⟩
theorem c60_29 : q_cat 60 29 (.bastore) 1 0 0 (0) := ⟨rfl, rfl⟩
theorem c60_30 : q_cat 60 30 (.aload_n 0) 1 0 0 (0) := ⟨rfl, rfl⟩
theorem c60_31 : q_cat 60 31 (.dup) 1 0 0 (0) := ⟨rfl, rfl⟩
theorem c60_32 : q_cat 60 32 (.getfield 15) 3 2 1 (0) := ⟨rfl, rfl⟩
theorem c60_35 : q_cat 60 35 (.iconst 1) 1 0 0 (0) := ⟨rfl, rfl⟩
theorem c60_36 : q_cat 60 36 (.iadd) 1 0 0 (0) := ⟨rfl, rfl⟩
theorem c60_37 : q_cat 60 37 (.putfield 15) 3 2 1 (0) := ⟨rfl, rfl⟩
theorem c60_40 : q_cat 60 40 (.return_) 1 0 0 (0) := ⟨rfl, rfl⟩
theorem k60 {Γ : q_Γ} (hG : q_GG Γ) {h : q_F} (hZ : q_Bz h) {o0 : Nat} {v1 : Int} (ho0 : q_isB o0) :
    q_M Γ q_K 155 60 [(2, Int.ofNat o0), (0, v1)] h (fun t w h' => (t = 0 ∧ q_Fr (fun k => k = o0 ∨ k = o0 + 1) h h')) := by
  obtain ⟨fo00, fo01, fo02, fo03⟩ := q_fB ho0
  refine q_M.of (by decide) (Nat.le_of_ble_eq_true rfl) hG ?_
  refine r_aload_n c60_0 rfl rfl ?_
  refine r_geti c60_1 (by first | assumption | omega) (by decide) (by first | assumption | rfl) rfl rfl ?_
  refine r_if_lt c60_4 rfl (by first | exact q_w32_id (by omega) (by omega) | exact q_w32w _ | exact rfl) ?_ ?_
  · intro b1
    exact r_vret c60_40 ⟨rfl, rfl, rfl⟩ ⟨rfl, (by repeat (first | exact q_Fr.rf | refine q_Fr.ud ?_ (by omega) (by first | assumption | rfl) rfl | refine q_Fr.udz ?_ (by omega) (by first | assumption | decide | omega) | refine q_Fr.tr ?_ (by assumption) (by intro k9 hk9; omega)))⟩
  · intro b1
    refine r_aload_n c60_7 rfl rfl ?_
    refine r_geti c60_8 (by first | assumption | omega) (by decide) (by first | assumption | rfl) rfl rfl ?_
    refine r_aload_n c60_11 rfl rfl ?_
    refine r_getr c60_12 (by first | assumption | omega) (by decide) (by first | assumption | rfl) rfl rfl ?_
    refine r_alen c60_15 (by first | assumption | omega) (by decide) (by first | assumption | rfl) (by decide) rfl ?_
    refine r_ic_ge c60_16 rfl (by first | exact q_w32_id (by omega) (by omega) | exact q_w32w _ | exact rfl) (by first | exact q_w32_id (by omega) (by omega) | exact q_w32w _ | exact rfl) ?_ ?_
    · intro b2
      exact r_vret c60_40 ⟨rfl, rfl, rfl⟩ ⟨rfl, (by repeat (first | exact q_Fr.rf | refine q_Fr.ud ?_ (by omega) (by first | assumption | rfl) rfl | refine q_Fr.udz ?_ (by omega) (by first | assumption | decide | omega) | refine q_Fr.tr ?_ (by assumption) (by intro k9 hk9; omega)))⟩
    · intro b2
      refine r_aload_n c60_19 rfl rfl ?_
      refine r_getr c60_20 (by first | assumption | omega) (by decide) (by first | assumption | rfl) rfl rfl ?_
      refine r_aload_n c60_23 rfl rfl ?_
      refine r_geti c60_24 (by first | assumption | omega) (by decide) (by first | assumption | rfl) rfl rfl ?_
      refine r_iload_n c60_27 rfl rfl ?_
      refine r_i2b c60_28 rfl rfl ?_
      refine r_bast c60_29 (by first | assumption | omega) (by decide) (by first | assumption | rfl) (by first | assumption | decide) rfl (by first | exact q_w32_id (by omega) (by omega) | exact q_w32w _ | exact rfl) (by first | assumption | omega) (by first | assumption | omega) rfl ?_
      refine r_aload_n c60_30 rfl rfl ?_
      refine r_dup c60_31 rfl rfl ?_
      refine r_geti c60_32 (by first | assumption | omega) (by decide) (by first | assumption | rfl) rfl rfl ?_
      refine r_iconst c60_35 rfl ?_
      refine r_iadd c60_36 (by first | exact q_w32_id (by omega) (by omega) | exact q_w32w _ | exact rfl) rfl ?_
      refine r_puti c60_37 (by first | assumption | omega) (by decide) (by first | assumption | rfl) rfl rfl rfl ?_
      exact r_vret c60_40 ⟨rfl, rfl, rfl⟩ ⟨rfl, (by repeat (first | exact q_Fr.rf | refine q_Fr.ud ?_ (by omega) (by first | assumption | rfl) rfl | refine q_Fr.udz ?_ (by omega) (by first | assumption | decide | omega) | refine q_Fr.tr ?_ (by assumption) (by intro k9 hk9; omega)))⟩
theorem c62_0 : q_cat 62 0 (.aload_n 0) 1 0 0 (0) := ⟨rfl, rfl⟩
theorem c62_1 : q_cat 62 1 (.iload_n 1) 1 1 0 (0) := ⟨rfl, rfl⟩
theorem c62_2 : q_cat 62 2 (.bipush 24) 2 0 0 (0) := ⟨rfl, rfl⟩
theorem c62_4 : q_cat 62 4 (.iushr) 1 0 0 (0) := ⟨rfl, rfl⟩
theorem c62_5 : q_cat 62 5 (.invokevirtual 19) 3 60 0 (0) := ⟨rfl, rfl⟩
theorem c62_8 : q_cat 62 8 (.aload_n 0) 1 0 0 (0) := ⟨rfl, rfl⟩
theorem c62_9 : q_cat 62 9 (.iload_n 1) 1 1 0 (0) := ⟨rfl, rfl⟩
theorem c62_10 : q_cat 62 10 (.bipush 16) 2 0 0 (0) := ⟨rfl, rfl⟩
theorem c62_12 : q_cat 62 12 (.iushr) 1 0 0 (0) := ⟨rfl, rfl⟩
theorem c62_13 : q_cat 62 13 (.invokevirtual 19) 3 60 0 (0) := ⟨rfl, rfl⟩
theorem c62_16 : q_cat 62 16 (.aload_n 0) 1 0 0 (0) := ⟨rfl, rfl⟩
theorem c62_17 : q_cat 62 17 (.iload_n 1) 1 1 0 (0) := ⟨rfl, rfl⟩
theorem c62_18 : q_cat 62 18 (.bipush 8) 2 0 0 (0) := ⟨rfl, rfl⟩
theorem c62_20 : q_cat 62 20 (.iushr) 1 0 0 (0) := ⟨rfl, rfl⟩
theorem c62_21 : q_cat 62 21 (.invokevirtual 19) 3 60 0 (0) := ⟨rfl, rfl⟩
theorem c62_24 : q_cat 62 24 (.aload_n 0) 1 0 0 (0) := ⟨rfl, rfl⟩
theorem c62_25 : q_cat 62 25 (.iload_n 1) 1 1 0 (0) := ⟨rfl, rfl⟩
theorem c62_26 : q_cat 62 26 (.invokevirtual 19) 3 60 0 (0) := ⟨rfl, rfl⟩
theorem c62_29 : q_cat 62 29 (.return_) 1 0 0 (0) := ⟨rfl, rfl⟩
theorem k62 {Γ : q_Γ} (hG : q_GG Γ) {h : q_F} (hZ : q_Bz h) {o0 : Nat} {v1 : Int} (ho0 : q_isB o0) :
    q_M Γ q_K 155 62 [(2, Int.ofNat o0), (0, v1)] h (fun t w h' => (t = 0 ∧ q_Fr (fun k => k = o0 ∨ k = o0 + 1) h h')) := by
  obtain ⟨fo00, fo01, fo02, fo03⟩ := q_fB ho0
  refine q_M.of (by decide) (Nat.le_of_ble_eq_true rfl) hG ?_
  refine r_aload_n c62_0 rfl rfl ?_
  refine r_iload_n c62_1 rfl rfl ?_
  refine r_bipush c62_2 rfl ?_
  refine r_iushr c62_4 rfl rfl ?_
  refine r_vcG c62_5 (by first | assumption | omega) (by decide) (by first | assumption | rfl) rfl rfl rfl (k60 hG (q_Fr.bz (S := fun k => k = o0 ∨ k = o0 + 1) hZ (by repeat (first | exact q_Fr.rf | refine q_Fr.ud ?_ (by omega) (by first | assumption | rfl) rfl | refine q_Fr.udz ?_ (by omega) (by first | assumption | decide | omega) | refine q_Fr.tr ?_ (by assumption) (by intro k9 hk9; omega)))) (by first | assumption | exact q_hC (by assumption) | exact q_h1 (by assumption) | exact q_h3 (by assumption) | exact q_h5 (by assumption) | exact q_hG (by assumption) | exact q_hP | exact q_hB1 | exact q_hB2 | exact q_hT6 | exact q_hT15 | exact q_hT24)) ?_
  intro t1 w1 g1 p1
  obtain ⟨rfl, e1⟩ := p1
  refine Or.inl ⟨rfl, ?_⟩
  refine r_aload_n c62_8 rfl rfl ?_
  refine r_iload_n c62_9 rfl rfl ?_
  refine r_bipush c62_10 rfl ?_
  refine r_iushr c62_12 rfl rfl ?_
  refine r_vcG c62_13 (by first | assumption | omega) (by decide) (by first | assumption | rfl) rfl rfl rfl (k60 hG (q_Fr.bz (S := fun k => k = o0 ∨ k = o0 + 1) hZ (by repeat (first | exact q_Fr.rf | refine q_Fr.ud ?_ (by omega) (by first | assumption | rfl) rfl | refine q_Fr.udz ?_ (by omega) (by first | assumption | decide | omega) | refine q_Fr.tr ?_ (by assumption) (by intro k9 hk9; omega)))) (by first | assumption | exact q_hC (by assumption) | exact q_h1 (by assumption) | exact q_h3 (by assumption) | exact q_h5 (by assumption) | exact q_hG (by assumption) | exact q_hP | exact q_hB1 | exact q_hB2 | exact q_hT6 | exact q_hT15 | exact q_hT24)) ?_
  intro t2 w2 g2 p2
  obtain ⟨rfl, e2⟩ := p2
  refine Or.inl ⟨rfl, ?_⟩
  refine r_aload_n c62_16 rfl rfl ?_
  refine r_iload_n c62_17 rfl rfl ?_
  refine r_bipush c62_18 rfl ?_
  refine r_iushr c62_20 rfl rfl ?_
  refine r_vcG c62_21 (by first | assumption | omega) (by decide) (by first | assumption | rfl) rfl rfl rfl (k60 hG (q_Fr.bz (S := fun k => k = o0 ∨ k = o0 + 1) hZ (by repeat (first | exact q_Fr.rf | refine q_Fr.ud ?_ (by omega) (by first | assumption | rfl) rfl | refine q_Fr.udz ?_ (by omega) (by first | assumption | decide | omega) | refine q_Fr.tr ?_ (by assumption) (by intro k9 hk9; omega)))) (by first | assumption | exact q_hC (by assumption) | exact q_h1 (by assumption) | exact q_h3 (by assumption) | exact q_h5 (by assumption) | exact q_hG (by assumption) | exact q_hP | exact q_hB1 | exact q_hB2 | exact q_hT6 | exact q_hT15 | exact q_hT24)) ?_
  intro t3 w3 g3 p3
  obtain ⟨rfl, e3⟩ := p3
  refine Or.inl ⟨rfl, ?_⟩
  refine r_aload_n c62_24 rfl rfl ?_
  refine r_iload_n c62_25 rfl rfl ?_
  refine r_vcG c62_26 (by first | assumption | omega) (by decide) (by first | assumption | rfl) rfl rfl rfl (k60 hG (q_Fr.bz (S := fun k => k = o0 ∨ k = o0 + 1) hZ (by repeat (first | exact q_Fr.rf | refine q_Fr.ud ?_ (by omega) (by first | assumption | rfl) rfl | refine q_Fr.udz ?_ (by omega) (by first | assumption | decide | omega) | refine q_Fr.tr ?_ (by assumption) (by intro k9 hk9; omega)))) (by first | assumption | exact q_hC (by assumption) | exact q_h1 (by assumption) | exact q_h3 (by assumption) | exact q_h5 (by assumption) | exact q_hG (by assumption) | exact q_hP | exact q_hB1 | exact q_hB2 | exact q_hT6 | exact q_hT15 | exact q_hT24)) ?_
  intro t4 w4 g4 p4
  obtain ⟨rfl, e4⟩ := p4
  refine Or.inl ⟨rfl, ?_⟩
  exact r_vret c62_29 ⟨rfl, rfl, rfl⟩ ⟨rfl, (by repeat (first | exact q_Fr.rf | refine q_Fr.ud ?_ (by omega) (by first | assumption | rfl) rfl | refine q_Fr.udz ?_ (by omega) (by first | assumption | decide | omega) | refine q_Fr.tr ?_ (by assumption) (by intro k9 hk9; omega)))⟩
theorem c61_0 : q_cat 61 0 (.sipush 1000) 3 0 0 (0) := ⟨rfl, rfl⟩
theorem c61_3 : q_cat 61 3 (.istore_n 2) 1 2 0 (0) := ⟨rfl, rfl⟩
theorem c61_4 : q_cat 61 4 (.iload_n 2) 1 2 0 (0) := ⟨rfl, rfl⟩
theorem c61_5 : q_cat 61 5 (.iconst 1) 1 0 0 (0) := ⟨rfl, rfl⟩
theorem c61_6 : q_cat 61 6 (.if_icmp .lt 36) 3 42 0 (0) := ⟨rfl, rfl⟩
theorem c61_9 : q_cat 61 9 (.iload_n 1) 1 1 0 (0) := ⟨rfl, rfl⟩
theorem c61_10 : q_cat 61 10 (.iload_n 2) 1 2 0 (0) := ⟨rfl, rfl⟩
theorem c61_11 : q_cat 61 11 (.if_icmp .ge 8) 3 19 0 (0) := ⟨rfl, rfl⟩
theorem c61_14 : q_cat 61 14 (.iload_n 2) 1 2 0 (0) := ⟨rfl, rfl⟩
theorem c61_15 : q_cat 61 15 (.iconst 1) 1 0 0 (0) := ⟨rfl, rfl⟩
theorem c61_16 : q_cat 61 16 (.if_icmp .ne 18) 3 34 0 (0) := ⟨rfl, rfl⟩
theorem c61_19 : q_cat 61 19 (.aload_n 0) 1 0 0 (0) := ⟨rfl, rfl⟩
theorem c61_20 : q_cat 61 20 (.bipush 48) 2 0 0 (0) := ⟨rfl, rfl⟩
theorem c61_22 : q_cat 61 22 (.iload_n 1) 1 1 0 (0) := ⟨rfl, rfl⟩
theorem c61_23 : q_cat 61 23 (.iload_n 2) 1 2 0 (0) := ⟨rfl, rfl⟩
theorem c61_24 : q_cat 61 24 (.invokestatic 23) 3 201 3 (0) := ⟨rfl, rfl⟩
theorem c61_27 : q_cat 61 27 (.bipush 10) 2 0 0 (0) := ⟨rfl, rfl⟩
theorem c61_29 : q_cat 61 29 (.irem) 1 0 0 (0) := ⟨rfl, rfl⟩
theorem c61_30 : q_cat 61 30 (.iadd) 1 0 0 (0) := ⟨rfl, rfl⟩
theorem c61_31 : q_cat 61 31 (.invokevirtual 19) 3 60 0 (0) := ⟨rfl, rfl⟩
theorem c61_34 : q_cat 61 34 (.iload_n 2) 1 2 0 (0) := ⟨rfl, rfl⟩
theorem c61_35 : q_cat 61 35 (.bipush 10) 2 0 0 (0) := ⟨rfl, rfl⟩
theorem c61_37 : q_cat 61 37 (.idiv) 1 0 0 (0) := ⟨rfl, rfl⟩
theorem c61_38 : q_cat 61 38 (.istore_n 2) 1 2 0 (0) := ⟨rfl, rfl⟩
theorem c61_39 : q_cat 61 39 (.goto (-35)) 3 4 0 (0) := ⟨rfl, rfl⟩
theorem c61_42 : q_cat 61 42 (.return_) 1 0 0 (0) := ⟨rfl, rfl⟩
theorem k61 {Γ : q_Γ} (hG : q_GG Γ) {h : q_F} (hZ : q_Bz h) {o0 : Nat} {v1 : Int} (ho0 : q_isB o0) :
    q_M Γ q_K 155 61 [(2, Int.ofNat o0), (0, v1)] h (fun t w h' => (t = 0 ∧ q_Fr (fun k => k = o0 ∨ k = o0 + 1) h h')) := by
  obtain ⟨fo00, fo01, fo02, fo03⟩ := q_fB ho0
  refine q_M.of (by decide) (Nat.le_of_ble_eq_true rfl) hG ?_
  refine r_sipush c61_0 rfl ?_
  refine r_istore_n c61_3 (lo' := [(2, _), (0, _), (1, _)]) rfl rfl rfl ?_
  refine r_iload_n c61_4 rfl rfl ?_
  refine r_iconst c61_5 rfl ?_
  refine r_ic_lt c61_6 rfl (show q_w32 (1000) = 1000 from rfl) (show q_w32 (1) = 1 from rfl) ?_ ?_
  · intro b1
    exact absurd b1.1 (by decide)
  · intro b1
    refine r_iload_n c61_9 rfl rfl ?_
    refine r_iload_n c61_10 rfl rfl ?_
    refine r_ic_ge c61_11 rfl (by first | exact q_w32_id (by omega) (by omega) | exact q_w32w _ | exact rfl) (show q_w32 (1000) = 1000 from rfl) ?_ ?_
    · intro b2
      refine r_aload_n c61_19 rfl rfl ?_
      refine r_bipush c61_20 rfl ?_
      refine r_iload_n c61_22 rfl rfl ?_
      refine r_iload_n c61_23 rfl rfl ?_
      refine r_callG c61_24 (fun _ => rfl) rfl rfl rfl (k201 hG (q_Fr.bz (S := fun k => k = o0 ∨ k = o0 + 1) hZ (by repeat (first | exact q_Fr.rf | refine q_Fr.ud ?_ (by omega) (by first | assumption | rfl) rfl | refine q_Fr.udz ?_ (by omega) (by first | assumption | decide | omega) | refine q_Fr.tr ?_ (by assumption) (by intro k9 hk9; omega))))) ?_
      intro t3 w3 g3 p3
      obtain ⟨rfl, ⟨z3, rfl⟩, rfl⟩ := p3
      refine Or.inr (Or.inl ⟨rfl, ?_⟩)
      refine r_bipush c61_27 rfl ?_
      refine r_irem c61_29 (by decide) rfl rfl ?_
      refine r_iadd c61_30 (by first | exact q_w32_id (by omega) (by omega) | exact q_w32w _ | exact rfl) rfl ?_
      refine r_vcG c61_31 (by first | assumption | omega) (by decide) (by first | assumption | rfl) rfl rfl rfl (k60 hG (q_Fr.bz (S := fun k => k = o0 ∨ k = o0 + 1) hZ (by repeat (first | exact q_Fr.rf | refine q_Fr.ud ?_ (by omega) (by first | assumption | rfl) rfl | refine q_Fr.udz ?_ (by omega) (by first | assumption | decide | omega) | refine q_Fr.tr ?_ (by assumption) (by intro k9 hk9; omega)))) (by first | assumption | exact q_hC (by assumption) | exact q_h1 (by assumption) | exact q_h3 (by assumption) | exact q_h5 (by assumption) | exact q_hG (by assumption) | exact q_hP | exact q_hB1 | exact q_hB2 | exact q_hT6 | exact q_hT15 | exact q_hT24)) ?_
      intro t4 w4 g4 p4
      obtain ⟨rfl, e4⟩ := p4
      refine Or.inl ⟨rfl, ?_⟩
      refine r_iload_n c61_34 rfl rfl ?_
      refine r_bipush c61_35 rfl ?_
      refine r_idiv c61_37 (by decide) (show (Int32.ofInt (1000) / Int32.ofInt (10)).toInt = 100 from by decide +kernel) rfl ?_
      refine r_istore_n c61_38 (lo' := [(2, _), (0, _), (1, _)]) rfl rfl rfl ?_
      refine r_goto c61_39 ?_
      refine r_iload_n c61_4 rfl rfl ?_
      refine r_iconst c61_5 rfl ?_
      refine r_ic_lt c61_6 rfl (show q_w32 (100) = 100 from rfl) (show q_w32 (1) = 1 from rfl) ?_ ?_
      · intro b5
        exact absurd b5.1 (by decide)
      · intro b5
        refine r_iload_n c61_9 rfl rfl ?_
        refine r_iload_n c61_10 rfl rfl ?_
        refine r_ic_ge c61_11 rfl (by first | exact q_w32_id (by omega) (by omega) | exact q_w32w _ | exact rfl) (show q_w32 (100) = 100 from rfl) ?_ ?_
        · intro b6
          refine r_aload_n c61_19 rfl rfl ?_
          refine r_bipush c61_20 rfl ?_
          refine r_iload_n c61_22 rfl rfl ?_
          refine r_iload_n c61_23 rfl rfl ?_
          refine r_callG c61_24 (fun _ => rfl) rfl rfl rfl (k201 hG (q_Fr.bz (S := fun k => k = o0 ∨ k = o0 + 1) hZ (by repeat (first | exact q_Fr.rf | refine q_Fr.ud ?_ (by omega) (by first | assumption | rfl) rfl | refine q_Fr.udz ?_ (by omega) (by first | assumption | decide | omega) | refine q_Fr.tr ?_ (by assumption) (by intro k9 hk9; omega))))) ?_
          intro t7 w7 g7 p7
          obtain ⟨rfl, ⟨z7, rfl⟩, rfl⟩ := p7
          refine Or.inr (Or.inl ⟨rfl, ?_⟩)
          refine r_bipush c61_27 rfl ?_
          refine r_irem c61_29 (by decide) rfl rfl ?_
          refine r_iadd c61_30 (by first | exact q_w32_id (by omega) (by omega) | exact q_w32w _ | exact rfl) rfl ?_
          refine r_vcG c61_31 (by first | assumption | omega) (by decide) (by first | assumption | rfl) rfl rfl rfl (k60 hG (q_Fr.bz (S := fun k => k = o0 ∨ k = o0 + 1) hZ (by repeat (first | exact q_Fr.rf | refine q_Fr.ud ?_ (by omega) (by first | assumption | rfl) rfl | refine q_Fr.udz ?_ (by omega) (by first | assumption | decide | omega) | refine q_Fr.tr ?_ (by assumption) (by intro k9 hk9; omega)))) (by first | assumption | exact q_hC (by assumption) | exact q_h1 (by assumption) | exact q_h3 (by assumption) | exact q_h5 (by assumption) | exact q_hG (by assumption) | exact q_hP | exact q_hB1 | exact q_hB2 | exact q_hT6 | exact q_hT15 | exact q_hT24)) ?_
          intro t8 w8 g8 p8
          obtain ⟨rfl, e8⟩ := p8
          refine Or.inl ⟨rfl, ?_⟩
          refine r_iload_n c61_34 rfl rfl ?_
          refine r_bipush c61_35 rfl ?_
          refine r_idiv c61_37 (by decide) (show (Int32.ofInt (100) / Int32.ofInt (10)).toInt = 10 from by decide +kernel) rfl ?_
          refine r_istore_n c61_38 (lo' := [(2, _), (0, _), (1, _)]) rfl rfl rfl ?_
          refine r_goto c61_39 ?_
          refine r_iload_n c61_4 rfl rfl ?_
          refine r_iconst c61_5 rfl ?_
          refine r_ic_lt c61_6 rfl (show q_w32 (10) = 10 from rfl) (show q_w32 (1) = 1 from rfl) ?_ ?_
          · intro b9
            exact absurd b9.1 (by decide)
          · intro b9
            refine r_iload_n c61_9 rfl rfl ?_
            refine r_iload_n c61_10 rfl rfl ?_
            refine r_ic_ge c61_11 rfl (by first | exact q_w32_id (by omega) (by omega) | exact q_w32w _ | exact rfl) (show q_w32 (10) = 10 from rfl) ?_ ?_
            · intro b10
              refine r_aload_n c61_19 rfl rfl ?_
              refine r_bipush c61_20 rfl ?_
              refine r_iload_n c61_22 rfl rfl ?_
              refine r_iload_n c61_23 rfl rfl ?_
              refine r_callG c61_24 (fun _ => rfl) rfl rfl rfl (k201 hG (q_Fr.bz (S := fun k => k = o0 ∨ k = o0 + 1) hZ (by repeat (first | exact q_Fr.rf | refine q_Fr.ud ?_ (by omega) (by first | assumption | rfl) rfl | refine q_Fr.udz ?_ (by omega) (by first | assumption | decide | omega) | refine q_Fr.tr ?_ (by assumption) (by intro k9 hk9; omega))))) ?_
              intro t11 w11 g11 p11
              obtain ⟨rfl, ⟨z11, rfl⟩, rfl⟩ := p11
              refine Or.inr (Or.inl ⟨rfl, ?_⟩)
              refine r_bipush c61_27 rfl ?_
              refine r_irem c61_29 (by decide) rfl rfl ?_
              refine r_iadd c61_30 (by first | exact q_w32_id (by omega) (by omega) | exact q_w32w _ | exact rfl) rfl ?_
              refine r_vcG c61_31 (by first | assumption | omega) (by decide) (by first | assumption | rfl) rfl rfl rfl (k60 hG (q_Fr.bz (S := fun k => k = o0 ∨ k = o0 + 1) hZ (by repeat (first | exact q_Fr.rf | refine q_Fr.ud ?_ (by omega) (by first | assumption | rfl) rfl | refine q_Fr.udz ?_ (by omega) (by first | assumption | decide | omega) | refine q_Fr.tr ?_ (by assumption) (by intro k9 hk9; omega)))) (by first | assumption | exact q_hC (by assumption) | exact q_h1 (by assumption) | exact q_h3 (by assumption) | exact q_h5 (by assumption) | exact q_hG (by assumption) | exact q_hP | exact q_hB1 | exact q_hB2 | exact q_hT6 | exact q_hT15 | exact q_hT24)) ?_
              intro t12 w12 g12 p12
              obtain ⟨rfl, e12⟩ := p12
              refine Or.inl ⟨rfl, ?_⟩
              refine r_iload_n c61_34 rfl rfl ?_
              refine r_bipush c61_35 rfl ?_
              refine r_idiv c61_37 (by decide) (show (Int32.ofInt (10) / Int32.ofInt (10)).toInt = 1 from by decide +kernel) rfl ?_
              refine r_istore_n c61_38 (lo' := [(2, _), (0, _), (1, _)]) rfl rfl rfl ?_
              refine r_goto c61_39 ?_
              refine r_iload_n c61_4 rfl rfl ?_
              refine r_iconst c61_5 rfl ?_
              refine r_ic_lt c61_6 rfl (show q_w32 (1) = 1 from rfl) (show q_w32 (1) = 1 from rfl) ?_ ?_
              · intro b13
                exact absurd b13.1 (by decide)
              · intro b13
                refine r_iload_n c61_9 rfl rfl ?_
                refine r_iload_n c61_10 rfl rfl ?_
                refine r_ic_ge c61_11 rfl (by first | exact q_w32_id (by omega) (by omega) | exact q_w32w _ | exact rfl) (show q_w32 (1) = 1 from rfl) ?_ ?_
                · intro b14
                  refine r_aload_n c61_19 rfl rfl ?_
                  refine r_bipush c61_20 rfl ?_
                  refine r_iload_n c61_22 rfl rfl ?_
                  refine r_iload_n c61_23 rfl rfl ?_
                  refine r_callG c61_24 (fun _ => rfl) rfl rfl rfl (k201 hG (q_Fr.bz (S := fun k => k = o0 ∨ k = o0 + 1) hZ (by repeat (first | exact q_Fr.rf | refine q_Fr.ud ?_ (by omega) (by first | assumption | rfl) rfl | refine q_Fr.udz ?_ (by omega) (by first | assumption | decide | omega) | refine q_Fr.tr ?_ (by assumption) (by intro k9 hk9; omega))))) ?_
                  intro t15 w15 g15 p15
                  obtain ⟨rfl, ⟨z15, rfl⟩, rfl⟩ := p15
                  refine Or.inr (Or.inl ⟨rfl, ?_⟩)
                  refine r_bipush c61_27 rfl ?_
                  refine r_irem c61_29 (by decide) rfl rfl ?_
                  refine r_iadd c61_30 (by first | exact q_w32_id (by omega) (by omega) | exact q_w32w _ | exact rfl) rfl ?_
                  refine r_vcG c61_31 (by first | assumption | omega) (by decide) (by first | assumption | rfl) rfl rfl rfl (k60 hG (q_Fr.bz (S := fun k => k = o0 ∨ k = o0 + 1) hZ (by repeat (first | exact q_Fr.rf | refine q_Fr.ud ?_ (by omega) (by first | assumption | rfl) rfl | refine q_Fr.udz ?_ (by omega) (by first | assumption | decide | omega) | refine q_Fr.tr ?_ (by assumption) (by intro k9 hk9; omega)))) (by first | assumption | exact q_hC (by assumption) | exact q_h1 (by assumption) | exact q_h3 (by assumption) | exact q_h5 (by assumption) | exact q_hG (by assumption) | exact q_hP | exact q_hB1 | exact q_hB2 | exact q_hT6 | exact q_hT15 | exact q_hT24)) ?_
                  intro t16 w16 g16 p16
                  obtain ⟨rfl, e16⟩ := p16
                  refine Or.inl ⟨rfl, ?_⟩
                  refine r_iload_n c61_34 rfl rfl ?_
                  refine r_bipush c61_35 rfl ?_
                  refine r_idiv c61_37 (by decide) (show (Int32.ofInt (1) / Int32.ofInt (10)).toInt = 0 from by decide +kernel) rfl ?_
                  refine r_istore_n c61_38 (lo' := [(2, _), (0, _), (1, _)]) rfl rfl rfl ?_
                  refine r_goto c61_39 ?_
                  refine r_iload_n c61_4 rfl rfl ?_
                  refine r_iconst c61_5 rfl ?_
                  refine r_ic_lt c61_6 rfl (show q_w32 (0) = 0 from rfl) (show q_w32 (1) = 1 from rfl) ?_ ?_
                  · intro b17
                    exact r_vret c61_42 ⟨rfl, rfl, rfl⟩ ⟨rfl, (by repeat (first | exact q_Fr.rf | refine q_Fr.ud ?_ (by omega) (by first | assumption | rfl) rfl | refine q_Fr.udz ?_ (by omega) (by first | assumption | decide | omega) | refine q_Fr.tr ?_ (by assumption) (by intro k9 hk9; omega)))⟩
                  · intro b17
                    exact absurd b17.1 (by decide)
                · intro b14
                  refine r_iload_n c61_14 rfl rfl ?_
                  refine r_iconst c61_15 rfl ?_
                  refine r_ic_ne c61_16 rfl (show q_w32 (1) = 1 from rfl) (show q_w32 (1) = 1 from rfl) ?_ ?_
                  · intro b18
                    exact absurd b18.1 (by decide)
                  · intro b18
                    refine r_aload_n c61_19 rfl rfl ?_
                    refine r_bipush c61_20 rfl ?_
                    refine r_iload_n c61_22 rfl rfl ?_
                    refine r_iload_n c61_23 rfl rfl ?_
                    refine r_callG c61_24 (fun _ => rfl) rfl rfl rfl (k201 hG (q_Fr.bz (S := fun k => k = o0 ∨ k = o0 + 1) hZ (by repeat (first | exact q_Fr.rf | refine q_Fr.ud ?_ (by omega) (by first | assumption | rfl) rfl | refine q_Fr.udz ?_ (by omega) (by first | assumption | decide | omega) | refine q_Fr.tr ?_ (by assumption) (by intro k9 hk9; omega))))) ?_
                    intro t19 w19 g19 p19
                    obtain ⟨rfl, ⟨z19, rfl⟩, rfl⟩ := p19
                    refine Or.inr (Or.inl ⟨rfl, ?_⟩)
                    refine r_bipush c61_27 rfl ?_
                    refine r_irem c61_29 (by decide) rfl rfl ?_
                    refine r_iadd c61_30 (by first | exact q_w32_id (by omega) (by omega) | exact q_w32w _ | exact rfl) rfl ?_
                    refine r_vcG c61_31 (by first | assumption | omega) (by decide) (by first | assumption | rfl) rfl rfl rfl (k60 hG (q_Fr.bz (S := fun k => k = o0 ∨ k = o0 + 1) hZ (by repeat (first | exact q_Fr.rf | refine q_Fr.ud ?_ (by omega) (by first | assumption | rfl) rfl | refine q_Fr.udz ?_ (by omega) (by first | assumption | decide | omega) | refine q_Fr.tr ?_ (by assumption) (by intro k9 hk9; omega)))) (by first | assumption | exact q_hC (by assumption) | exact q_h1 (by assumption) | exact q_h3 (by assumption) | exact q_h5 (by assumption) | exact q_hG (by assumption) | exact q_hP | exact q_hB1 | exact q_hB2 | exact q_hT6 | exact q_hT15 | exact q_hT24)) ?_
                    intro t20 w20 g20 p20
                    obtain ⟨rfl, e20⟩ := p20
                    refine Or.inl ⟨rfl, ?_⟩
                    refine r_iload_n c61_34 rfl rfl ?_
                    refine r_bipush c61_35 rfl ?_
                    refine r_idiv c61_37 (by decide) (show (Int32.ofInt (1) / Int32.ofInt (10)).toInt = 0 from by decide +kernel) rfl ?_
                    refine r_istore_n c61_38 (lo' := [(2, _), (0, _), (1, _)]) rfl rfl rfl ?_
                    refine r_goto c61_39 ?_
                    refine r_iload_n c61_4 rfl rfl ?_
                    refine r_iconst c61_5 rfl ?_
                    refine r_ic_lt c61_6 rfl (show q_w32 (0) = 0 from rfl) (show q_w32 (1) = 1 from rfl) ?_ ?_
                    · intro b21
                      exact r_vret c61_42 ⟨rfl, rfl, rfl⟩ ⟨rfl, (by repeat (first | exact q_Fr.rf | refine q_Fr.ud ?_ (by omega) (by first | assumption | rfl) rfl | refine q_Fr.udz ?_ (by omega) (by first | assumption | decide | omega) | refine q_Fr.tr ?_ (by assumption) (by intro k9 hk9; omega)))⟩
                    · intro b21
                      exact absurd b21.1 (by decide)
            · intro b10
              refine r_iload_n c61_14 rfl rfl ?_
              refine r_iconst c61_15 rfl ?_
              refine r_ic_ne c61_16 rfl (show q_w32 (10) = 10 from rfl) (show q_w32 (1) = 1 from rfl) ?_ ?_
              · intro b22
                refine r_iload_n c61_34 rfl rfl ?_
                refine r_bipush c61_35 rfl ?_
                refine r_idiv c61_37 (by decide) (show (Int32.ofInt (10) / Int32.ofInt (10)).toInt = 1 from by decide +kernel) rfl ?_
                refine r_istore_n c61_38 (lo' := [(2, _), (0, _), (1, _)]) rfl rfl rfl ?_
                refine r_goto c61_39 ?_
                refine r_iload_n c61_4 rfl rfl ?_
                refine r_iconst c61_5 rfl ?_
                refine r_ic_lt c61_6 rfl (show q_w32 (1) = 1 from rfl) (show q_w32 (1) = 1 from rfl) ?_ ?_
                · intro b23
                  exact absurd b23.1 (by decide)
                · intro b23
                  refine r_iload_n c61_9 rfl rfl ?_
                  refine r_iload_n c61_10 rfl rfl ?_
                  refine r_ic_ge c61_11 rfl (by first | exact q_w32_id (by omega) (by omega) | exact q_w32w _ | exact rfl) (show q_w32 (1) = 1 from rfl) ?_ ?_
                  · intro b24
                    refine r_aload_n c61_19 rfl rfl ?_
                    refine r_bipush c61_20 rfl ?_
                    refine r_iload_n c61_22 rfl rfl ?_
                    refine r_iload_n c61_23 rfl rfl ?_
                    refine r_callG c61_24 (fun _ => rfl) rfl rfl rfl (k201 hG (q_Fr.bz (S := fun k => k = o0 ∨ k = o0 + 1) hZ (by repeat (first | exact q_Fr.rf | refine q_Fr.ud ?_ (by omega) (by first | assumption | rfl) rfl | refine q_Fr.udz ?_ (by omega) (by first | assumption | decide | omega) | refine q_Fr.tr ?_ (by assumption) (by intro k9 hk9; omega))))) ?_
                    intro t25 w25 g25 p25
                    obtain ⟨rfl, ⟨z25, rfl⟩, rfl⟩ := p25
                    refine Or.inr (Or.inl ⟨rfl, ?_⟩)
                    refine r_bipush c61_27 rfl ?_
                    refine r_irem c61_29 (by decide) rfl rfl ?_
                    refine r_iadd c61_30 (by first | exact q_w32_id (by omega) (by omega) | exact q_w32w _ | exact rfl) rfl ?_
                    refine r_vcG c61_31 (by first | assumption | omega) (by decide) (by first | assumption | rfl) rfl rfl rfl (k60 hG (q_Fr.bz (S := fun k => k = o0 ∨ k = o0 + 1) hZ (by repeat (first | exact q_Fr.rf | refine q_Fr.ud ?_ (by omega) (by first | assumption | rfl) rfl | refine q_Fr.udz ?_ (by omega) (by first | assumption | decide | omega) | refine q_Fr.tr ?_ (by assumption) (by intro k9 hk9; omega)))) (by first | assumption | exact q_hC (by assumption) | exact q_h1 (by assumption) | exact q_h3 (by assumption) | exact q_h5 (by assumption) | exact q_hG (by assumption) | exact q_hP | exact q_hB1 | exact q_hB2 | exact q_hT6 | exact q_hT15 | exact q_hT24)) ?_
                    intro t26 w26 g26 p26
                    obtain ⟨rfl, e26⟩ := p26
                    refine Or.inl ⟨rfl, ?_⟩
                    refine r_iload_n c61_34 rfl rfl ?_
                    refine r_bipush c61_35 rfl ?_
                    refine r_idiv c61_37 (by decide) (show (Int32.ofInt (1) / Int32.ofInt (10)).toInt = 0 from by decide +kernel) rfl ?_
                    refine r_istore_n c61_38 (lo' := [(2, _), (0, _), (1, _)]) rfl rfl rfl ?_
                    refine r_goto c61_39 ?_
                    refine r_iload_n c61_4 rfl rfl ?_
                    refine r_iconst c61_5 rfl ?_
                    refine r_ic_lt c61_6 rfl (show q_w32 (0) = 0 from rfl) (show q_w32 (1) = 1 from rfl) ?_ ?_
                    · intro b27
                      exact r_vret c61_42 ⟨rfl, rfl, rfl⟩ ⟨rfl, (by repeat (first | exact q_Fr.rf | refine q_Fr.ud ?_ (by omega) (by first | assumption | rfl) rfl | refine q_Fr.udz ?_ (by omega) (by first | assumption | decide | omega) | refine q_Fr.tr ?_ (by assumption) (by intro k9 hk9; omega)))⟩
                    · intro b27
                      exact absurd b27.1 (by decide)
                  · intro b24
                    refine r_iload_n c61_14 rfl rfl ?_
                    refine r_iconst c61_15 rfl ?_
                    refine r_ic_ne c61_16 rfl (show q_w32 (1) = 1 from rfl) (show q_w32 (1) = 1 from rfl) ?_ ?_
                    · intro b28
                      exact absurd b28.1 (by decide)
                    · intro b28
                      refine r_aload_n c61_19 rfl rfl ?_
                      refine r_bipush c61_20 rfl ?_
                      refine r_iload_n c61_22 rfl rfl ?_
                      refine r_iload_n c61_23 rfl rfl ?_
                      refine r_callG c61_24 (fun _ => rfl) rfl rfl rfl (k201 hG (q_Fr.bz (S := fun k => k = o0 ∨ k = o0 + 1) hZ (by repeat (first | exact q_Fr.rf | refine q_Fr.ud ?_ (by omega) (by first | assumption | rfl) rfl | refine q_Fr.udz ?_ (by omega) (by first | assumption | decide | omega) | refine q_Fr.tr ?_ (by assumption) (by intro k9 hk9; omega))))) ?_
                      intro t29 w29 g29 p29
                      obtain ⟨rfl, ⟨z29, rfl⟩, rfl⟩ := p29
                      refine Or.inr (Or.inl ⟨rfl, ?_⟩)
                      refine r_bipush c61_27 rfl ?_
                      refine r_irem c61_29 (by decide) rfl rfl ?_
                      refine r_iadd c61_30 (by first | exact q_w32_id (by omega) (by omega) | exact q_w32w _ | exact rfl) rfl ?_
                      refine r_vcG c61_31 (by first | assumption | omega) (by decide) (by first | assumption | rfl) rfl rfl rfl (k60 hG (q_Fr.bz (S := fun k => k = o0 ∨ k = o0 + 1) hZ (by repeat (first | exact q_Fr.rf | refine q_Fr.ud ?_ (by omega) (by first | assumption | rfl) rfl | refine q_Fr.udz ?_ (by omega) (by first | assumption | decide | omega) | refine q_Fr.tr ?_ (by assumption) (by intro k9 hk9; omega)))) (by first | assumption | exact q_hC (by assumption) | exact q_h1 (by assumption) | exact q_h3 (by assumption) | exact q_h5 (by assumption) | exact q_hG (by assumption) | exact q_hP | exact q_hB1 | exact q_hB2 | exact q_hT6 | exact q_hT15 | exact q_hT24)) ?_
                      intro t30 w30 g30 p30
                      obtain ⟨rfl, e30⟩ := p30
                      refine Or.inl ⟨rfl, ?_⟩
                      refine r_iload_n c61_34 rfl rfl ?_
                      refine r_bipush c61_35 rfl ?_
                      refine r_idiv c61_37 (by decide) (show (Int32.ofInt (1) / Int32.ofInt (10)).toInt = 0 from by decide +kernel) rfl ?_
                      refine r_istore_n c61_38 (lo' := [(2, _), (0, _), (1, _)]) rfl rfl rfl ?_
                      refine r_goto c61_39 ?_
                      refine r_iload_n c61_4 rfl rfl ?_
                      refine r_iconst c61_5 rfl ?_
                      refine r_ic_lt c61_6 rfl (show q_w32 (0) = 0 from rfl) (show q_w32 (1) = 1 from rfl) ?_ ?_
                      · intro b31
                        exact r_vret c61_42 ⟨rfl, rfl, rfl⟩ ⟨rfl, (by repeat (first | exact q_Fr.rf | refine q_Fr.ud ?_ (by omega) (by first | assumption | rfl) rfl | refine q_Fr.udz ?_ (by omega) (by first | assumption | decide | omega) | refine q_Fr.tr ?_ (by assumption) (by intro k9 hk9; omega)))⟩
                      · intro b31
                        exact absurd b31.1 (by decide)
              · intro b22
                exact absurd b22.1 (by decide)
        · intro b6
          refine r_iload_n c61_14 rfl rfl ?_
          refine r_iconst c61_15 rfl ?_
          refine r_ic_ne c61_16 rfl (show q_w32 (100) = 100 from rfl) (show q_w32 (1) = 1 from rfl) ?_ ?_
          · intro b32
            refine r_iload_n c61_34 rfl rfl ?_
            refine r_bipush c61_35 rfl ?_
            refine r_idiv c61_37 (by decide) (show (Int32.ofInt (100) / Int32.ofInt (10)).toInt = 10 from by decide +kernel) rfl ?_
            refine r_istore_n c61_38 (lo' := [(2, _), (0, _), (1, _)]) rfl rfl rfl ?_
            refine r_goto c61_39 ?_
            refine r_iload_n c61_4 rfl rfl ?_
            refine r_iconst c61_5 rfl ?_
            refine r_ic_lt c61_6 rfl (show q_w32 (10) = 10 from rfl) (show q_w32 (1) = 1 from rfl) ?_ ?_
            · intro b33
              exact absurd b33.1 (by decide)
            · intro b33
              refine r_iload_n c61_9 rfl rfl ?_
              refine r_iload_n c61_10 rfl rfl ?_
              refine r_ic_ge c61_11 rfl (by first | exact q_w32_id (by omega) (by omega) | exact q_w32w _ | exact rfl) (show q_w32 (10) = 10 from rfl) ?_ ?_
              · intro b34
                refine r_aload_n c61_19 rfl rfl ?_
                refine r_bipush c61_20 rfl ?_
                refine r_iload_n c61_22 rfl rfl ?_
                refine r_iload_n c61_23 rfl rfl ?_
                refine r_callG c61_24 (fun _ => rfl) rfl rfl rfl (k201 hG (q_Fr.bz (S := fun k => k = o0 ∨ k = o0 + 1) hZ (by repeat (first | exact q_Fr.rf | refine q_Fr.ud ?_ (by omega) (by first | assumption | rfl) rfl | refine q_Fr.udz ?_ (by omega) (by first | assumption | decide | omega) | refine q_Fr.tr ?_ (by assumption) (by intro k9 hk9; omega))))) ?_
                intro t35 w35 g35 p35
                obtain ⟨rfl, ⟨z35, rfl⟩, rfl⟩ := p35
                refine Or.inr (Or.inl ⟨rfl, ?_⟩)
                refine r_bipush c61_27 rfl ?_
                refine r_irem c61_29 (by decide) rfl rfl ?_
                refine r_iadd c61_30 (by first | exact q_w32_id (by omega) (by omega) | exact q_w32w _ | exact rfl) rfl ?_
                refine r_vcG c61_31 (by first | assumption | omega) (by decide) (by first | assumption | rfl) rfl rfl rfl (k60 hG (q_Fr.bz (S := fun k => k = o0 ∨ k = o0 + 1) hZ (by repeat (first | exact q_Fr.rf | refine q_Fr.ud ?_ (by omega) (by first | assumption | rfl) rfl | refine q_Fr.udz ?_ (by omega) (by first | assumption | decide | omega) | refine q_Fr.tr ?_ (by assumption) (by intro k9 hk9; omega)))) (by first | assumption | exact q_hC (by assumption) | exact q_h1 (by assumption) | exact q_h3 (by assumption) | exact q_h5 (by assumption) | exact q_hG (by assumption) | exact q_hP | exact q_hB1 | exact q_hB2 | exact q_hT6 | exact q_hT15 | exact q_hT24)) ?_
                intro t36 w36 g36 p36
                obtain ⟨rfl, e36⟩ := p36
                refine Or.inl ⟨rfl, ?_⟩
                refine r_iload_n c61_34 rfl rfl ?_
                refine r_bipush c61_35 rfl ?_
                refine r_idiv c61_37 (by decide) (show (Int32.ofInt (10) / Int32.ofInt (10)).toInt = 1 from by decide +kernel) rfl ?_
                refine r_istore_n c61_38 (lo' := [(2, _), (0, _), (1, _)]) rfl rfl rfl ?_
                refine r_goto c61_39 ?_
                refine r_iload_n c61_4 rfl rfl ?_
                refine r_iconst c61_5 rfl ?_
                refine r_ic_lt c61_6 rfl (show q_w32 (1) = 1 from rfl) (show q_w32 (1) = 1 from rfl) ?_ ?_
                · intro b37
                  exact absurd b37.1 (by decide)
                · intro b37
                  refine r_iload_n c61_9 rfl rfl ?_
                  refine r_iload_n c61_10 rfl rfl ?_
                  refine r_ic_ge c61_11 rfl (by first | exact q_w32_id (by omega) (by omega) | exact q_w32w _ | exact rfl) (show q_w32 (1) = 1 from rfl) ?_ ?_
                  · intro b38
                    refine r_aload_n c61_19 rfl rfl ?_
                    refine r_bipush c61_20 rfl ?_
                    refine r_iload_n c61_22 rfl rfl ?_
                    refine r_iload_n c61_23 rfl rfl ?_
                    refine r_callG c61_24 (fun _ => rfl) rfl rfl rfl (k201 hG (q_Fr.bz (S := fun k => k = o0 ∨ k = o0 + 1) hZ (by repeat (first | exact q_Fr.rf | refine q_Fr.ud ?_ (by omega) (by first | assumption | rfl) rfl | refine q_Fr.udz ?_ (by omega) (by first | assumption | decide | omega) | refine q_Fr.tr ?_ (by assumption) (by intro k9 hk9; omega))))) ?_
                    intro t39 w39 g39 p39
                    obtain ⟨rfl, ⟨z39, rfl⟩, rfl⟩ := p39
                    refine Or.inr (Or.inl ⟨rfl, ?_⟩)
                    refine r_bipush c61_27 rfl ?_
                    refine r_irem c61_29 (by decide) rfl rfl ?_
                    refine r_iadd c61_30 (by first | exact q_w32_id (by omega) (by omega) | exact q_w32w _ | exact rfl) rfl ?_
                    refine r_vcG c61_31 (by first | assumption | omega) (by decide) (by first | assumption | rfl) rfl rfl rfl (k60 hG (q_Fr.bz (S := fun k => k = o0 ∨ k = o0 + 1) hZ (by repeat (first | exact q_Fr.rf | refine q_Fr.ud ?_ (by omega) (by first | assumption | rfl) rfl | refine q_Fr.udz ?_ (by omega) (by first | assumption | decide | omega) | refine q_Fr.tr ?_ (by assumption) (by intro k9 hk9; omega)))) (by first | assumption | exact q_hC (by assumption) | exact q_h1 (by assumption) | exact q_h3 (by assumption) | exact q_h5 (by assumption) | exact q_hG (by assumption) | exact q_hP | exact q_hB1 | exact q_hB2 | exact q_hT6 | exact q_hT15 | exact q_hT24)) ?_
                    intro t40 w40 g40 p40
                    obtain ⟨rfl, e40⟩ := p40
                    refine Or.inl ⟨rfl, ?_⟩
                    refine r_iload_n c61_34 rfl rfl ?_
                    refine r_bipush c61_35 rfl ?_
                    refine r_idiv c61_37 (by decide) (show (Int32.ofInt (1) / Int32.ofInt (10)).toInt = 0 from by decide +kernel) rfl ?_
                    refine r_istore_n c61_38 (lo' := [(2, _), (0, _), (1, _)]) rfl rfl rfl ?_
                    refine r_goto c61_39 ?_
                    refine r_iload_n c61_4 rfl rfl ?_
                    refine r_iconst c61_5 rfl ?_
                    refine r_ic_lt c61_6 rfl (show q_w32 (0) = 0 from rfl) (show q_w32 (1) = 1 from rfl) ?_ ?_
                    · intro b41
                      exact r_vret c61_42 ⟨rfl, rfl, rfl⟩ ⟨rfl, (by repeat (first | exact q_Fr.rf | refine q_Fr.ud ?_ (by omega) (by first | assumption | rfl) rfl | refine q_Fr.udz ?_ (by omega) (by first | assumption | decide | omega) | refine q_Fr.tr ?_ (by assumption) (by intro k9 hk9; omega)))⟩
                    · intro b41
                      exact absurd b41.1 (by decide)
                  · intro b38
                    refine r_iload_n c61_14 rfl rfl ?_
                    refine r_iconst c61_15 rfl ?_
                    refine r_ic_ne c61_16 rfl (show q_w32 (1) = 1 from rfl) (show q_w32 (1) = 1 from rfl) ?_ ?_
                    · intro b42
                      exact absurd b42.1 (by decide)
                    · intro b42
                      refine r_aload_n c61_19 rfl rfl ?_
                      refine r_bipush c61_20 rfl ?_
                      refine r_iload_n c61_22 rfl rfl ?_
                      refine r_iload_n c61_23 rfl rfl ?_
                      refine r_callG c61_24 (fun _ => rfl) rfl rfl rfl (k201 hG (q_Fr.bz (S := fun k => k = o0 ∨ k = o0 + 1) hZ (by repeat (first | exact q_Fr.rf | refine q_Fr.ud ?_ (by omega) (by first | assumption | rfl) rfl | refine q_Fr.udz ?_ (by omega) (by first | assumption | decide | omega) | refine q_Fr.tr ?_ (by assumption) (by intro k9 hk9; omega))))) ?_
                      intro t43 w43 g43 p43
                      obtain ⟨rfl, ⟨z43, rfl⟩, rfl⟩ := p43
                      refine Or.inr (Or.inl ⟨rfl, ?_⟩)
                      refine r_bipush c61_27 rfl ?_
                      refine r_irem c61_29 (by decide) rfl rfl ?_
                      refine r_iadd c61_30 (by first | exact q_w32_id (by omega) (by omega) | exact q_w32w _ | exact rfl) rfl ?_
                      refine r_vcG c61_31 (by first | assumption | omega) (by decide) (by first | assumption | rfl) rfl rfl rfl (k60 hG (q_Fr.bz (S := fun k => k = o0 ∨ k = o0 + 1) hZ (by repeat (first | exact q_Fr.rf | refine q_Fr.ud ?_ (by omega) (by first | assumption | rfl) rfl | refine q_Fr.udz ?_ (by omega) (by first | assumption | decide | omega) | refine q_Fr.tr ?_ (by assumption) (by intro k9 hk9; omega)))) (by first | assumption | exact q_hC (by assumption) | exact q_h1 (by assumption) | exact q_h3 (by assumption) | exact q_h5 (by assumption) | exact q_hG (by assumption) | exact q_hP | exact q_hB1 | exact q_hB2 | exact q_hT6 | exact q_hT15 | exact q_hT24)) ?_
                      intro t44 w44 g44 p44
                      obtain ⟨rfl, e44⟩ := p44
                      refine Or.inl ⟨rfl, ?_⟩
                      refine r_iload_n c61_34 rfl rfl ?_
                      refine r_bipush c61_35 rfl ?_
                      refine r_idiv c61_37 (by decide) (show (Int32.ofInt (1) / Int32.ofInt (10)).toInt = 0 from by decide +kernel) rfl ?_
                      refine r_istore_n c61_38 (lo' := [(2, _), (0, _), (1, _)]) rfl rfl rfl ?_
                      refine r_goto c61_39 ?_
                      refine r_iload_n c61_4 rfl rfl ?_
                      refine r_iconst c61_5 rfl ?_
                      refine r_ic_lt c61_6 rfl (show q_w32 (0) = 0 from rfl) (show q_w32 (1) = 1 from rfl) ?_ ?_
                      · intro b45
                        exact r_vret c61_42 ⟨rfl, rfl, rfl⟩ ⟨rfl, (by repeat (first | exact q_Fr.rf | refine q_Fr.ud ?_ (by omega) (by first | assumption | rfl) rfl | refine q_Fr.udz ?_ (by omega) (by first | assumption | decide | omega) | refine q_Fr.tr ?_ (by assumption) (by intro k9 hk9; omega)))⟩
                      · intro b45
                        exact absurd b45.1 (by decide)
              · intro b34
                refine r_iload_n c61_14 rfl rfl ?_
                refine r_iconst c61_15 rfl ?_
                refine r_ic_ne c61_16 rfl (show q_w32 (10) = 10 from rfl) (show q_w32 (1) = 1 from rfl) ?_ ?_
                · intro b46
                  refine r_iload_n c61_34 rfl rfl ?_
                  refine r_bipush c61_35 rfl ?_
                  refine r_idiv c61_37 (by decide) (show (Int32.ofInt (10) / Int32.ofInt (10)).toInt = 1 from by decide +kernel) rfl ?_
                  refine r_istore_n c61_38 (lo' := [(2, _), (0, _), (1, _)]) rfl rfl rfl ?_
                  refine r_goto c61_39 ?_
                  refine r_iload_n c61_4 rfl rfl ?_
                  refine r_iconst c61_5 rfl ?_
                  refine r_ic_lt c61_6 rfl (show q_w32 (1) = 1 from rfl) (show q_w32 (1) = 1 from rfl) ?_ ?_
                  · intro b47
                    exact absurd b47.1 (by decide)
                  · intro b47
                    refine r_iload_n c61_9 rfl rfl ?_
                    refine r_iload_n c61_10 rfl rfl ?_
                    refine r_ic_ge c61_11 rfl (by first | exact q_w32_id (by omega) (by omega) | exact q_w32w _ | exact rfl) (show q_w32 (1) = 1 from rfl) ?_ ?_
                    · intro b48
                      refine r_aload_n c61_19 rfl rfl ?_
                      refine r_bipush c61_20 rfl ?_
                      refine r_iload_n c61_22 rfl rfl ?_
                      refine r_iload_n c61_23 rfl rfl ?_
                      refine r_callG c61_24 (fun _ => rfl) rfl rfl rfl (k201 hG (q_Fr.bz (S := fun k => k = o0 ∨ k = o0 + 1) hZ (by repeat (first | exact q_Fr.rf | refine q_Fr.ud ?_ (by omega) (by first | assumption | rfl) rfl | refine q_Fr.udz ?_ (by omega) (by first | assumption | decide | omega) | refine q_Fr.tr ?_ (by assumption) (by intro k9 hk9; omega))))) ?_
                      intro t49 w49 g49 p49
                      obtain ⟨rfl, ⟨z49, rfl⟩, rfl⟩ := p49
                      refine Or.inr (Or.inl ⟨rfl, ?_⟩)
                      refine r_bipush c61_27 rfl ?_
                      refine r_irem c61_29 (by decide) rfl rfl ?_
                      refine r_iadd c61_30 (by first | exact q_w32_id (by omega) (by omega) | exact q_w32w _ | exact rfl) rfl ?_
                      refine r_vcG c61_31 (by first | assumption | omega) (by decide) (by first | assumption | rfl) rfl rfl rfl (k60 hG (q_Fr.bz (S := fun k => k = o0 ∨ k = o0 + 1) hZ (by repeat (first | exact q_Fr.rf | refine q_Fr.ud ?_ (by omega) (by first | assumption | rfl) rfl | refine q_Fr.udz ?_ (by omega) (by first | assumption | decide | omega) | refine q_Fr.tr ?_ (by assumption) (by intro k9 hk9; omega)))) (by first | assumption | exact q_hC (by assumption) | exact q_h1 (by assumption) | exact q_h3 (by assumption) | exact q_h5 (by assumption) | exact q_hG (by assumption) | exact q_hP | exact q_hB1 | exact q_hB2 | exact q_hT6 | exact q_hT15 | exact q_hT24)) ?_
                      intro t50 w50 g50 p50
                      obtain ⟨rfl, e50⟩ := p50
                      refine Or.inl ⟨rfl, ?_⟩
                      refine r_iload_n c61_34 rfl rfl ?_
                      refine r_bipush c61_35 rfl ?_
                      refine r_idiv c61_37 (by decide) (show (Int32.ofInt (1) / Int32.ofInt (10)).toInt = 0 from by decide +kernel) rfl ?_
                      refine r_istore_n c61_38 (lo' := [(2, _), (0, _), (1, _)]) rfl rfl rfl ?_
                      refine r_goto c61_39 ?_
                      refine r_iload_n c61_4 rfl rfl ?_
                      refine r_iconst c61_5 rfl ?_
                      refine r_ic_lt c61_6 rfl (show q_w32 (0) = 0 from rfl) (show q_w32 (1) = 1 from rfl) ?_ ?_
                      · intro b51
                        exact r_vret c61_42 ⟨rfl, rfl, rfl⟩ ⟨rfl, (by repeat (first | exact q_Fr.rf | refine q_Fr.ud ?_ (by omega) (by first | assumption | rfl) rfl | refine q_Fr.udz ?_ (by omega) (by first | assumption | decide | omega) | refine q_Fr.tr ?_ (by assumption) (by intro k9 hk9; omega)))⟩
                      · intro b51
                        exact absurd b51.1 (by decide)
                    · intro b48
                      refine r_iload_n c61_14 rfl rfl ?_
                      refine r_iconst c61_15 rfl ?_
                      refine r_ic_ne c61_16 rfl (show q_w32 (1) = 1 from rfl) (show q_w32 (1) = 1 from rfl) ?_ ?_
                      · intro b52
                        exact absurd b52.1 (by decide)
                      · intro b52
                        refine r_aload_n c61_19 rfl rfl ?_
                        refine r_bipush c61_20 rfl ?_
                        refine r_iload_n c61_22 rfl rfl ?_
                        refine r_iload_n c61_23 rfl rfl ?_
                        refine r_callG c61_24 (fun _ => rfl) rfl rfl rfl (k201 hG (q_Fr.bz (S := fun k => k = o0 ∨ k = o0 + 1) hZ (by repeat (first | exact q_Fr.rf | refine q_Fr.ud ?_ (by omega) (by first | assumption | rfl) rfl | refine q_Fr.udz ?_ (by omega) (by first | assumption | decide | omega) | refine q_Fr.tr ?_ (by assumption) (by intro k9 hk9; omega))))) ?_
                        intro t53 w53 g53 p53
                        obtain ⟨rfl, ⟨z53, rfl⟩, rfl⟩ := p53
                        refine Or.inr (Or.inl ⟨rfl, ?_⟩)
                        refine r_bipush c61_27 rfl ?_
                        refine r_irem c61_29 (by decide) rfl rfl ?_
                        refine r_iadd c61_30 (by first | exact q_w32_id (by omega) (by omega) | exact q_w32w _ | exact rfl) rfl ?_
                        refine r_vcG c61_31 (by first | assumption | omega) (by decide) (by first | assumption | rfl) rfl rfl rfl (k60 hG (q_Fr.bz (S := fun k => k = o0 ∨ k = o0 + 1) hZ (by repeat (first | exact q_Fr.rf | refine q_Fr.ud ?_ (by omega) (by first | assumption | rfl) rfl | refine q_Fr.udz ?_ (by omega) (by first | assumption | decide | omega) | refine q_Fr.tr ?_ (by assumption) (by intro k9 hk9; omega)))) (by first | assumption | exact q_hC (by assumption) | exact q_h1 (by assumption) | exact q_h3 (by assumption) | exact q_h5 (by assumption) | exact q_hG (by assumption) | exact q_hP | exact q_hB1 | exact q_hB2 | exact q_hT6 | exact q_hT15 | exact q_hT24)) ?_
                        intro t54 w54 g54 p54
                        obtain ⟨rfl, e54⟩ := p54
                        refine Or.inl ⟨rfl, ?_⟩
                        refine r_iload_n c61_34 rfl rfl ?_
                        refine r_bipush c61_35 rfl ?_
                        refine r_idiv c61_37 (by decide) (show (Int32.ofInt (1) / Int32.ofInt (10)).toInt = 0 from by decide +kernel) rfl ?_
                        refine r_istore_n c61_38 (lo' := [(2, _), (0, _), (1, _)]) rfl rfl rfl ?_
                        refine r_goto c61_39 ?_
                        refine r_iload_n c61_4 rfl rfl ?_
                        refine r_iconst c61_5 rfl ?_
                        refine r_ic_lt c61_6 rfl (show q_w32 (0) = 0 from rfl) (show q_w32 (1) = 1 from rfl) ?_ ?_
                        · intro b55
                          exact r_vret c61_42 ⟨rfl, rfl, rfl⟩ ⟨rfl, (by repeat (first | exact q_Fr.rf | refine q_Fr.ud ?_ (by omega) (by first | assumption | rfl) rfl | refine q_Fr.udz ?_ (by omega) (by first | assumption | decide | omega) | refine q_Fr.tr ?_ (by assumption) (by intro k9 hk9; omega)))⟩
                        · intro b55
                          exact absurd b55.1 (by decide)
                · intro b46
                  exact absurd b46.1 (by decide)
          · intro b32
            exact absurd b32.1 (by decide)
    · intro b2
      refine r_iload_n c61_14 rfl rfl ?_
      refine r_iconst c61_15 rfl ?_
      refine r_ic_ne c61_16 rfl (show q_w32 (1000) = 1000 from rfl) (show q_w32 (1) = 1 from rfl) ?_ ?_
      · intro b56
        refine r_iload_n c61_34 rfl rfl ?_
        refine r_bipush c61_35 rfl ?_
        refine r_idiv c61_37 (by decide) (show (Int32.ofInt (1000) / Int32.ofInt (10)).toInt = 100 from by decide +kernel) rfl ?_
        refine r_istore_n c61_38 (lo' := [(2, _), (0, _), (1, _)]) rfl rfl rfl ?_
        refine r_goto c61_39 ?_
        refine r_iload_n c61_4 rfl rfl ?_
        refine r_iconst c61_5 rfl ?_
        refine r_ic_lt c61_6 rfl (show q_w32 (100) = 100 from rfl) (show q_w32 (1) = 1 from rfl) ?_ ?_
        · intro b57
          exact absurd b57.1 (by decide)
        · intro b57
          refine r_iload_n c61_9 rfl rfl ?_
          refine r_iload_n c61_10 rfl rfl ?_
          refine r_ic_ge c61_11 rfl (by first | exact q_w32_id (by omega) (by omega) | exact q_w32w _ | exact rfl) (show q_w32 (100) = 100 from rfl) ?_ ?_
          · intro b58
            refine r_aload_n c61_19 rfl rfl ?_
            refine r_bipush c61_20 rfl ?_
            refine r_iload_n c61_22 rfl rfl ?_
            refine r_iload_n c61_23 rfl rfl ?_
            refine r_callG c61_24 (fun _ => rfl) rfl rfl rfl (k201 hG (q_Fr.bz (S := fun k => k = o0 ∨ k = o0 + 1) hZ (by repeat (first | exact q_Fr.rf | refine q_Fr.ud ?_ (by omega) (by first | assumption | rfl) rfl | refine q_Fr.udz ?_ (by omega) (by first | assumption | decide | omega) | refine q_Fr.tr ?_ (by assumption) (by intro k9 hk9; omega))))) ?_
            intro t59 w59 g59 p59
            obtain ⟨rfl, ⟨z59, rfl⟩, rfl⟩ := p59
            refine Or.inr (Or.inl ⟨rfl, ?_⟩)
            refine r_bipush c61_27 rfl ?_
            refine r_irem c61_29 (by decide) rfl rfl ?_
            refine r_iadd c61_30 (by first | exact q_w32_id (by omega) (by omega) | exact q_w32w _ | exact rfl) rfl ?_
            refine r_vcG c61_31 (by first | assumption | omega) (by decide) (by first | assumption | rfl) rfl rfl rfl (k60 hG (q_Fr.bz (S := fun k => k = o0 ∨ k = o0 + 1) hZ (by repeat (first | exact q_Fr.rf | refine q_Fr.ud ?_ (by omega) (by first | assumption | rfl) rfl | refine q_Fr.udz ?_ (by omega) (by first | assumption | decide | omega) | refine q_Fr.tr ?_ (by assumption) (by intro k9 hk9; omega)))) (by first | assumption | exact q_hC (by assumption) | exact q_h1 (by assumption) | exact q_h3 (by assumption) | exact q_h5 (by assumption) | exact q_hG (by assumption) | exact q_hP | exact q_hB1 | exact q_hB2 | exact q_hT6 | exact q_hT15 | exact q_hT24)) ?_
            intro t60 w60 g60 p60
            obtain ⟨rfl, e60⟩ := p60
            refine Or.inl ⟨rfl, ?_⟩
            refine r_iload_n c61_34 rfl rfl ?_
            refine r_bipush c61_35 rfl ?_
            refine r_idiv c61_37 (by decide) (show (Int32.ofInt (100) / Int32.ofInt (10)).toInt = 10 from by decide +kernel) rfl ?_
            refine r_istore_n c61_38 (lo' := [(2, _), (0, _), (1, _)]) rfl rfl rfl ?_
            refine r_goto c61_39 ?_
            refine r_iload_n c61_4 rfl rfl ?_
            refine r_iconst c61_5 rfl ?_
            refine r_ic_lt c61_6 rfl (show q_w32 (10) = 10 from rfl) (show q_w32 (1) = 1 from rfl) ?_ ?_
            · intro b61
              exact absurd b61.1 (by decide)
            · intro b61
              refine r_iload_n c61_9 rfl rfl ?_
              refine r_iload_n c61_10 rfl rfl ?_
              refine r_ic_ge c61_11 rfl (by first | exact q_w32_id (by omega) (by omega) | exact q_w32w _ | exact rfl) (show q_w32 (10) = 10 from rfl) ?_ ?_
              · intro b62
                refine r_aload_n c61_19 rfl rfl ?_
                refine r_bipush c61_20 rfl ?_
                refine r_iload_n c61_22 rfl rfl ?_
                refine r_iload_n c61_23 rfl rfl ?_
                refine r_callG c61_24 (fun _ => rfl) rfl rfl rfl (k201 hG (q_Fr.bz (S := fun k => k = o0 ∨ k = o0 + 1) hZ (by repeat (first | exact q_Fr.rf | refine q_Fr.ud ?_ (by omega) (by first | assumption | rfl) rfl | refine q_Fr.udz ?_ (by omega) (by first | assumption | decide | omega) | refine q_Fr.tr ?_ (by assumption) (by intro k9 hk9; omega))))) ?_
                intro t63 w63 g63 p63
                obtain ⟨rfl, ⟨z63, rfl⟩, rfl⟩ := p63
                refine Or.inr (Or.inl ⟨rfl, ?_⟩)
                refine r_bipush c61_27 rfl ?_
                refine r_irem c61_29 (by decide) rfl rfl ?_
                refine r_iadd c61_30 (by first | exact q_w32_id (by omega) (by omega) | exact q_w32w _ | exact rfl) rfl ?_
                refine r_vcG c61_31 (by first | assumption | omega) (by decide) (by first | assumption | rfl) rfl rfl rfl (k60 hG (q_Fr.bz (S := fun k => k = o0 ∨ k = o0 + 1) hZ (by repeat (first | exact q_Fr.rf | refine q_Fr.ud ?_ (by omega) (by first | assumption | rfl) rfl | refine q_Fr.udz ?_ (by omega) (by first | assumption | decide | omega) | refine q_Fr.tr ?_ (by assumption) (by intro k9 hk9; omega)))) (by first | assumption | exact q_hC (by assumption) | exact q_h1 (by assumption) | exact q_h3 (by assumption) | exact q_h5 (by assumption) | exact q_hG (by assumption) | exact q_hP | exact q_hB1 | exact q_hB2 | exact q_hT6 | exact q_hT15 | exact q_hT24)) ?_
                intro t64 w64 g64 p64
                obtain ⟨rfl, e64⟩ := p64
                refine Or.inl ⟨rfl, ?_⟩
                refine r_iload_n c61_34 rfl rfl ?_
                refine r_bipush c61_35 rfl ?_
                refine r_idiv c61_37 (by decide) (show (Int32.ofInt (10) / Int32.ofInt (10)).toInt = 1 from by decide +kernel) rfl ?_
                refine r_istore_n c61_38 (lo' := [(2, _), (0, _), (1, _)]) rfl rfl rfl ?_
                refine r_goto c61_39 ?_
                refine r_iload_n c61_4 rfl rfl ?_
                refine r_iconst c61_5 rfl ?_
                refine r_ic_lt c61_6 rfl (show q_w32 (1) = 1 from rfl) (show q_w32 (1) = 1 from rfl) ?_ ?_
                · intro b65
                  exact absurd b65.1 (by decide)
                · intro b65
                  refine r_iload_n c61_9 rfl rfl ?_
                  refine r_iload_n c61_10 rfl rfl ?_
                  refine r_ic_ge c61_11 rfl (by first | exact q_w32_id (by omega) (by omega) | exact q_w32w _ | exact rfl) (show q_w32 (1) = 1 from rfl) ?_ ?_
                  · intro b66
                    refine r_aload_n c61_19 rfl rfl ?_
                    refine r_bipush c61_20 rfl ?_
                    refine r_iload_n c61_22 rfl rfl ?_
                    refine r_iload_n c61_23 rfl rfl ?_
                    refine r_callG c61_24 (fun _ => rfl) rfl rfl rfl (k201 hG (q_Fr.bz (S := fun k => k = o0 ∨ k = o0 + 1) hZ (by repeat (first | exact q_Fr.rf | refine q_Fr.ud ?_ (by omega) (by first | assumption | rfl) rfl | refine q_Fr.udz ?_ (by omega) (by first | assumption | decide | omega) | refine q_Fr.tr ?_ (by assumption) (by intro k9 hk9; omega))))) ?_
                    intro t67 w67 g67 p67
                    obtain ⟨rfl, ⟨z67, rfl⟩, rfl⟩ := p67
                    refine Or.inr (Or.inl ⟨rfl, ?_⟩)
                    refine r_bipush c61_27 rfl ?_
                    refine r_irem c61_29 (by decide) rfl rfl ?_
                    refine r_iadd c61_30 (by first | exact q_w32_id (by omega) (by omega) | exact q_w32w _ | exact rfl) rfl ?_
                    refine r_vcG c61_31 (by first | assumption | omega) (by decide) (by first | assumption | rfl) rfl rfl rfl (k60 hG (q_Fr.bz (S := fun k => k = o0 ∨ k = o0 + 1) hZ (by repeat (first | exact q_Fr.rf | refine q_Fr.ud ?_ (by omega) (by first | assumption | rfl) rfl | refine q_Fr.udz ?_ (by omega) (by first | assumption | decide | omega) | refine q_Fr.tr ?_ (by assumption) (by intro k9 hk9; omega)))) (by first | assumption | exact q_hC (by assumption) | exact q_h1 (by assumption) | exact q_h3 (by assumption) | exact q_h5 (by assumption) | exact q_hG (by assumption) | exact q_hP | exact q_hB1 | exact q_hB2 | exact q_hT6 | exact q_hT15 | exact q_hT24)) ?_
                    intro t68 w68 g68 p68
                    obtain ⟨rfl, e68⟩ := p68
                    refine Or.inl ⟨rfl, ?_⟩
                    refine r_iload_n c61_34 rfl rfl ?_
                    refine r_bipush c61_35 rfl ?_
                    refine r_idiv c61_37 (by decide) (show (Int32.ofInt (1) / Int32.ofInt (10)).toInt = 0 from by decide +kernel) rfl ?_
                    refine r_istore_n c61_38 (lo' := [(2, _), (0, _), (1, _)]) rfl rfl rfl ?_
                    refine r_goto c61_39 ?_
                    refine r_iload_n c61_4 rfl rfl ?_
                    refine r_iconst c61_5 rfl ?_
                    refine r_ic_lt c61_6 rfl (show q_w32 (0) = 0 from rfl) (show q_w32 (1) = 1 from rfl) ?_ ?_
                    · intro b69
                      exact r_vret c61_42 ⟨rfl, rfl, rfl⟩ ⟨rfl, (by repeat (first | exact q_Fr.rf | refine q_Fr.ud ?_ (by omega) (by first | assumption | rfl) rfl | refine q_Fr.udz ?_ (by omega) (by first | assumption | decide | omega) | refine q_Fr.tr ?_ (by assumption) (by intro k9 hk9; omega)))⟩
                    · intro b69
                      exact absurd b69.1 (by decide)
                  · intro b66
                    refine r_iload_n c61_14 rfl rfl ?_
                    refine r_iconst c61_15 rfl ?_
                    refine r_ic_ne c61_16 rfl (show q_w32 (1) = 1 from rfl) (show q_w32 (1) = 1 from rfl) ?_ ?_
                    · intro b70
                      exact absurd b70.1 (by decide)
                    · intro b70
                      refine r_aload_n c61_19 rfl rfl ?_
                      refine r_bipush c61_20 rfl ?_
                      refine r_iload_n c61_22 rfl rfl ?_
                      refine r_iload_n c61_23 rfl rfl ?_
                      refine r_callG c61_24 (fun _ => rfl) rfl rfl rfl (k201 hG (q_Fr.bz (S := fun k => k = o0 ∨ k = o0 + 1) hZ (by repeat (first | exact q_Fr.rf | refine q_Fr.ud ?_ (by omega) (by first | assumption | rfl) rfl | refine q_Fr.udz ?_ (by omega) (by first | assumption | decide | omega) | refine q_Fr.tr ?_ (by assumption) (by intro k9 hk9; omega))))) ?_
                      intro t71 w71 g71 p71
                      obtain ⟨rfl, ⟨z71, rfl⟩, rfl⟩ := p71
                      refine Or.inr (Or.inl ⟨rfl, ?_⟩)
                      refine r_bipush c61_27 rfl ?_
                      refine r_irem c61_29 (by decide) rfl rfl ?_
                      refine r_iadd c61_30 (by first | exact q_w32_id (by omega) (by omega) | exact q_w32w _ | exact rfl) rfl ?_
                      refine r_vcG c61_31 (by first | assumption | omega) (by decide) (by first | assumption | rfl) rfl rfl rfl (k60 hG (q_Fr.bz (S := fun k => k = o0 ∨ k = o0 + 1) hZ (by repeat (first | exact q_Fr.rf | refine q_Fr.ud ?_ (by omega) (by first | assumption | rfl) rfl | refine q_Fr.udz ?_ (by omega) (by first | assumption | decide | omega) | refine q_Fr.tr ?_ (by assumption) (by intro k9 hk9; omega)))) (by first | assumption | exact q_hC (by assumption) | exact q_h1 (by assumption) | exact q_h3 (by assumption) | exact q_h5 (by assumption) | exact q_hG (by assumption) | exact q_hP | exact q_hB1 | exact q_hB2 | exact q_hT6 | exact q_hT15 | exact q_hT24)) ?_
                      intro t72 w72 g72 p72
                      obtain ⟨rfl, e72⟩ := p72
                      refine Or.inl ⟨rfl, ?_⟩
                      refine r_iload_n c61_34 rfl rfl ?_
                      refine r_bipush c61_35 rfl ?_
                      refine r_idiv c61_37 (by decide) (show (Int32.ofInt (1) / Int32.ofInt (10)).toInt = 0 from by decide +kernel) rfl ?_
                      refine r_istore_n c61_38 (lo' := [(2, _), (0, _), (1, _)]) rfl rfl rfl ?_
                      refine r_goto c61_39 ?_
                      refine r_iload_n c61_4 rfl rfl ?_
                      refine r_iconst c61_5 rfl ?_
                      refine r_ic_lt c61_6 rfl (show q_w32 (0) = 0 from rfl) (show q_w32 (1) = 1 from rfl) ?_ ?_
                      · intro b73
                        exact r_vret c61_42 ⟨rfl, rfl, rfl⟩ ⟨rfl, (by repeat (first | exact q_Fr.rf | refine q_Fr.ud ?_ (by omega) (by first | assumption | rfl) rfl | refine q_Fr.udz ?_ (by omega) (by first | assumption | decide | omega) | refine q_Fr.tr ?_ (by assumption) (by intro k9 hk9; omega)))⟩
                      · intro b73
                        exact absurd b73.1 (by decide)
              · intro b62
                refine r_iload_n c61_14 rfl rfl ?_
                refine r_iconst c61_15 rfl ?_
                refine r_ic_ne c61_16 rfl (show q_w32 (10) = 10 from rfl) (show q_w32 (1) = 1 from rfl) ?_ ?_
                · intro b74
                  refine r_iload_n c61_34 rfl rfl ?_
                  refine r_bipush c61_35 rfl ?_
                  refine r_idiv c61_37 (by decide) (show (Int32.ofInt (10) / Int32.ofInt (10)).toInt = 1 from by decide +kernel) rfl ?_
                  refine r_istore_n c61_38 (lo' := [(2, _), (0, _), (1, _)]) rfl rfl rfl ?_
                  refine r_goto c61_39 ?_
                  refine r_iload_n c61_4 rfl rfl ?_
                  refine r_iconst c61_5 rfl ?_
                  refine r_ic_lt c61_6 rfl (show q_w32 (1) = 1 from rfl) (show q_w32 (1) = 1 from rfl) ?_ ?_
                  · intro b75
                    exact absurd b75.1 (by decide)
                  · intro b75
                    refine r_iload_n c61_9 rfl rfl ?_
                    refine r_iload_n c61_10 rfl rfl ?_
                    refine r_ic_ge c61_11 rfl (by first | exact q_w32_id (by omega) (by omega) | exact q_w32w _ | exact rfl) (show q_w32 (1) = 1 from rfl) ?_ ?_
                    · intro b76
                      refine r_aload_n c61_19 rfl rfl ?_
                      refine r_bipush c61_20 rfl ?_
                      refine r_iload_n c61_22 rfl rfl ?_
                      refine r_iload_n c61_23 rfl rfl ?_
                      refine r_callG c61_24 (fun _ => rfl) rfl rfl rfl (k201 hG (q_Fr.bz (S := fun k => k = o0 ∨ k = o0 + 1) hZ (by repeat (first | exact q_Fr.rf | refine q_Fr.ud ?_ (by omega) (by first | assumption | rfl) rfl | refine q_Fr.udz ?_ (by omega) (by first | assumption | decide | omega) | refine q_Fr.tr ?_ (by assumption) (by intro k9 hk9; omega))))) ?_
                      intro t77 w77 g77 p77
                      obtain ⟨rfl, ⟨z77, rfl⟩, rfl⟩ := p77
                      refine Or.inr (Or.inl ⟨rfl, ?_⟩)
                      refine r_bipush c61_27 rfl ?_
                      refine r_irem c61_29 (by decide) rfl rfl ?_
                      refine r_iadd c61_30 (by first | exact q_w32_id (by omega) (by omega) | exact q_w32w _ | exact rfl) rfl ?_
                      refine r_vcG c61_31 (by first | assumption | omega) (by decide) (by first | assumption | rfl) rfl rfl rfl (k60 hG (q_Fr.bz (S := fun k => k = o0 ∨ k = o0 + 1) hZ (by repeat (first | exact q_Fr.rf | refine q_Fr.ud ?_ (by omega) (by first | assumption | rfl) rfl | refine q_Fr.udz ?_ (by omega) (by first | assumption | decide | omega) | refine q_Fr.tr ?_ (by assumption) (by intro k9 hk9; omega)))) (by first | assumption | exact q_hC (by assumption) | exact q_h1 (by assumption) | exact q_h3 (by assumption) | exact q_h5 (by assumption) | exact q_hG (by assumption) | exact q_hP | exact q_hB1 | exact q_hB2 | exact q_hT6 | exact q_hT15 | exact q_hT24)) ?_
                      intro t78 w78 g78 p78
                      obtain ⟨rfl, e78⟩ := p78
                      refine Or.inl ⟨rfl, ?_⟩
                      refine r_iload_n c61_34 rfl rfl ?_
                      refine r_bipush c61_35 rfl ?_
                      refine r_idiv c61_37 (by decide) (show (Int32.ofInt (1) / Int32.ofInt (10)).toInt = 0 from by decide +kernel) rfl ?_
                      refine r_istore_n c61_38 (lo' := [(2, _), (0, _), (1, _)]) rfl rfl rfl ?_
                      refine r_goto c61_39 ?_
                      refine r_iload_n c61_4 rfl rfl ?_
                      refine r_iconst c61_5 rfl ?_
                      refine r_ic_lt c61_6 rfl (show q_w32 (0) = 0 from rfl) (show q_w32 (1) = 1 from rfl) ?_ ?_
                      · intro b79
                        exact r_vret c61_42 ⟨rfl, rfl, rfl⟩ ⟨rfl, (by repeat (first | exact q_Fr.rf | refine q_Fr.ud ?_ (by omega) (by first | assumption | rfl) rfl | refine q_Fr.udz ?_ (by omega) (by first | assumption | decide | omega) | refine q_Fr.tr ?_ (by assumption) (by intro k9 hk9; omega)))⟩
                      · intro b79
                        exact absurd b79.1 (by decide)
                    · intro b76
                      refine r_iload_n c61_14 rfl rfl ?_
                      refine r_iconst c61_15 rfl ?_
                      refine r_ic_ne c61_16 rfl (show q_w32 (1) = 1 from rfl) (show q_w32 (1) = 1 from rfl) ?_ ?_
                      · intro b80
                        exact absurd b80.1 (by decide)
                      · intro b80
                        refine r_aload_n c61_19 rfl rfl ?_
                        refine r_bipush c61_20 rfl ?_
                        refine r_iload_n c61_22 rfl rfl ?_
                        refine r_iload_n c61_23 rfl rfl ?_
                        refine r_callG c61_24 (fun _ => rfl) rfl rfl rfl (k201 hG (q_Fr.bz (S := fun k => k = o0 ∨ k = o0 + 1) hZ (by repeat (first | exact q_Fr.rf | refine q_Fr.ud ?_ (by omega) (by first | assumption | rfl) rfl | refine q_Fr.udz ?_ (by omega) (by first | assumption | decide | omega) | refine q_Fr.tr ?_ (by assumption) (by intro k9 hk9; omega))))) ?_
                        intro t81 w81 g81 p81
                        obtain ⟨rfl, ⟨z81, rfl⟩, rfl⟩ := p81
                        refine Or.inr (Or.inl ⟨rfl, ?_⟩)
                        refine r_bipush c61_27 rfl ?_
                        refine r_irem c61_29 (by decide) rfl rfl ?_
                        refine r_iadd c61_30 (by first | exact q_w32_id (by omega) (by omega) | exact q_w32w _ | exact rfl) rfl ?_
                        refine r_vcG c61_31 (by first | assumption | omega) (by decide) (by first | assumption | rfl) rfl rfl rfl (k60 hG (q_Fr.bz (S := fun k => k = o0 ∨ k = o0 + 1) hZ (by repeat (first | exact q_Fr.rf | refine q_Fr.ud ?_ (by omega) (by first | assumption | rfl) rfl | refine q_Fr.udz ?_ (by omega) (by first | assumption | decide | omega) | refine q_Fr.tr ?_ (by assumption) (by intro k9 hk9; omega)))) (by first | assumption | exact q_hC (by assumption) | exact q_h1 (by assumption) | exact q_h3 (by assumption) | exact q_h5 (by assumption) | exact q_hG (by assumption) | exact q_hP | exact q_hB1 | exact q_hB2 | exact q_hT6 | exact q_hT15 | exact q_hT24)) ?_
                        intro t82 w82 g82 p82
                        obtain ⟨rfl, e82⟩ := p82
                        refine Or.inl ⟨rfl, ?_⟩
                        refine r_iload_n c61_34 rfl rfl ?_
                        refine r_bipush c61_35 rfl ?_
                        refine r_idiv c61_37 (by decide) (show (Int32.ofInt (1) / Int32.ofInt (10)).toInt = 0 from by decide +kernel) rfl ?_
                        refine r_istore_n c61_38 (lo' := [(2, _), (0, _), (1, _)]) rfl rfl rfl ?_
                        refine r_goto c61_39 ?_
                        refine r_iload_n c61_4 rfl rfl ?_
                        refine r_iconst c61_5 rfl ?_
                        refine r_ic_lt c61_6 rfl (show q_w32 (0) = 0 from rfl) (show q_w32 (1) = 1 from rfl) ?_ ?_
                        · intro b83
                          exact r_vret c61_42 ⟨rfl, rfl, rfl⟩ ⟨rfl, (by repeat (first | exact q_Fr.rf | refine q_Fr.ud ?_ (by omega) (by first | assumption | rfl) rfl | refine q_Fr.udz ?_ (by omega) (by first | assumption | decide | omega) | refine q_Fr.tr ?_ (by assumption) (by intro k9 hk9; omega)))⟩
                        · intro b83
                          exact absurd b83.1 (by decide)
                · intro b74
                  exact absurd b74.1 (by decide)
          · intro b58
            refine r_iload_n c61_14 rfl rfl ?_
            refine r_iconst c61_15 rfl ?_
            refine r_ic_ne c61_16 rfl (show q_w32 (100) = 100 from rfl) (show q_w32 (1) = 1 from rfl) ?_ ?_
            · intro b84
              refine r_iload_n c61_34 rfl rfl ?_
              refine r_bipush c61_35 rfl ?_
              refine r_idiv c61_37 (by decide) (show (Int32.ofInt (100) / Int32.ofInt (10)).toInt = 10 from by decide +kernel) rfl ?_
              refine r_istore_n c61_38 (lo' := [(2, _), (0, _), (1, _)]) rfl rfl rfl ?_
              refine r_goto c61_39 ?_
              refine r_iload_n c61_4 rfl rfl ?_
              refine r_iconst c61_5 rfl ?_
              refine r_ic_lt c61_6 rfl (show q_w32 (10) = 10 from rfl) (show q_w32 (1) = 1 from rfl) ?_ ?_
              · intro b85
                exact absurd b85.1 (by decide)
              · intro b85
                refine r_iload_n c61_9 rfl rfl ?_
                refine r_iload_n c61_10 rfl rfl ?_
                refine r_ic_ge c61_11 rfl (by first | exact q_w32_id (by omega) (by omega) | exact q_w32w _ | exact rfl) (show q_w32 (10) = 10 from rfl) ?_ ?_
                · intro b86
                  refine r_aload_n c61_19 rfl rfl ?_
                  refine r_bipush c61_20 rfl ?_
                  refine r_iload_n c61_22 rfl rfl ?_
                  refine r_iload_n c61_23 rfl rfl ?_
                  refine r_callG c61_24 (fun _ => rfl) rfl rfl rfl (k201 hG (q_Fr.bz (S := fun k => k = o0 ∨ k = o0 + 1) hZ (by repeat (first | exact q_Fr.rf | refine q_Fr.ud ?_ (by omega) (by first | assumption | rfl) rfl | refine q_Fr.udz ?_ (by omega) (by first | assumption | decide | omega) | refine q_Fr.tr ?_ (by assumption) (by intro k9 hk9; omega))))) ?_
                  intro t87 w87 g87 p87
                  obtain ⟨rfl, ⟨z87, rfl⟩, rfl⟩ := p87
                  refine Or.inr (Or.inl ⟨rfl, ?_⟩)
                  refine r_bipush c61_27 rfl ?_
                  refine r_irem c61_29 (by decide) rfl rfl ?_
                  refine r_iadd c61_30 (by first | exact q_w32_id (by omega) (by omega) | exact q_w32w _ | exact rfl) rfl ?_
                  refine r_vcG c61_31 (by first | assumption | omega) (by decide) (by first | assumption | rfl) rfl rfl rfl (k60 hG (q_Fr.bz (S := fun k => k = o0 ∨ k = o0 + 1) hZ (by repeat (first | exact q_Fr.rf | refine q_Fr.ud ?_ (by omega) (by first | assumption | rfl) rfl | refine q_Fr.udz ?_ (by omega) (by first | assumption | decide | omega) | refine q_Fr.tr ?_ (by assumption) (by intro k9 hk9; omega)))) (by first | assumption | exact q_hC (by assumption) | exact q_h1 (by assumption) | exact q_h3 (by assumption) | exact q_h5 (by assumption) | exact q_hG (by assumption) | exact q_hP | exact q_hB1 | exact q_hB2 | exact q_hT6 | exact q_hT15 | exact q_hT24)) ?_
                  intro t88 w88 g88 p88
                  obtain ⟨rfl, e88⟩ := p88
                  refine Or.inl ⟨rfl, ?_⟩
                  refine r_iload_n c61_34 rfl rfl ?_
                  refine r_bipush c61_35 rfl ?_
                  refine r_idiv c61_37 (by decide) (show (Int32.ofInt (10) / Int32.ofInt (10)).toInt = 1 from by decide +kernel) rfl ?_
                  refine r_istore_n c61_38 (lo' := [(2, _), (0, _), (1, _)]) rfl rfl rfl ?_
                  refine r_goto c61_39 ?_
                  refine r_iload_n c61_4 rfl rfl ?_
                  refine r_iconst c61_5 rfl ?_
                  refine r_ic_lt c61_6 rfl (show q_w32 (1) = 1 from rfl) (show q_w32 (1) = 1 from rfl) ?_ ?_
                  · intro b89
                    exact absurd b89.1 (by decide)
                  · intro b89
                    refine r_iload_n c61_9 rfl rfl ?_
                    refine r_iload_n c61_10 rfl rfl ?_
                    refine r_ic_ge c61_11 rfl (by first | exact q_w32_id (by omega) (by omega) | exact q_w32w _ | exact rfl) (show q_w32 (1) = 1 from rfl) ?_ ?_
                    · intro b90
                      refine r_aload_n c61_19 rfl rfl ?_
                      refine r_bipush c61_20 rfl ?_
                      refine r_iload_n c61_22 rfl rfl ?_
                      refine r_iload_n c61_23 rfl rfl ?_
                      refine r_callG c61_24 (fun _ => rfl) rfl rfl rfl (k201 hG (q_Fr.bz (S := fun k => k = o0 ∨ k = o0 + 1) hZ (by repeat (first | exact q_Fr.rf | refine q_Fr.ud ?_ (by omega) (by first | assumption | rfl) rfl | refine q_Fr.udz ?_ (by omega) (by first | assumption | decide | omega) | refine q_Fr.tr ?_ (by assumption) (by intro k9 hk9; omega))))) ?_
                      intro t91 w91 g91 p91
                      obtain ⟨rfl, ⟨z91, rfl⟩, rfl⟩ := p91
                      refine Or.inr (Or.inl ⟨rfl, ?_⟩)
                      refine r_bipush c61_27 rfl ?_
                      refine r_irem c61_29 (by decide) rfl rfl ?_
                      refine r_iadd c61_30 (by first | exact q_w32_id (by omega) (by omega) | exact q_w32w _ | exact rfl) rfl ?_
                      refine r_vcG c61_31 (by first | assumption | omega) (by decide) (by first | assumption | rfl) rfl rfl rfl (k60 hG (q_Fr.bz (S := fun k => k = o0 ∨ k = o0 + 1) hZ (by repeat (first | exact q_Fr.rf | refine q_Fr.ud ?_ (by omega) (by first | assumption | rfl) rfl | refine q_Fr.udz ?_ (by omega) (by first | assumption | decide | omega) | refine q_Fr.tr ?_ (by assumption) (by intro k9 hk9; omega)))) (by first | assumption | exact q_hC (by assumption) | exact q_h1 (by assumption) | exact q_h3 (by assumption) | exact q_h5 (by assumption) | exact q_hG (by assumption) | exact q_hP | exact q_hB1 | exact q_hB2 | exact q_hT6 | exact q_hT15 | exact q_hT24)) ?_
                      intro t92 w92 g92 p92
                      obtain ⟨rfl, e92⟩ := p92
                      refine Or.inl ⟨rfl, ?_⟩
                      refine r_iload_n c61_34 rfl rfl ?_
                      refine r_bipush c61_35 rfl ?_
                      refine r_idiv c61_37 (by decide) (show (Int32.ofInt (1) / Int32.ofInt (10)).toInt = 0 from by decide +kernel) rfl ?_
                      refine r_istore_n c61_38 (lo' := [(2, _), (0, _), (1, _)]) rfl rfl rfl ?_
                      refine r_goto c61_39 ?_
                      refine r_iload_n c61_4 rfl rfl ?_
                      refine r_iconst c61_5 rfl ?_
                      refine r_ic_lt c61_6 rfl (show q_w32 (0) = 0 from rfl) (show q_w32 (1) = 1 from rfl) ?_ ?_
                      · intro b93
                        exact r_vret c61_42 ⟨rfl, rfl, rfl⟩ ⟨rfl, (by repeat (first | exact q_Fr.rf | refine q_Fr.ud ?_ (by omega) (by first | assumption | rfl) rfl | refine q_Fr.udz ?_ (by omega) (by first | assumption | decide | omega) | refine q_Fr.tr ?_ (by assumption) (by intro k9 hk9; omega)))⟩
                      · intro b93
                        exact absurd b93.1 (by decide)
                    · intro b90
                      refine r_iload_n c61_14 rfl rfl ?_
                      refine r_iconst c61_15 rfl ?_
                      refine r_ic_ne c61_16 rfl (show q_w32 (1) = 1 from rfl) (show q_w32 (1) = 1 from rfl) ?_ ?_
                      · intro b94
                        exact absurd b94.1 (by decide)
                      · intro b94
                        refine r_aload_n c61_19 rfl rfl ?_
                        refine r_bipush c61_20 rfl ?_
                        refine r_iload_n c61_22 rfl rfl ?_
                        refine r_iload_n c61_23 rfl rfl ?_
                        refine r_callG c61_24 (fun _ => rfl) rfl rfl rfl (k201 hG (q_Fr.bz (S := fun k => k = o0 ∨ k = o0 + 1) hZ (by repeat (first | exact q_Fr.rf | refine q_Fr.ud ?_ (by omega) (by first | assumption | rfl) rfl | refine q_Fr.udz ?_ (by omega) (by first | assumption | decide | omega) | refine q_Fr.tr ?_ (by assumption) (by intro k9 hk9; omega))))) ?_
                        intro t95 w95 g95 p95
                        obtain ⟨rfl, ⟨z95, rfl⟩, rfl⟩ := p95
                        refine Or.inr (Or.inl ⟨rfl, ?_⟩)
                        refine r_bipush c61_27 rfl ?_
                        refine r_irem c61_29 (by decide) rfl rfl ?_
                        refine r_iadd c61_30 (by first | exact q_w32_id (by omega) (by omega) | exact q_w32w _ | exact rfl) rfl ?_
                        refine r_vcG c61_31 (by first | assumption | omega) (by decide) (by first | assumption | rfl) rfl rfl rfl (k60 hG (q_Fr.bz (S := fun k => k = o0 ∨ k = o0 + 1) hZ (by repeat (first | exact q_Fr.rf | refine q_Fr.ud ?_ (by omega) (by first | assumption | rfl) rfl | refine q_Fr.udz ?_ (by omega) (by first | assumption | decide | omega) | refine q_Fr.tr ?_ (by assumption) (by intro k9 hk9; omega)))) (by first | assumption | exact q_hC (by assumption) | exact q_h1 (by assumption) | exact q_h3 (by assumption) | exact q_h5 (by assumption) | exact q_hG (by assumption) | exact q_hP | exact q_hB1 | exact q_hB2 | exact q_hT6 | exact q_hT15 | exact q_hT24)) ?_
                        intro t96 w96 g96 p96
                        obtain ⟨rfl, e96⟩ := p96
                        refine Or.inl ⟨rfl, ?_⟩
                        refine r_iload_n c61_34 rfl rfl ?_
                        refine r_bipush c61_35 rfl ?_
                        refine r_idiv c61_37 (by decide) (show (Int32.ofInt (1) / Int32.ofInt (10)).toInt = 0 from by decide +kernel) rfl ?_
                        refine r_istore_n c61_38 (lo' := [(2, _), (0, _), (1, _)]) rfl rfl rfl ?_
                        refine r_goto c61_39 ?_
                        refine r_iload_n c61_4 rfl rfl ?_
                        refine r_iconst c61_5 rfl ?_
                        refine r_ic_lt c61_6 rfl (show q_w32 (0) = 0 from rfl) (show q_w32 (1) = 1 from rfl) ?_ ?_
                        · intro b97
                          exact r_vret c61_42 ⟨rfl, rfl, rfl⟩ ⟨rfl, (by repeat (first | exact q_Fr.rf | refine q_Fr.ud ?_ (by omega) (by first | assumption | rfl) rfl | refine q_Fr.udz ?_ (by omega) (by first | assumption | decide | omega) | refine q_Fr.tr ?_ (by assumption) (by intro k9 hk9; omega)))⟩
                        · intro b97
                          exact absurd b97.1 (by decide)
                · intro b86
                  refine r_iload_n c61_14 rfl rfl ?_
                  refine r_iconst c61_15 rfl ?_
                  refine r_ic_ne c61_16 rfl (show q_w32 (10) = 10 from rfl) (show q_w32 (1) = 1 from rfl) ?_ ?_
                  · intro b98
                    refine r_iload_n c61_34 rfl rfl ?_
                    refine r_bipush c61_35 rfl ?_
                    refine r_idiv c61_37 (by decide) (show (Int32.ofInt (10) / Int32.ofInt (10)).toInt = 1 from by decide +kernel) rfl ?_
                    refine r_istore_n c61_38 (lo' := [(2, _), (0, _), (1, _)]) rfl rfl rfl ?_
                    refine r_goto c61_39 ?_
                    refine r_iload_n c61_4 rfl rfl ?_
                    refine r_iconst c61_5 rfl ?_
                    refine r_ic_lt c61_6 rfl (show q_w32 (1) = 1 from rfl) (show q_w32 (1) = 1 from rfl) ?_ ?_
                    · intro b99
                      exact absurd b99.1 (by decide)
                    · intro b99
                      refine r_iload_n c61_9 rfl rfl ?_
                      refine r_iload_n c61_10 rfl rfl ?_
                      refine r_ic_ge c61_11 rfl (by first | exact q_w32_id (by omega) (by omega) | exact q_w32w _ | exact rfl) (show q_w32 (1) = 1 from rfl) ?_ ?_
                      · intro b100
                        refine r_aload_n c61_19 rfl rfl ?_
                        refine r_bipush c61_20 rfl ?_
                        refine r_iload_n c61_22 rfl rfl ?_
                        refine r_iload_n c61_23 rfl rfl ?_
                        refine r_callG c61_24 (fun _ => rfl) rfl rfl rfl (k201 hG (q_Fr.bz (S := fun k => k = o0 ∨ k = o0 + 1) hZ (by repeat (first | exact q_Fr.rf | refine q_Fr.ud ?_ (by omega) (by first | assumption | rfl) rfl | refine q_Fr.udz ?_ (by omega) (by first | assumption | decide | omega) | refine q_Fr.tr ?_ (by assumption) (by intro k9 hk9; omega))))) ?_
                        intro t101 w101 g101 p101
                        obtain ⟨rfl, ⟨z101, rfl⟩, rfl⟩ := p101
                        refine Or.inr (Or.inl ⟨rfl, ?_⟩)
                        refine r_bipush c61_27 rfl ?_
                        refine r_irem c61_29 (by decide) rfl rfl ?_
                        refine r_iadd c61_30 (by first | exact q_w32_id (by omega) (by omega) | exact q_w32w _ | exact rfl) rfl ?_
                        refine r_vcG c61_31 (by first | assumption | omega) (by decide) (by first | assumption | rfl) rfl rfl rfl (k60 hG (q_Fr.bz (S := fun k => k = o0 ∨ k = o0 + 1) hZ (by repeat (first | exact q_Fr.rf | refine q_Fr.ud ?_ (by omega) (by first | assumption | rfl) rfl | refine q_Fr.udz ?_ (by omega) (by first | assumption | decide | omega) | refine q_Fr.tr ?_ (by assumption) (by intro k9 hk9; omega)))) (by first | assumption | exact q_hC (by assumption) | exact q_h1 (by assumption) | exact q_h3 (by assumption) | exact q_h5 (by assumption) | exact q_hG (by assumption) | exact q_hP | exact q_hB1 | exact q_hB2 | exact q_hT6 | exact q_hT15 | exact q_hT24)) ?_
                        intro t102 w102 g102 p102
                        obtain ⟨rfl, e102⟩ := p102
                        refine Or.inl ⟨rfl, ?_⟩
                        refine r_iload_n c61_34 rfl rfl ?_
                        refine r_bipush c61_35 rfl ?_
                        refine r_idiv c61_37 (by decide) (show (Int32.ofInt (1) / Int32.ofInt (10)).toInt = 0 from by decide +kernel) rfl ?_
                        refine r_istore_n c61_38 (lo' := [(2, _), (0, _), (1, _)]) rfl rfl rfl ?_
                        refine r_goto c61_39 ?_
                        refine r_iload_n c61_4 rfl rfl ?_
                        refine r_iconst c61_5 rfl ?_
                        refine r_ic_lt c61_6 rfl (show q_w32 (0) = 0 from rfl) (show q_w32 (1) = 1 from rfl) ?_ ?_
                        · intro b103
                          exact r_vret c61_42 ⟨rfl, rfl, rfl⟩ ⟨rfl, (by repeat (first | exact q_Fr.rf | refine q_Fr.ud ?_ (by omega) (by first | assumption | rfl) rfl | refine q_Fr.udz ?_ (by omega) (by first | assumption | decide | omega) | refine q_Fr.tr ?_ (by assumption) (by intro k9 hk9; omega)))⟩
                        · intro b103
                          exact absurd b103.1 (by decide)
                      · intro b100
                        refine r_iload_n c61_14 rfl rfl ?_
                        refine r_iconst c61_15 rfl ?_
                        refine r_ic_ne c61_16 rfl (show q_w32 (1) = 1 from rfl) (show q_w32 (1) = 1 from rfl) ?_ ?_
                        · intro b104
                          exact absurd b104.1 (by decide)
                        · intro b104
                          refine r_aload_n c61_19 rfl rfl ?_
                          refine r_bipush c61_20 rfl ?_
                          refine r_iload_n c61_22 rfl rfl ?_
                          refine r_iload_n c61_23 rfl rfl ?_
                          refine r_callG c61_24 (fun _ => rfl) rfl rfl rfl (k201 hG (q_Fr.bz (S := fun k => k = o0 ∨ k = o0 + 1) hZ (by repeat (first | exact q_Fr.rf | refine q_Fr.ud ?_ (by omega) (by first | assumption | rfl) rfl | refine q_Fr.udz ?_ (by omega) (by first | assumption | decide | omega) | refine q_Fr.tr ?_ (by assumption) (by intro k9 hk9; omega))))) ?_
                          intro t105 w105 g105 p105
                          obtain ⟨rfl, ⟨z105, rfl⟩, rfl⟩ := p105
                          refine Or.inr (Or.inl ⟨rfl, ?_⟩)
                          refine r_bipush c61_27 rfl ?_
                          refine r_irem c61_29 (by decide) rfl rfl ?_
                          refine r_iadd c61_30 (by first | exact q_w32_id (by omega) (by omega) | exact q_w32w _ | exact rfl) rfl ?_
                          refine r_vcG c61_31 (by first | assumption | omega) (by decide) (by first | assumption | rfl) rfl rfl rfl (k60 hG (q_Fr.bz (S := fun k => k = o0 ∨ k = o0 + 1) hZ (by repeat (first | exact q_Fr.rf | refine q_Fr.ud ?_ (by omega) (by first | assumption | rfl) rfl | refine q_Fr.udz ?_ (by omega) (by first | assumption | decide | omega) | refine q_Fr.tr ?_ (by assumption) (by intro k9 hk9; omega)))) (by first | assumption | exact q_hC (by assumption) | exact q_h1 (by assumption) | exact q_h3 (by assumption) | exact q_h5 (by assumption) | exact q_hG (by assumption) | exact q_hP | exact q_hB1 | exact q_hB2 | exact q_hT6 | exact q_hT15 | exact q_hT24)) ?_
                          intro t106 w106 g106 p106
                          obtain ⟨rfl, e106⟩ := p106
                          refine Or.inl ⟨rfl, ?_⟩
                          refine r_iload_n c61_34 rfl rfl ?_
                          refine r_bipush c61_35 rfl ?_
                          refine r_idiv c61_37 (by decide) (show (Int32.ofInt (1) / Int32.ofInt (10)).toInt = 0 from by decide +kernel) rfl ?_
                          refine r_istore_n c61_38 (lo' := [(2, _), (0, _), (1, _)]) rfl rfl rfl ?_
                          refine r_goto c61_39 ?_
                          refine r_iload_n c61_4 rfl rfl ?_
                          refine r_iconst c61_5 rfl ?_
                          refine r_ic_lt c61_6 rfl (show q_w32 (0) = 0 from rfl) (show q_w32 (1) = 1 from rfl) ?_ ?_
                          · intro b107
                            exact r_vret c61_42 ⟨rfl, rfl, rfl⟩ ⟨rfl, (by repeat (first | exact q_Fr.rf | refine q_Fr.ud ?_ (by omega) (by first | assumption | rfl) rfl | refine q_Fr.udz ?_ (by omega) (by first | assumption | decide | omega) | refine q_Fr.tr ?_ (by assumption) (by intro k9 hk9; omega)))⟩
                          · intro b107
                            exact absurd b107.1 (by decide)
                  · intro b98
                    exact absurd b98.1 (by decide)
            · intro b84
              exact absurd b84.1 (by decide)
      · intro b56
        exact absurd b56.1 (by decide)
theorem c63_0 : q_cat 63 0 (.iload_n 1) 1 1 0 (0) := ⟨rfl, rfl⟩
theorem c63_1 : q_cat 63 1 (.ifCond .lt 33) 3 34 0 (0) := ⟨rfl, rfl⟩
theorem c63_4 : q_cat 63 4 (.iload_n 1) 1 1 0 (0) := ⟨rfl, rfl⟩
theorem c63_5 : q_cat 63 5 (.aload_n 0) 1 0 0 (0) := ⟨rfl, rfl⟩
theorem c63_6 : q_cat 63 6 (.getfield 15) 3 2 1 (0) := ⟨rfl, rfl⟩
theorem c63_9 : q_cat 63 9 (.if_icmp .ge 25) 3 34 0 (0) := ⟨rfl, rfl⟩
theorem c63_12 : q_cat 63 12 (.iload_n 1) 1 1 0 (0) := ⟨rfl, rfl⟩
theorem c63_13 : q_cat 63 13 (.aload_n 0) 1 0 0 (0) := ⟨rfl, rfl⟩
theorem c63_14 : q_cat 63 14 (.getfield 9) 3 2 0 (3) := ⟨rfl, rfl⟩
theorem c63_17 : q_cat 63 17 (.arraylength) 1 0 0 (0) := ⟨rfl, rfl⟩
theorem c63_18 : q_cat 63 18 (.if_icmp .ge 16) 3 34 0 (0) := ⟨rfl, rfl⟩
theorem c63_21 : q_cat 63 21 (.aload_n 0) 1 0 0 (0) := ⟨rfl, rfl⟩
theorem c63_22 : q_cat 63 22 (.getfield 9) 3 2 0 (3) := ⟨rfl, rfl⟩
theorem c63_25 : q_cat 63 25 (.iload_n 1) 1 1 0 (0) := ⟨rfl, rfl⟩
theorem c63_26 : q_cat 63 26 (.baload) 1 0 0 (0) := ⟨rfl, rfl⟩
theorem c63_27 : q_cat 63 27 (.sipush 255) 3 0 0 (0) := ⟨rfl, rfl⟩
theorem c63_30 : q_cat 63 30 (.iand) 1 0 0 (0) := ⟨rfl, rfl⟩
theorem c63_31 : q_cat 63 31 (.goto 4) 3 35 0 (0) := ⟨rfl, rfl⟩
theorem c63_34 : q_cat 63 34 (.iconst (-1)) 1 0 0 (0) := ⟨rfl, rfl⟩
theorem c63_35 : q_cat 63 35 (.ireturn) 1 0 0 (0) := ⟨rfl, rfl⟩
theorem k63 {Γ : q_Γ} (hG : q_GG Γ) {h : q_F} (hZ : q_Bz h) {o0 : Nat} {v1 : Int} (ho0 : q_isB o0) :
    q_M Γ q_K 155 63 [(2, Int.ofNat o0), (0, v1)] h (fun t w h' => (t = 1 ∧ (∃ z, w = ((0, z) : q_V)) ∧ h' = h)) := by
  obtain ⟨fo00, fo01, fo02, fo03⟩ := q_fB ho0
  refine q_M.of (by decide) (Nat.le_of_ble_eq_true rfl) hG ?_
  refine r_iload_n c63_0 rfl rfl ?_
  refine r_if_lt c63_1 rfl (by first | exact q_w32_id (by omega) (by omega) | exact q_w32w _ | exact rfl) ?_ ?_
  · intro b1
    refine r_iconst c63_34 rfl ?_
    exact r_iret c63_35 ⟨rfl, rfl, rfl⟩ ⟨rfl, ⟨_, rfl⟩, rfl⟩
  · intro b1
    refine r_iload_n c63_4 rfl rfl ?_
    refine r_aload_n c63_5 rfl rfl ?_
    refine r_geti c63_6 (by first | assumption | omega) (by decide) (by first | assumption | rfl) rfl rfl ?_
    refine r_ic_ge c63_9 rfl (by first | exact q_w32_id (by omega) (by omega) | exact q_w32w _ | exact rfl) (by first | exact q_w32_id (by omega) (by omega) | exact q_w32w _ | exact rfl) ?_ ?_
    · intro b2
      refine r_iconst c63_34 rfl ?_
      exact r_iret c63_35 ⟨rfl, rfl, rfl⟩ ⟨rfl, ⟨_, rfl⟩, rfl⟩
    · intro b2
      refine r_iload_n c63_12 rfl rfl ?_
      refine r_aload_n c63_13 rfl rfl ?_
      refine r_getr c63_14 (by first | assumption | omega) (by decide) (by first | assumption | rfl) rfl rfl ?_
      refine r_alen c63_17 (by first | assumption | omega) (by decide) (by first | assumption | rfl) (by decide) rfl ?_
      refine r_ic_ge c63_18 rfl (by first | exact q_w32_id (by omega) (by omega) | exact q_w32w _ | exact rfl) (by first | exact q_w32_id (by omega) (by omega) | exact q_w32w _ | exact rfl) ?_ ?_
      · intro b3
        refine r_iconst c63_34 rfl ?_
        exact r_iret c63_35 ⟨rfl, rfl, rfl⟩ ⟨rfl, ⟨_, rfl⟩, rfl⟩
      · intro b3
        refine r_aload_n c63_21 rfl rfl ?_
        refine r_getr c63_22 (by first | assumption | omega) (by decide) (by first | assumption | rfl) rfl rfl ?_
        refine r_iload_n c63_25 rfl rfl ?_
        refine r_bald c63_26 (by first | assumption | omega) (by decide) (by first | assumption | rfl) (by first | assumption | decide) (by first | exact q_w32_id (by omega) (by omega) | exact q_w32w _ | exact rfl) (by first | assumption | omega) (by first | assumption | omega) rfl ?_
        refine r_sipush c63_27 rfl ?_
        refine r_iand c63_30 rfl rfl ?_
        refine r_goto c63_31 ?_
        exact r_iret c63_35 ⟨rfl, rfl, rfl⟩ ⟨rfl, ⟨_, rfl⟩, rfl⟩
