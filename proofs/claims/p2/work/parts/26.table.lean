/-! Part 26.table: the class over any heap, gone on with. Printed by wip/tools/genk.py. -/
theorem c143_0 : q_cat 143 0 (.aload_n 0) 1 0 0 (0) := ⟨rfl, rfl⟩
theorem c143_1 : q_cat 143 1 (.iconst 0) 1 0 0 (0) := ⟨rfl, rfl⟩
theorem c143_2 : q_cat 143 2 (.putfield 15) 3 7 1 (0) := ⟨rfl, rfl⟩
theorem c143_5 : q_cat 143 5 (.return_) 1 0 0 (0) := ⟨rfl, rfl⟩
theorem k143 {Γ : q_Γ} (hG : q_GG Γ) {h : q_F} (hZ : q_Bz h) {o0 : Nat} (ho0 : q_isG o0) :
    q_M Γ q_K 155 143 [(2, Int.ofNat o0)] h (fun t w h' => (t = 0 ∧ q_Fr (fun k => k = o0 ∨ k = o0 + 1) h h')) := by
  obtain ⟨fo00, fo01, fo02, fo03⟩ := q_fG ho0
  refine q_M.of (by decide) (Nat.le_of_ble_eq_true rfl) hG ?_
  refine r_aload_n c143_0 rfl rfl ?_
  refine r_iconst c143_1 rfl ?_
  refine r_puti c143_2 (by first | assumption | omega) (by decide) (by first | assumption | rfl) rfl rfl rfl ?_
  exact r_vret c143_5 ⟨rfl, rfl, rfl⟩ ⟨rfl, (by repeat (first | exact q_Fr.rf | refine q_Fr.ud ?_ (by omega) (by first | assumption | rfl) rfl | refine q_Fr.udz ?_ (by omega) (by first | assumption | decide | omega) | refine q_Fr.tr ?_ (by assumption) (by intro k9 hk9; omega)))⟩
theorem c148_0 : q_cat 148 0 (.aload_n 0) 1 0 0 (0) := ⟨rfl, rfl⟩
theorem c148_1 : q_cat 148 1 (.getfield 9) 3 7 0 (3) := ⟨rfl, rfl⟩
theorem c148_4 : q_cat 148 4 (.iload_n 1) 1 1 0 (0) := ⟨rfl, rfl⟩
theorem c148_5 : q_cat 148 5 (.iconst 3) 1 0 0 (0) := ⟨rfl, rfl⟩
theorem c148_6 : q_cat 148 6 (.imul) 1 0 0 (0) := ⟨rfl, rfl⟩
theorem c148_7 : q_cat 148 7 (.iload_n 2) 1 2 0 (0) := ⟨rfl, rfl⟩
theorem c148_8 : q_cat 148 8 (.iadd) 1 0 0 (0) := ⟨rfl, rfl⟩
theorem c148_9 : q_cat 148 9 (.invokestatic 19) 3 175 3 (0) := ⟨rfl, rfl⟩
theorem c148_12 : q_cat 148 12 (.ireturn) 1 0 0 (0) := ⟨rfl, rfl⟩
theorem k148 {Γ : q_Γ} (hG : q_GG Γ) {h : q_F} (hZ : q_Bz h) {o0 : Nat} {v1 : Int} {v2 : Int} (ho0 : q_isG o0) :
    q_M Γ q_K 155 148 [(2, Int.ofNat o0), (0, v1), (0, v2)] h (fun t w h' => (t = 1 ∧ (∃ z, w = ((0, z) : q_V)) ∧ h' = h)) := by
  obtain ⟨fo00, fo01, fo02, fo03⟩ := q_fG ho0
  refine q_M.of (by decide) (Nat.le_of_ble_eq_true rfl) hG ?_
  refine r_aload_n c148_0 rfl rfl ?_
  refine r_getr c148_1 (by first | assumption | omega) (by decide) (by first | assumption | rfl) rfl rfl ?_
  refine r_iload_n c148_4 rfl rfl ?_
  refine r_iconst c148_5 rfl ?_
  refine r_imul c148_6 (by first | exact q_w32_id (by omega) (by omega) | exact q_w32w _ | exact rfl) rfl ?_
  refine r_iload_n c148_7 rfl rfl ?_
  refine r_iadd c148_8 (by first | exact q_w32_id (by omega) (by omega) | exact q_w32w _ | exact rfl) rfl ?_
  refine r_callG c148_9 (fun _ => rfl) rfl rfl rfl (k175 hG hZ (by first | assumption | omega) (by first | assumption | rfl) (by first | assumption | decide)) ?_
  intro t1 w1 g1 p1
  obtain ⟨rfl, ⟨z1, rfl⟩, rfl⟩ := p1
  refine Or.inr (Or.inl ⟨rfl, ?_⟩)
  exact r_iret c148_12 ⟨rfl, rfl, rfl⟩ ⟨rfl, ⟨_, rfl⟩, rfl⟩
theorem c154_0 : q_cat 154 0 (.aload_n 0) 1 0 0 (0) := ⟨rfl, rfl⟩
theorem c154_1 : q_cat 154 1 (.getfield 9) 3 7 0 (3) := ⟨rfl, rfl⟩
theorem c154_4 : q_cat 154 4 (.iload_n 1) 1 1 0 (0) := ⟨rfl, rfl⟩
theorem c154_5 : q_cat 154 5 (.iconst 3) 1 0 0 (0) := ⟨rfl, rfl⟩
theorem c154_6 : q_cat 154 6 (.imul) 1 0 0 (0) := ⟨rfl, rfl⟩
theorem c154_7 : q_cat 154 7 (.iload_n 2) 1 2 0 (0) := ⟨rfl, rfl⟩
theorem c154_8 : q_cat 154 8 (.iadd) 1 0 0 (0) := ⟨rfl, rfl⟩
theorem c154_9 : q_cat 154 9 (.iload_n 3) 1 3 0 (0) := ⟨rfl, rfl⟩
theorem c154_10 : q_cat 154 10 (.invokestatic 23) 3 174 3 (0) := ⟨rfl, rfl⟩
theorem c154_13 : q_cat 154 13 (.return_) 1 0 0 (0) := ⟨rfl, rfl⟩
theorem k154 {Γ : q_Γ} (hG : q_GG Γ) {h : q_F} (hZ : q_Bz h) {o0 : Nat} {v1 : Int} {v2 : Int} {v3 : Int} (ho0 : q_isG o0) :
    q_M Γ q_K 155 154 [(2, Int.ofNat o0), (0, v1), (0, v2), (0, v3)] h (fun t w h' => (t = 0 ∧ q_Fr (fun k => k = o0 ∨ k = o0 + 1) h h')) := by
  obtain ⟨fo00, fo01, fo02, fo03⟩ := q_fG ho0
  refine q_M.of (by decide) (Nat.le_of_ble_eq_true rfl) hG ?_
  refine r_aload_n c154_0 rfl rfl ?_
  refine r_getr c154_1 (by first | assumption | omega) (by decide) (by first | assumption | rfl) rfl rfl ?_
  refine r_iload_n c154_4 rfl rfl ?_
  refine r_iconst c154_5 rfl ?_
  refine r_imul c154_6 (by first | exact q_w32_id (by omega) (by omega) | exact q_w32w _ | exact rfl) rfl ?_
  refine r_iload_n c154_7 rfl rfl ?_
  refine r_iadd c154_8 (by first | exact q_w32_id (by omega) (by omega) | exact q_w32w _ | exact rfl) rfl ?_
  refine r_iload_n c154_9 rfl rfl ?_
  refine r_callG c154_10 (fun _ => rfl) rfl rfl rfl (k174 hG (q_Fr.bz (S := fun k => k = o0 ∨ k = o0 + 1) hZ (by repeat (first | exact q_Fr.rf | refine q_Fr.ud ?_ (by omega) (by first | assumption | rfl) rfl | refine q_Fr.udz ?_ (by omega) (by first | assumption | decide | omega) | refine q_Fr.tr ?_ (by assumption) (by intro k9 hk9; omega)))) (by first | assumption | omega) (by first | assumption | rfl) (by first | assumption | decide)) ?_
  intro t1 w1 g1 p1
  obtain ⟨rfl, e1⟩ := p1
  refine Or.inl ⟨rfl, ?_⟩
  exact r_vret c154_13 ⟨rfl, rfl, rfl⟩ ⟨rfl, (by repeat (first | exact q_Fr.rf | refine q_Fr.ud ?_ (by omega) (by first | assumption | rfl) rfl | refine q_Fr.udz ?_ (by omega) (by first | assumption | decide | omega) | refine q_Fr.tr ?_ (by assumption) (by intro k9 hk9; omega)))⟩
theorem c145_0 : q_cat 145 0 (.iconst 0) 1 0 0 (0) := ⟨rfl, rfl⟩
theorem c145_1 : q_cat 145 1 (.istore_n 3) 1 3 0 (0) := ⟨rfl, rfl⟩
theorem c145_2 : q_cat 145 2 (.iload_n 3) 1 3 0 (0) := ⟨rfl, rfl⟩
theorem c145_3 : q_cat 145 3 (.iconst 3) 1 0 0 (0) := ⟨rfl, rfl⟩
theorem c145_4 : q_cat 145 4 (.if_icmp .ge 21) 3 25 0 (0) := ⟨rfl, rfl⟩
theorem c145_7 : q_cat 145 7 (.aload_n 0) 1 0 0 (0) := ⟨rfl, rfl⟩
theorem c145_8 : q_cat 145 8 (.iload_n 2) 1 2 0 (0) := ⟨rfl, rfl⟩
theorem c145_9 : q_cat 145 9 (.iload_n 3) 1 3 0 (0) := ⟨rfl, rfl⟩
theorem c145_10 : q_cat 145 10 (.aload_n 0) 1 0 0 (0) := ⟨rfl, rfl⟩
theorem c145_11 : q_cat 145 11 (.iload_n 1) 1 1 0 (0) := ⟨rfl, rfl⟩
theorem c145_12 : q_cat 145 12 (.iload_n 3) 1 3 0 (0) := ⟨rfl, rfl⟩
theorem c145_13 : q_cat 145 13 (.invokevirtual 41) 3 148 0 (0) := ⟨rfl, rfl⟩
theorem c145_16 : q_cat 145 16 (.invokevirtual 31) 3 154 0 (0) := ⟨rfl, rfl⟩
theorem c145_19 : q_cat 145 19 (.iinc 3 1) 3 3 0 (0) := ⟨rfl, rfl⟩
theorem c145_22 : q_cat 145 22 (.goto (-20)) 3 2 0 (0) := ⟨rfl, rfl⟩
theorem c145_25 : q_cat 145 25 (.return_) 1 0 0 (0) := ⟨rfl, rfl⟩
theorem l145_2 {Γ : q_Γ} (hG : q_GG Γ) {h0 : q_F} (hZ : q_Bz h0) {o0 : Nat} {v1 : Int} {v2 : Int} {u1 : Int} {u2 : Int} (ho0 : q_isG o0)
    (hx25 : ∀ {u3 : Int} {h : q_F}, q_Fr (fun k => k = o0 ∨ k = o0 + 1) h0 h → q_R Γ q_K 155 145 (fun t w h' => (t = 0 ∧ q_Fr (fun k => k = o0 ∨ k = o0 + 1) h0 h')) (25, [(3, (0, u3)), (0, (2, Int.ofNat o0)), (1, (0, u1)), (2, (0, u2))], [], q_hp q_K 155 h, [], 0, 0))
    : ∀ (m : Nat) {u3 : Int} {h : q_F}, (-2147483648 ≤ u3 ∧ u3 < 2147483648) → q_Fr (fun k => k = o0 ∨ k = o0 + 1) h0 h → 2147483648 - u3 < (m : Int) → q_R Γ q_K 155 145 (fun t w h' => (t = 0 ∧ q_Fr (fun k => k = o0 ∨ k = o0 + 1) h0 h')) (2, [(3, (0, u3)), (0, (2, Int.ofNat o0)), (1, (0, u1)), (2, (0, u2))], [], q_hp q_K 155 h, [], 0, 0)   := by
  obtain ⟨fo00, fo01, fo02, fo03⟩ := q_fG ho0
  intro m
  induction m with
  | zero =>
    intro u3 h hinv hf hmu
    exact absurd hmu (by omega)
  | succ m ih =>
    intro u3 h hinv hf hmu
    refine r_iload_n c145_2 rfl rfl ?_
    refine r_iconst c145_3 rfl ?_
    refine r_ic_ge c145_4 rfl (by first | exact q_w32_id (by omega) (by omega) | exact q_w32w _ | exact rfl) (show q_w32 (3) = 3 from rfl) ?_ ?_
    · intro b1
      refine q_R.wk (ks := [3, 0, 1, 2]) (lo' := [(3, _), (0, _), (1, _), (2, _)]) rfl ?_
      exact hx25 (by repeat (first | exact q_Fr.rf | refine q_Fr.ud ?_ (by omega) (by first | assumption | rfl) rfl | refine q_Fr.udz ?_ (by omega) (by first | assumption | decide | omega) | refine q_Fr.tr ?_ (by assumption) (by intro k9 hk9; omega)))
    · intro b1
      refine r_aload_n c145_7 rfl rfl ?_
      refine r_iload_n c145_8 rfl rfl ?_
      refine r_iload_n c145_9 rfl rfl ?_
      refine r_aload_n c145_10 rfl rfl ?_
      refine r_iload_n c145_11 rfl rfl ?_
      refine r_iload_n c145_12 rfl rfl ?_
      refine r_vcG c145_13 (by first | assumption | omega) (by decide) (by first | assumption | rfl) rfl rfl rfl (k148 hG (q_Fr.bz (S := fun k => k = o0 ∨ k = o0 + 1) hZ (by repeat (first | exact q_Fr.rf | refine q_Fr.ud ?_ (by omega) (by first | assumption | rfl) rfl | refine q_Fr.udz ?_ (by omega) (by first | assumption | decide | omega) | refine q_Fr.tr ?_ (by assumption) (by intro k9 hk9; omega)))) (by first | assumption | exact q_hC (by assumption) | exact q_h1 (by assumption) | exact q_h3 (by assumption) | exact q_h5 (by assumption) | exact q_hG (by assumption) | exact q_hP | exact q_hB1 | exact q_hB2 | exact q_hT6 | exact q_hT15 | exact q_hT24)) ?_
      intro t2 w2 g2 p2
      obtain ⟨rfl, ⟨z2, rfl⟩, rfl⟩ := p2
      refine Or.inr (Or.inl ⟨rfl, ?_⟩)
      refine r_vcG c145_16 (by first | assumption | omega) (by decide) (by first | assumption | rfl) rfl rfl rfl (k154 hG (q_Fr.bz (S := fun k => k = o0 ∨ k = o0 + 1) hZ (by repeat (first | exact q_Fr.rf | refine q_Fr.ud ?_ (by omega) (by first | assumption | rfl) rfl | refine q_Fr.udz ?_ (by omega) (by first | assumption | decide | omega) | refine q_Fr.tr ?_ (by assumption) (by intro k9 hk9; omega)))) (by first | assumption | exact q_hC (by assumption) | exact q_h1 (by assumption) | exact q_h3 (by assumption) | exact q_h5 (by assumption) | exact q_hG (by assumption) | exact q_hP | exact q_hB1 | exact q_hB2 | exact q_hT6 | exact q_hT15 | exact q_hT24)) ?_
      intro t3 w3 g3 p3
      obtain ⟨rfl, e3⟩ := p3
      refine Or.inl ⟨rfl, ?_⟩
      refine r_iinc c145_19 rfl (by first | exact q_w32_id (by omega) (by omega) | exact q_w32w _ | exact rfl) (lo' := [(3, _), (0, _), (1, _), (2, _)]) rfl rfl rfl ?_
      refine r_goto c145_22 ?_
      refine q_R.wk (ks := [3, 0, 1, 2]) (lo' := [(3, _), (0, _), (1, _), (2, _)]) rfl ?_
      exact ih (by first | omega | exact ⟨q_rg1 _, q_rg2 _⟩) (by repeat (first | exact q_Fr.rf | refine q_Fr.ud ?_ (by omega) (by first | assumption | rfl) rfl | refine q_Fr.udz ?_ (by omega) (by first | assumption | decide | omega) | refine q_Fr.tr ?_ (by assumption) (by intro k9 hk9; omega))) (by omega)

theorem k145 {Γ : q_Γ} (hG : q_GG Γ) {h : q_F} (hZ : q_Bz h) {o0 : Nat} {v1 : Int} {v2 : Int} (ho0 : q_isG o0) :
    q_M Γ q_K 155 145 [(2, Int.ofNat o0), (0, v1), (0, v2)] h (fun t w h' => (t = 0 ∧ q_Fr (fun k => k = o0 ∨ k = o0 + 1) h h')) := by
  obtain ⟨fo00, fo01, fo02, fo03⟩ := q_fG ho0
  refine q_M.of (by decide) (Nat.le_of_ble_eq_true rfl) hG ?_
  refine r_iconst c145_0 rfl ?_
  refine r_istore_n c145_1 (lo' := [(3, _), (0, _), (1, _), (2, _)]) rfl rfl rfl ?_
  refine q_R.wk (ks := [3, 0, 1, 2]) (lo' := [(3, _), (0, _), (1, _), (2, _)]) rfl ?_
  refine l145_2 (o0 := o0) (v1 := v1) (v2 := v2) hG hZ ho0 ?_ 4294967298 (by first | omega | exact ⟨q_rg1 _, q_rg2 _⟩) (by repeat (first | exact q_Fr.rf | refine q_Fr.ud ?_ (by omega) (by first | assumption | rfl) rfl | refine q_Fr.udz ?_ (by omega) (by first | assumption | decide | omega) | refine q_Fr.tr ?_ (by assumption) (by intro k9 hk9; omega))) (q_mu (by first | omega | exact ⟨q_rg1 _, q_rg2 _⟩))
  · intro u3_1 g1 f1
    exact r_vret c145_25 ⟨rfl, rfl, rfl⟩ ⟨rfl, (by repeat (first | exact q_Fr.rf | refine q_Fr.ud ?_ (by omega) (by first | assumption | rfl) rfl | refine q_Fr.udz ?_ (by omega) (by first | assumption | decide | omega) | refine q_Fr.tr ?_ (by assumption) (by intro k9 hk9; omega)))⟩
theorem c144_0 : q_cat 144 0 (.aload_n 0) 1 0 0 (0) := ⟨rfl, rfl⟩
theorem c144_1 : q_cat 144 1 (.aload_n 1) 1 1 0 (0) := ⟨rfl, rfl⟩
theorem c144_2 : q_cat 144 2 (.getfield 15) 3 7 1 (0) := ⟨rfl, rfl⟩
theorem c144_5 : q_cat 144 5 (.putfield 15) 3 7 1 (0) := ⟨rfl, rfl⟩
theorem c144_8 : q_cat 144 8 (.iconst 0) 1 0 0 (0) := ⟨rfl, rfl⟩
theorem c144_9 : q_cat 144 9 (.istore_n 2) 1 2 0 (0) := ⟨rfl, rfl⟩
theorem c144_10 : q_cat 144 10 (.iload_n 2) 1 2 0 (0) := ⟨rfl, rfl⟩
theorem c144_11 : q_cat 144 11 (.aload_n 0) 1 0 0 (0) := ⟨rfl, rfl⟩
theorem c144_12 : q_cat 144 12 (.getfield 15) 3 7 1 (0) := ⟨rfl, rfl⟩
theorem c144_15 : q_cat 144 15 (.iconst 3) 1 0 0 (0) := ⟨rfl, rfl⟩
theorem c144_16 : q_cat 144 16 (.imul) 1 0 0 (0) := ⟨rfl, rfl⟩
theorem c144_17 : q_cat 144 17 (.if_icmp .ge 25) 3 42 0 (0) := ⟨rfl, rfl⟩
theorem c144_20 : q_cat 144 20 (.aload_n 0) 1 0 0 (0) := ⟨rfl, rfl⟩
theorem c144_21 : q_cat 144 21 (.getfield 9) 3 7 0 (3) := ⟨rfl, rfl⟩
theorem c144_24 : q_cat 144 24 (.iload_n 2) 1 2 0 (0) := ⟨rfl, rfl⟩
theorem c144_25 : q_cat 144 25 (.aload_n 1) 1 1 0 (0) := ⟨rfl, rfl⟩
theorem c144_26 : q_cat 144 26 (.getfield 9) 3 7 0 (3) := ⟨rfl, rfl⟩
theorem c144_29 : q_cat 144 29 (.iload_n 2) 1 2 0 (0) := ⟨rfl, rfl⟩
theorem c144_30 : q_cat 144 30 (.invokestatic 19) 3 175 3 (0) := ⟨rfl, rfl⟩
theorem c144_33 : q_cat 144 33 (.invokestatic 23) 3 174 3 (0) := ⟨rfl, rfl⟩
theorem c144_36 : q_cat 144 36 (.iinc 2 1) 3 2 0 (0) := ⟨rfl, rfl⟩
theorem c144_39 : q_cat 144 39 (.goto (-29)) 3 10 0 (0) := ⟨rfl, rfl⟩
theorem c144_42 : q_cat 144 42 (.return_) 1 0 0 (0) := ⟨rfl, rfl⟩
theorem l144_10 {Γ : q_Γ} (hG : q_GG Γ) {h0 : q_F} (hZ : q_Bz h0) {o0 : Nat} {o1 : Nat} (ho0 : q_isG o0) (ho1 : q_isG o1)
    (hx42 : ∀ {u2 : Int} {h : q_F}, q_Fr (fun k => k = o0 ∨ k = o0 + 1) h0 h → q_R Γ q_K 155 144 (fun t w h' => (t = 0 ∧ q_Fr (fun k => k = o0 ∨ k = o0 + 1) h0 h')) (42, [(2, (0, u2)), (0, (2, Int.ofNat o0)), (1, (2, Int.ofNat o1))], [], q_hp q_K 155 h, [], 0, 0))
    : ∀ (m : Nat) {u2 : Int} {h : q_F}, (-2147483648 ≤ u2 ∧ u2 < 2147483648) → q_Fr (fun k => k = o0 ∨ k = o0 + 1) h0 h → 2147483648 - u2 < (m : Int) → q_R Γ q_K 155 144 (fun t w h' => (t = 0 ∧ q_Fr (fun k => k = o0 ∨ k = o0 + 1) h0 h')) (10, [(2, (0, u2)), (0, (2, Int.ofNat o0)), (1, (2, Int.ofNat o1))], [], q_hp q_K 155 h, [], 0, 0)   := by
  obtain ⟨fo00, fo01, fo02, fo03⟩ := q_fG ho0
  obtain ⟨fo10, fo11, fo12, fo13⟩ := q_fG ho1
  intro m
  induction m with
  | zero =>
    intro u2 h hinv hf hmu
    exact absurd hmu (by omega)
  | succ m ih =>
    intro u2 h hinv hf hmu
    refine r_iload_n c144_10 rfl rfl ?_
    refine r_aload_n c144_11 rfl rfl ?_
    refine r_geti c144_12 (by first | assumption | omega) (by decide) (by first | assumption | rfl) rfl rfl ?_
    refine r_iconst c144_15 rfl ?_
    refine r_imul c144_16 (by first | exact q_w32_id (by omega) (by omega) | exact q_w32w _ | exact rfl) rfl ?_
    refine r_ic_ge c144_17 rfl (by first | exact q_w32_id (by omega) (by omega) | exact q_w32w _ | exact rfl) (by first | exact q_w32_id (by omega) (by omega) | exact q_w32w _ | exact rfl) ?_ ?_
    · intro b1
      refine q_R.wk (ks := [2, 0, 1]) (lo' := [(2, _), (0, _), (1, _)]) rfl ?_
      exact hx42 (by repeat (first | exact q_Fr.rf | refine q_Fr.ud ?_ (by omega) (by first | assumption | rfl) rfl | refine q_Fr.udz ?_ (by omega) (by first | assumption | decide | omega) | refine q_Fr.tr ?_ (by assumption) (by intro k9 hk9; omega)))
    · intro b1
      refine r_aload_n c144_20 rfl rfl ?_
      refine r_getr c144_21 (by first | assumption | omega) (by decide) (by first | assumption | rfl) rfl rfl ?_
      refine r_iload_n c144_24 rfl rfl ?_
      refine r_aload_n c144_25 rfl rfl ?_
      refine r_getr c144_26 (by first | assumption | omega) (by decide) (by first | assumption | rfl) rfl rfl ?_
      refine r_iload_n c144_29 rfl rfl ?_
      refine r_callG c144_30 (fun _ => rfl) rfl rfl rfl (k175 hG (q_Fr.bz (S := fun k => k = o0 ∨ k = o0 + 1) hZ (by repeat (first | exact q_Fr.rf | refine q_Fr.ud ?_ (by omega) (by first | assumption | rfl) rfl | refine q_Fr.udz ?_ (by omega) (by first | assumption | decide | omega) | refine q_Fr.tr ?_ (by assumption) (by intro k9 hk9; omega)))) (by first | assumption | omega) (by first | assumption | rfl) (by first | assumption | decide)) ?_
      intro t2 w2 g2 p2
      obtain ⟨rfl, ⟨z2, rfl⟩, rfl⟩ := p2
      refine Or.inr (Or.inl ⟨rfl, ?_⟩)
      refine r_callG c144_33 (fun _ => rfl) rfl rfl rfl (k174 hG (q_Fr.bz (S := fun k => k = o0 ∨ k = o0 + 1) hZ (by repeat (first | exact q_Fr.rf | refine q_Fr.ud ?_ (by omega) (by first | assumption | rfl) rfl | refine q_Fr.udz ?_ (by omega) (by first | assumption | decide | omega) | refine q_Fr.tr ?_ (by assumption) (by intro k9 hk9; omega)))) (by first | assumption | omega) (by first | assumption | rfl) (by first | assumption | decide)) ?_
      intro t3 w3 g3 p3
      obtain ⟨rfl, e3⟩ := p3
      refine Or.inl ⟨rfl, ?_⟩
      refine r_iinc c144_36 rfl (by first | exact q_w32_id (by omega) (by omega) | exact q_w32w _ | exact rfl) (lo' := [(2, _), (0, _), (1, _)]) rfl rfl rfl ?_
      refine r_goto c144_39 ?_
      refine q_R.wk (ks := [2, 0, 1]) (lo' := [(2, _), (0, _), (1, _)]) rfl ?_
      exact ih (by first | omega | exact ⟨q_rg1 _, q_rg2 _⟩) (by repeat (first | exact q_Fr.rf | refine q_Fr.ud ?_ (by omega) (by first | assumption | rfl) rfl | refine q_Fr.udz ?_ (by omega) (by first | assumption | decide | omega) | refine q_Fr.tr ?_ (by assumption) (by intro k9 hk9; omega))) (by omega)

theorem k144 {Γ : q_Γ} (hG : q_GG Γ) {h : q_F} (hZ : q_Bz h) {o0 : Nat} {o1 : Nat} (ho0 : q_isG o0) (ho1 : q_isG o1) :
    q_M Γ q_K 155 144 [(2, Int.ofNat o0), (2, Int.ofNat o1)] h (fun t w h' => (t = 0 ∧ q_Fr (fun k => k = o0 ∨ k = o0 + 1) h h')) := by
  obtain ⟨fo00, fo01, fo02, fo03⟩ := q_fG ho0
  obtain ⟨fo10, fo11, fo12, fo13⟩ := q_fG ho1
  refine q_M.of (by decide) (Nat.le_of_ble_eq_true rfl) hG ?_
  refine r_aload_n c144_0 rfl rfl ?_
  refine r_aload_n c144_1 rfl rfl ?_
  refine r_geti c144_2 (by first | assumption | omega) (by decide) (by first | assumption | rfl) rfl rfl ?_
  refine r_puti c144_5 (by first | assumption | omega) (by decide) (by first | assumption | rfl) rfl rfl rfl ?_
  refine r_iconst c144_8 rfl ?_
  refine r_istore_n c144_9 (lo' := [(2, _), (0, _), (1, _)]) rfl rfl rfl ?_
  refine q_R.wk (ks := [2, 0, 1]) (lo' := [(2, _), (0, _), (1, _)]) rfl ?_
  refine l144_10 (o0 := o0) (o1 := o1) hG hZ ho0 ho1 ?_ 4294967298 (by first | omega | exact ⟨q_rg1 _, q_rg2 _⟩) (by repeat (first | exact q_Fr.rf | refine q_Fr.ud ?_ (by omega) (by first | assumption | rfl) rfl | refine q_Fr.udz ?_ (by omega) (by first | assumption | decide | omega) | refine q_Fr.tr ?_ (by assumption) (by intro k9 hk9; omega))) (q_mu (by first | omega | exact ⟨q_rg1 _, q_rg2 _⟩))
  · intro u2_1 g1 f1
    exact r_vret c144_42 ⟨rfl, rfl, rfl⟩ ⟨rfl, (by repeat (first | exact q_Fr.rf | refine q_Fr.ud ?_ (by omega) (by first | assumption | rfl) rfl | refine q_Fr.udz ?_ (by omega) (by first | assumption | decide | omega) | refine q_Fr.tr ?_ (by assumption) (by intro k9 hk9; omega)))⟩
theorem c150_0 : q_cat 150 0 (.aload_n 0) 1 0 0 (0) := ⟨rfl, rfl⟩
theorem c150_1 : q_cat 150 1 (.getfield 15) 3 7 1 (0) := ⟨rfl, rfl⟩
theorem c150_4 : q_cat 150 4 (.bipush 16) 2 0 0 (0) := ⟨rfl, rfl⟩
theorem c150_6 : q_cat 150 6 (.if_icmp .lt 4) 3 10 0 (0) := ⟨rfl, rfl⟩
theorem c150_9 : q_cat 150 9 (.return_) 1 0 0 (0) := ⟨rfl, rfl⟩
theorem c150_10 : q_cat 150 10 (.aload_n 0) 1 0 0 (0) := ⟨rfl, rfl⟩
theorem c150_11 : q_cat 150 11 (.getfield 15) 3 7 1 (0) := ⟨rfl, rfl⟩
theorem c150_14 : q_cat 150 14 (.istore 5) 2 5 0 (0) := ⟨rfl, rfl⟩
theorem c150_16 : q_cat 150 16 (.iload 5) 2 5 0 (0) := ⟨rfl, rfl⟩
theorem c150_18 : q_cat 150 18 (.iload_n 1) 1 1 0 (0) := ⟨rfl, rfl⟩
theorem c150_19 : q_cat 150 19 (.if_icmp .le 19) 3 38 0 (0) := ⟨rfl, rfl⟩
theorem c150_22 : q_cat 150 22 (.aload_n 0) 1 0 0 (0) := ⟨rfl, rfl⟩
theorem c150_23 : q_cat 150 23 (.iload 5) 2 5 0 (0) := ⟨rfl, rfl⟩
theorem c150_25 : q_cat 150 25 (.iconst 1) 1 0 0 (0) := ⟨rfl, rfl⟩
theorem c150_26 : q_cat 150 26 (.isub) 1 0 0 (0) := ⟨rfl, rfl⟩
theorem c150_27 : q_cat 150 27 (.iload 5) 2 5 0 (0) := ⟨rfl, rfl⟩
theorem c150_29 : q_cat 150 29 (.invokevirtual 27) 3 145 0 (0) := ⟨rfl, rfl⟩
theorem c150_32 : q_cat 150 32 (.iinc 5 (-1)) 3 5 0 (0) := ⟨rfl, rfl⟩
theorem c150_35 : q_cat 150 35 (.goto (-19)) 3 16 0 (0) := ⟨rfl, rfl⟩
theorem c150_38 : q_cat 150 38 (.aload_n 0) 1 0 0 (0) := ⟨rfl, rfl⟩
theorem c150_39 : q_cat 150 39 (.iload_n 1) 1 1 0 (0) := ⟨rfl, rfl⟩
theorem c150_40 : q_cat 150 40 (.iconst 0) 1 0 0 (0) := ⟨rfl, rfl⟩
theorem c150_41 : q_cat 150 41 (.iload_n 2) 1 2 0 (0) := ⟨rfl, rfl⟩
theorem c150_42 : q_cat 150 42 (.invokevirtual 31) 3 154 0 (0) := ⟨rfl, rfl⟩
theorem c150_45 : q_cat 150 45 (.aload_n 0) 1 0 0 (0) := ⟨rfl, rfl⟩
theorem c150_46 : q_cat 150 46 (.iload_n 1) 1 1 0 (0) := ⟨rfl, rfl⟩
theorem c150_47 : q_cat 150 47 (.iconst 1) 1 0 0 (0) := ⟨rfl, rfl⟩
theorem c150_48 : q_cat 150 48 (.iload_n 3) 1 3 0 (0) := ⟨rfl, rfl⟩
theorem c150_49 : q_cat 150 49 (.invokevirtual 31) 3 154 0 (0) := ⟨rfl, rfl⟩
theorem c150_52 : q_cat 150 52 (.aload_n 0) 1 0 0 (0) := ⟨rfl, rfl⟩
theorem c150_53 : q_cat 150 53 (.iload_n 1) 1 1 0 (0) := ⟨rfl, rfl⟩
theorem c150_54 : q_cat 150 54 (.iconst 2) 1 0 0 (0) := ⟨rfl, rfl⟩
theorem c150_55 : q_cat 150 55 (.iload 4) 2 4 0 (0) := ⟨rfl, rfl⟩
theorem c150_57 : q_cat 150 57 (.invokevirtual 31) 3 154 0 (0) := ⟨rfl, rfl⟩
theorem c150_60 : q_cat 150 60 (.aload_n 0) 1 0 0 (0) := ⟨rfl, rfl⟩
theorem c150_61 : q_cat 150 61 (.dup) 1 0 0 (0) := ⟨rfl, rfl⟩
theorem c150_62 : q_cat 150 62 (.getfield 15) 3 7 1 (0) := ⟨rfl, rfl⟩
theorem c150_65 : q_cat 150 65 (.iconst 1) 1 0 0 (0) := ⟨rfl, rfl⟩
theorem c150_66 : q_cat 150 66 (.iadd) 1 0 0 (0) := ⟨rfl, rfl⟩
theorem c150_67 : q_cat 150 67 (.putfield 15) 3 7 1 (0) := ⟨rfl, rfl⟩
theorem c150_70 : q_cat 150 70 (.return_) 1 0 0 (0) := ⟨rfl, rfl⟩
theorem l150_16 {Γ : q_Γ} (hG : q_GG Γ) {h0 : q_F} (hZ : q_Bz h0) {o0 : Nat} {v1 : Int} {v2 : Int} {v3 : Int} {v4 : Int} {u1 : Int} {u2 : Int} {u3 : Int} {u4 : Int} (ho0 : q_isG o0)
    (hx38 : ∀ {u5 : Int} {h : q_F}, q_Fr (fun k => k = o0 ∨ k = o0 + 1) h0 h → q_R Γ q_K 155 150 (fun t w h' => (t = 0 ∧ q_Fr (fun k => k = o0 ∨ k = o0 + 1) h0 h')) (38, [(5, (0, u5)), (0, (2, Int.ofNat o0)), (1, (0, u1)), (2, (0, u2)), (3, (0, u3)), (4, (0, u4))], [], q_hp q_K 155 h, [], 0, 0))
    : ∀ (m : Nat) {u5 : Int} {h : q_F}, (-2147483648 ≤ q_w32 u5 ∧ q_w32 u5 < 2147483648) → q_Fr (fun k => k = o0 ∨ k = o0 + 1) h0 h → q_w32 u5 + 2147483648 < (m : Int) → q_R Γ q_K 155 150 (fun t w h' => (t = 0 ∧ q_Fr (fun k => k = o0 ∨ k = o0 + 1) h0 h')) (16, [(5, (0, u5)), (0, (2, Int.ofNat o0)), (1, (0, u1)), (2, (0, u2)), (3, (0, u3)), (4, (0, u4))], [], q_hp q_K 155 h, [], 0, 0)   := by
  obtain ⟨fo00, fo01, fo02, fo03⟩ := q_fG ho0
  intro m
  induction m with
  | zero =>
    intro u5 h hinv hf hmu
    exact absurd hmu (by omega)
  | succ m ih =>
    intro u5 h hinv hf hmu
    refine r_iload c150_16 rfl rfl ?_
    refine r_iload_n c150_18 rfl rfl ?_
    refine r_ic_le c150_19 rfl (by first | exact q_w32_id (by omega) (by omega) | exact q_w32w _ | exact rfl) (by first | exact q_w32_id (by omega) (by omega) | exact q_w32w _ | exact rfl) ?_ ?_
    · intro b2
      refine q_R.wk (ks := [5, 0, 1, 2, 3, 4]) (lo' := [(5, _), (0, _), (1, _), (2, _), (3, _), (4, _)]) rfl ?_
      exact hx38 (by repeat (first | exact q_Fr.rf | refine q_Fr.ud ?_ (by omega) (by first | assumption | rfl) rfl | refine q_Fr.udz ?_ (by omega) (by first | assumption | decide | omega) | refine q_Fr.tr ?_ (by assumption) (by intro k9 hk9; omega)))
    · intro b2
      refine r_aload_n c150_22 rfl rfl ?_
      refine r_iload c150_23 rfl rfl ?_
      refine r_iconst c150_25 rfl ?_
      refine r_isub c150_26 (by first | exact q_w32_id (by omega) (by omega) | exact q_w32w _ | exact rfl) rfl ?_
      refine r_iload c150_27 rfl rfl ?_
      refine r_vcG c150_29 (by first | assumption | omega) (by decide) (by first | assumption | rfl) rfl rfl rfl (k145 hG (q_Fr.bz (S := fun k => k = o0 ∨ k = o0 + 1) hZ (by repeat (first | exact q_Fr.rf | refine q_Fr.ud ?_ (by omega) (by first | assumption | rfl) rfl | refine q_Fr.udz ?_ (by omega) (by first | assumption | decide | omega) | refine q_Fr.tr ?_ (by assumption) (by intro k9 hk9; omega)))) (by first | assumption | exact q_hC (by assumption) | exact q_h1 (by assumption) | exact q_h3 (by assumption) | exact q_h5 (by assumption) | exact q_hG (by assumption) | exact q_hP | exact q_hB1 | exact q_hB2 | exact q_hT6 | exact q_hT15 | exact q_hT24)) ?_
      intro t3 w3 g3 p3
      obtain ⟨rfl, e3⟩ := p3
      refine Or.inl ⟨rfl, ?_⟩
      refine r_iinc c150_32 rfl (by first | exact q_w32_id (by omega) (by omega) | exact q_w32w _ | exact rfl) (lo' := [(5, _), (0, _), (1, _), (2, _), (3, _), (4, _)]) rfl rfl rfl ?_
      refine r_goto c150_35 ?_
      refine q_R.wk (ks := [5, 0, 1, 2, 3, 4]) (lo' := [(5, _), (0, _), (1, _), (2, _), (3, _), (4, _)]) rfl ?_
      exact ih (by first | omega | exact ⟨q_rg1 _, q_rg2 _⟩) (by repeat (first | exact q_Fr.rf | refine q_Fr.ud ?_ (by omega) (by first | assumption | rfl) rfl | refine q_Fr.udz ?_ (by omega) (by first | assumption | decide | omega) | refine q_Fr.tr ?_ (by assumption) (by intro k9 hk9; omega))) (by rw [q_w32w, q_w32_pd (by omega)]; omega)

theorem k150 {Γ : q_Γ} (hG : q_GG Γ) {h : q_F} (hZ : q_Bz h) {o0 : Nat} {v1 : Int} {v2 : Int} {v3 : Int} {v4 : Int} (ho0 : q_isG o0) :
    q_M Γ q_K 155 150 [(2, Int.ofNat o0), (0, v1), (0, v2), (0, v3), (0, v4)] h (fun t w h' => (t = 0 ∧ q_Fr (fun k => k = o0 ∨ k = o0 + 1) h h')) := by
  obtain ⟨fo00, fo01, fo02, fo03⟩ := q_fG ho0
  refine q_M.of (by decide) (Nat.le_of_ble_eq_true rfl) hG ?_
  refine r_aload_n c150_0 rfl rfl ?_
  refine r_geti c150_1 (by first | assumption | omega) (by decide) (by first | assumption | rfl) rfl rfl ?_
  refine r_bipush c150_4 rfl ?_
  refine r_ic_lt c150_6 rfl (by first | exact q_w32_id (by omega) (by omega) | exact q_w32w _ | exact rfl) (show q_w32 (16) = 16 from rfl) ?_ ?_
  · intro b1
    refine r_aload_n c150_10 rfl rfl ?_
    refine r_geti c150_11 (by first | assumption | omega) (by decide) (by first | assumption | rfl) rfl rfl ?_
    refine r_istore c150_14 (lo' := [(5, _), (0, _), (1, _), (2, _), (3, _), (4, _)]) rfl rfl rfl ?_
    refine q_R.wk (ks := [5, 0, 1, 2, 3, 4]) (lo' := [(5, _), (0, _), (1, _), (2, _), (3, _), (4, _)]) rfl ?_
    refine l150_16 (o0 := o0) (v1 := v1) (v2 := v2) (v3 := v3) (v4 := v4) hG hZ ho0 ?_ 4294967298 (by first | omega | exact ⟨q_rg1 _, q_rg2 _⟩) (by repeat (first | exact q_Fr.rf | refine q_Fr.ud ?_ (by omega) (by first | assumption | rfl) rfl | refine q_Fr.udz ?_ (by omega) (by first | assumption | decide | omega) | refine q_Fr.tr ?_ (by assumption) (by intro k9 hk9; omega))) (q_mdd (by first | omega | exact ⟨q_rg1 _, q_rg2 _⟩))
    · intro u5_2 g2 f2
      refine r_aload_n c150_38 rfl rfl ?_
      refine r_iload_n c150_39 rfl rfl ?_
      refine r_iconst c150_40 rfl ?_
      refine r_iload_n c150_41 rfl rfl ?_
      refine r_vcG c150_42 (by first | assumption | omega) (by decide) (by first | assumption | rfl) rfl rfl rfl (k154 hG (q_Fr.bz (S := fun k => k = o0 ∨ k = o0 + 1) hZ (by repeat (first | exact q_Fr.rf | refine q_Fr.ud ?_ (by omega) (by first | assumption | rfl) rfl | refine q_Fr.udz ?_ (by omega) (by first | assumption | decide | omega) | refine q_Fr.tr ?_ (by assumption) (by intro k9 hk9; omega)))) (by first | assumption | exact q_hC (by assumption) | exact q_h1 (by assumption) | exact q_h3 (by assumption) | exact q_h5 (by assumption) | exact q_hG (by assumption) | exact q_hP | exact q_hB1 | exact q_hB2 | exact q_hT6 | exact q_hT15 | exact q_hT24)) ?_
      intro t3 w3 g3 p3
      obtain ⟨rfl, e3⟩ := p3
      refine Or.inl ⟨rfl, ?_⟩
      refine r_aload_n c150_45 rfl rfl ?_
      refine r_iload_n c150_46 rfl rfl ?_
      refine r_iconst c150_47 rfl ?_
      refine r_iload_n c150_48 rfl rfl ?_
      refine r_vcG c150_49 (by first | assumption | omega) (by decide) (by first | assumption | rfl) rfl rfl rfl (k154 hG (q_Fr.bz (S := fun k => k = o0 ∨ k = o0 + 1) hZ (by repeat (first | exact q_Fr.rf | refine q_Fr.ud ?_ (by omega) (by first | assumption | rfl) rfl | refine q_Fr.udz ?_ (by omega) (by first | assumption | decide | omega) | refine q_Fr.tr ?_ (by assumption) (by intro k9 hk9; omega)))) (by first | assumption | exact q_hC (by assumption) | exact q_h1 (by assumption) | exact q_h3 (by assumption) | exact q_h5 (by assumption) | exact q_hG (by assumption) | exact q_hP | exact q_hB1 | exact q_hB2 | exact q_hT6 | exact q_hT15 | exact q_hT24)) ?_
      intro t4 w4 g4 p4
      obtain ⟨rfl, e4⟩ := p4
      refine Or.inl ⟨rfl, ?_⟩
      refine r_aload_n c150_52 rfl rfl ?_
      refine r_iload_n c150_53 rfl rfl ?_
      refine r_iconst c150_54 rfl ?_
      refine r_iload c150_55 rfl rfl ?_
      refine r_vcG c150_57 (by first | assumption | omega) (by decide) (by first | assumption | rfl) rfl rfl rfl (k154 hG (q_Fr.bz (S := fun k => k = o0 ∨ k = o0 + 1) hZ (by repeat (first | exact q_Fr.rf | refine q_Fr.ud ?_ (by omega) (by first | assumption | rfl) rfl | refine q_Fr.udz ?_ (by omega) (by first | assumption | decide | omega) | refine q_Fr.tr ?_ (by assumption) (by intro k9 hk9; omega)))) (by first | assumption | exact q_hC (by assumption) | exact q_h1 (by assumption) | exact q_h3 (by assumption) | exact q_h5 (by assumption) | exact q_hG (by assumption) | exact q_hP | exact q_hB1 | exact q_hB2 | exact q_hT6 | exact q_hT15 | exact q_hT24)) ?_
      intro t5 w5 g5 p5
      obtain ⟨rfl, e5⟩ := p5
      refine Or.inl ⟨rfl, ?_⟩
      refine r_aload_n c150_60 rfl rfl ?_
      refine r_dup c150_61 rfl rfl ?_
      refine r_geti c150_62 (by first | assumption | omega) (by decide) (by first | assumption | rfl) rfl rfl ?_
      refine r_iconst c150_65 rfl ?_
      refine r_iadd c150_66 (by first | exact q_w32_id (by omega) (by omega) | exact q_w32w _ | exact rfl) rfl ?_
      refine r_puti c150_67 (by first | assumption | omega) (by decide) (by first | assumption | rfl) rfl rfl rfl ?_
      exact r_vret c150_70 ⟨rfl, rfl, rfl⟩ ⟨rfl, (by repeat (first | exact q_Fr.rf | refine q_Fr.ud ?_ (by omega) (by first | assumption | rfl) rfl | refine q_Fr.udz ?_ (by omega) (by first | assumption | decide | omega) | refine q_Fr.tr ?_ (by assumption) (by intro k9 hk9; omega)))⟩
  · intro b1
    exact r_vret c150_9 ⟨rfl, rfl, rfl⟩ ⟨rfl, (by repeat (first | exact q_Fr.rf | refine q_Fr.ud ?_ (by omega) (by first | assumption | rfl) rfl | refine q_Fr.udz ?_ (by omega) (by first | assumption | decide | omega) | refine q_Fr.tr ?_ (by assumption) (by intro k9 hk9; omega)))⟩
theorem c152_0 : q_cat 152 0 (.iload_n 1) 1 1 0 (0) := ⟨rfl, rfl⟩
theorem c152_1 : q_cat 152 1 (.iconst 1) 1 0 0 (0) := ⟨rfl, rfl⟩
theorem c152_2 : q_cat 152 2 (.iadd) 1 0 0 (0) := ⟨rfl, rfl⟩
theorem c152_3 : q_cat 152 3 (.istore_n 2) 1 2 0 (0) := ⟨rfl, rfl⟩
theorem c152_4 : q_cat 152 4 (.iload_n 2) 1 2 0 (0) := ⟨rfl, rfl⟩
theorem c152_5 : q_cat 152 5 (.aload_n 0) 1 0 0 (0) := ⟨rfl, rfl⟩
theorem c152_6 : q_cat 152 6 (.getfield 15) 3 7 1 (0) := ⟨rfl, rfl⟩
theorem c152_9 : q_cat 152 9 (.if_icmp .ge 17) 3 26 0 (0) := ⟨rfl, rfl⟩
theorem c152_12 : q_cat 152 12 (.aload_n 0) 1 0 0 (0) := ⟨rfl, rfl⟩
theorem c152_13 : q_cat 152 13 (.iload_n 2) 1 2 0 (0) := ⟨rfl, rfl⟩
theorem c152_14 : q_cat 152 14 (.iload_n 2) 1 2 0 (0) := ⟨rfl, rfl⟩
theorem c152_15 : q_cat 152 15 (.iconst 1) 1 0 0 (0) := ⟨rfl, rfl⟩
theorem c152_16 : q_cat 152 16 (.isub) 1 0 0 (0) := ⟨rfl, rfl⟩
theorem c152_17 : q_cat 152 17 (.invokevirtual 27) 3 145 0 (0) := ⟨rfl, rfl⟩
theorem c152_20 : q_cat 152 20 (.iinc 2 1) 3 2 0 (0) := ⟨rfl, rfl⟩
theorem c152_23 : q_cat 152 23 (.goto (-19)) 3 4 0 (0) := ⟨rfl, rfl⟩
theorem c152_26 : q_cat 152 26 (.aload_n 0) 1 0 0 (0) := ⟨rfl, rfl⟩
theorem c152_27 : q_cat 152 27 (.aload_n 0) 1 0 0 (0) := ⟨rfl, rfl⟩
theorem c152_28 : q_cat 152 28 (.getfield 15) 3 7 1 (0) := ⟨rfl, rfl⟩
theorem c152_31 : q_cat 152 31 (.iconst 1) 1 0 0 (0) := ⟨rfl, rfl⟩
theorem c152_32 : q_cat 152 32 (.isub) 1 0 0 (0) := ⟨rfl, rfl⟩
theorem c152_33 : q_cat 152 33 (.iconst 0) 1 0 0 (0) := ⟨rfl, rfl⟩
theorem c152_34 : q_cat 152 34 (.invokestatic 35) 3 0 6 (0) := ⟨rfl, rfl⟩
theorem c152_37 : q_cat 152 37 (.putfield 15) 3 7 1 (0) := ⟨rfl, rfl⟩
theorem c152_40 : q_cat 152 40 (.return_) 1 0 0 (0) := ⟨rfl, rfl⟩
theorem l152_4 {Γ : q_Γ} (hG : q_GG Γ) {h0 : q_F} (hZ : q_Bz h0) {o0 : Nat} {v1 : Int} {u1 : Int} (ho0 : q_isG o0)
    (hx26 : ∀ {u2 : Int} {h : q_F}, q_Fr (fun k => k = o0 ∨ k = o0 + 1) h0 h → q_R Γ q_K 155 152 (fun t w h' => (t = 0 ∧ q_Fr (fun k => k = o0 ∨ k = o0 + 1) h0 h')) (26, [(2, (0, u2)), (0, (2, Int.ofNat o0)), (1, (0, u1))], [], q_hp q_K 155 h, [], 0, 0))
    : ∀ (m : Nat) {u2 : Int} {h : q_F}, (-2147483648 ≤ u2 ∧ u2 < 2147483648) → q_Fr (fun k => k = o0 ∨ k = o0 + 1) h0 h → 2147483648 - u2 < (m : Int) → q_R Γ q_K 155 152 (fun t w h' => (t = 0 ∧ q_Fr (fun k => k = o0 ∨ k = o0 + 1) h0 h')) (4, [(2, (0, u2)), (0, (2, Int.ofNat o0)), (1, (0, u1))], [], q_hp q_K 155 h, [], 0, 0)   := by
  obtain ⟨fo00, fo01, fo02, fo03⟩ := q_fG ho0
  intro m
  induction m with
  | zero =>
    intro u2 h hinv hf hmu
    exact absurd hmu (by omega)
  | succ m ih =>
    intro u2 h hinv hf hmu
    refine r_iload_n c152_4 rfl rfl ?_
    refine r_aload_n c152_5 rfl rfl ?_
    refine r_geti c152_6 (by first | assumption | omega) (by decide) (by first | assumption | rfl) rfl rfl ?_
    refine r_ic_ge c152_9 rfl (by first | exact q_w32_id (by omega) (by omega) | exact q_w32w _ | exact rfl) (by first | exact q_w32_id (by omega) (by omega) | exact q_w32w _ | exact rfl) ?_ ?_
    · intro b1
      refine q_R.wk (ks := [2, 0, 1]) (lo' := [(2, _), (0, _), (1, _)]) rfl ?_
      exact hx26 (by repeat (first | exact q_Fr.rf | refine q_Fr.ud ?_ (by omega) (by first | assumption | rfl) rfl | refine q_Fr.udz ?_ (by omega) (by first | assumption | decide | omega) | refine q_Fr.tr ?_ (by assumption) (by intro k9 hk9; omega)))
    · intro b1
      refine r_aload_n c152_12 rfl rfl ?_
      refine r_iload_n c152_13 rfl rfl ?_
      refine r_iload_n c152_14 rfl rfl ?_
      refine r_iconst c152_15 rfl ?_
      refine r_isub c152_16 (by first | exact q_w32_id (by omega) (by omega) | exact q_w32w _ | exact rfl) rfl ?_
      refine r_vcG c152_17 (by first | assumption | omega) (by decide) (by first | assumption | rfl) rfl rfl rfl (k145 hG (q_Fr.bz (S := fun k => k = o0 ∨ k = o0 + 1) hZ (by repeat (first | exact q_Fr.rf | refine q_Fr.ud ?_ (by omega) (by first | assumption | rfl) rfl | refine q_Fr.udz ?_ (by omega) (by first | assumption | decide | omega) | refine q_Fr.tr ?_ (by assumption) (by intro k9 hk9; omega)))) (by first | assumption | exact q_hC (by assumption) | exact q_h1 (by assumption) | exact q_h3 (by assumption) | exact q_h5 (by assumption) | exact q_hG (by assumption) | exact q_hP | exact q_hB1 | exact q_hB2 | exact q_hT6 | exact q_hT15 | exact q_hT24)) ?_
      intro t2 w2 g2 p2
      obtain ⟨rfl, e2⟩ := p2
      refine Or.inl ⟨rfl, ?_⟩
      refine r_iinc c152_20 rfl (by first | exact q_w32_id (by omega) (by omega) | exact q_w32w _ | exact rfl) (lo' := [(2, _), (0, _), (1, _)]) rfl rfl rfl ?_
      refine r_goto c152_23 ?_
      refine q_R.wk (ks := [2, 0, 1]) (lo' := [(2, _), (0, _), (1, _)]) rfl ?_
      exact ih (by first | omega | exact ⟨q_rg1 _, q_rg2 _⟩) (by repeat (first | exact q_Fr.rf | refine q_Fr.ud ?_ (by omega) (by first | assumption | rfl) rfl | refine q_Fr.udz ?_ (by omega) (by first | assumption | decide | omega) | refine q_Fr.tr ?_ (by assumption) (by intro k9 hk9; omega))) (by omega)

theorem k152 {Γ : q_Γ} (hG : q_GG Γ) {h : q_F} (hZ : q_Bz h) {o0 : Nat} {v1 : Int} (ho0 : q_isG o0) :
    q_M Γ q_K 155 152 [(2, Int.ofNat o0), (0, v1)] h (fun t w h' => (t = 0 ∧ q_Fr (fun k => k = o0 ∨ k = o0 + 1) h h')) := by
  obtain ⟨fo00, fo01, fo02, fo03⟩ := q_fG ho0
  refine q_M.of (by decide) (Nat.le_of_ble_eq_true rfl) hG ?_
  refine r_iload_n c152_0 rfl rfl ?_
  refine r_iconst c152_1 rfl ?_
  refine r_iadd c152_2 (by first | exact q_w32_id (by omega) (by omega) | exact q_w32w _ | exact rfl) rfl ?_
  refine r_istore_n c152_3 (lo' := [(2, _), (0, _), (1, _)]) rfl rfl rfl ?_
  refine q_R.wk (ks := [2, 0, 1]) (lo' := [(2, _), (0, _), (1, _)]) rfl ?_
  refine l152_4 (o0 := o0) (v1 := v1) hG hZ ho0 ?_ 4294967298 (by first | omega | exact ⟨q_rg1 _, q_rg2 _⟩) (by repeat (first | exact q_Fr.rf | refine q_Fr.ud ?_ (by omega) (by first | assumption | rfl) rfl | refine q_Fr.udz ?_ (by omega) (by first | assumption | decide | omega) | refine q_Fr.tr ?_ (by assumption) (by intro k9 hk9; omega))) (q_mu (by first | omega | exact ⟨q_rg1 _, q_rg2 _⟩))
  · intro u2_1 g1 f1
    refine r_aload_n c152_26 rfl rfl ?_
    refine r_aload_n c152_27 rfl rfl ?_
    refine r_geti c152_28 (by first | assumption | omega) (by decide) (by first | assumption | rfl) rfl rfl ?_
    refine r_iconst c152_31 rfl ?_
    refine r_isub c152_32 (by first | exact q_w32_id (by omega) (by omega) | exact q_w32w _ | exact rfl) rfl ?_
    refine r_iconst c152_33 rfl ?_
    refine r_max c152_34 rfl rfl ?_
    refine r_puti c152_37 (by first | assumption | omega) (by decide) (by first | assumption | rfl) rfl rfl rfl ?_
    exact r_vret c152_40 ⟨rfl, rfl, rfl⟩ ⟨rfl, (by repeat (first | exact q_Fr.rf | refine q_Fr.ud ?_ (by omega) (by first | assumption | rfl) rfl | refine q_Fr.udz ?_ (by omega) (by first | assumption | decide | omega) | refine q_Fr.tr ?_ (by assumption) (by intro k9 hk9; omega)))⟩
theorem c153_0 : q_cat 153 0 (.iload_n 1) 1 1 0 (0) := ⟨rfl, rfl⟩
theorem c153_1 : q_cat 153 1 (.istore_n 2) 1 2 0 (0) := ⟨rfl, rfl⟩
theorem c153_2 : q_cat 153 2 (.iload_n 2) 1 2 0 (0) := ⟨rfl, rfl⟩
theorem c153_3 : q_cat 153 3 (.aload_n 0) 1 0 0 (0) := ⟨rfl, rfl⟩
theorem c153_4 : q_cat 153 4 (.getfield 15) 3 7 1 (0) := ⟨rfl, rfl⟩
theorem c153_7 : q_cat 153 7 (.if_icmp .ge 17) 3 24 0 (0) := ⟨rfl, rfl⟩
theorem c153_10 : q_cat 153 10 (.aload_n 0) 1 0 0 (0) := ⟨rfl, rfl⟩
theorem c153_11 : q_cat 153 11 (.iload_n 2) 1 2 0 (0) := ⟨rfl, rfl⟩
theorem c153_12 : q_cat 153 12 (.iload_n 2) 1 2 0 (0) := ⟨rfl, rfl⟩
theorem c153_13 : q_cat 153 13 (.iload_n 1) 1 1 0 (0) := ⟨rfl, rfl⟩
theorem c153_14 : q_cat 153 14 (.isub) 1 0 0 (0) := ⟨rfl, rfl⟩
theorem c153_15 : q_cat 153 15 (.invokevirtual 27) 3 145 0 (0) := ⟨rfl, rfl⟩
theorem c153_18 : q_cat 153 18 (.iinc 2 1) 3 2 0 (0) := ⟨rfl, rfl⟩
theorem c153_21 : q_cat 153 21 (.goto (-19)) 3 2 0 (0) := ⟨rfl, rfl⟩
theorem c153_24 : q_cat 153 24 (.aload_n 0) 1 0 0 (0) := ⟨rfl, rfl⟩
theorem c153_25 : q_cat 153 25 (.aload_n 0) 1 0 0 (0) := ⟨rfl, rfl⟩
theorem c153_26 : q_cat 153 26 (.getfield 15) 3 7 1 (0) := ⟨rfl, rfl⟩
theorem c153_29 : q_cat 153 29 (.iload_n 1) 1 1 0 (0) := ⟨rfl, rfl⟩
theorem c153_30 : q_cat 153 30 (.isub) 1 0 0 (0) := ⟨rfl, rfl⟩
theorem c153_31 : q_cat 153 31 (.iconst 0) 1 0 0 (0) := ⟨rfl, rfl⟩
theorem c153_32 : q_cat 153 32 (.invokestatic 35) 3 0 6 (0) := ⟨rfl, rfl⟩
theorem c153_35 : q_cat 153 35 (.putfield 15) 3 7 1 (0) := ⟨rfl, rfl⟩
theorem c153_38 : q_cat 153 38 (.return_) 1 0 0 (0) := ⟨rfl, rfl⟩
theorem l153_2 {Γ : q_Γ} (hG : q_GG Γ) {h0 : q_F} (hZ : q_Bz h0) {o0 : Nat} {v1 : Int} {u1 : Int} (ho0 : q_isG o0)
    (hx24 : ∀ {u2 : Int} {h : q_F}, q_Fr (fun k => k = o0 ∨ k = o0 + 1) h0 h → q_R Γ q_K 155 153 (fun t w h' => (t = 0 ∧ q_Fr (fun k => k = o0 ∨ k = o0 + 1) h0 h')) (24, [(2, (0, u2)), (0, (2, Int.ofNat o0)), (1, (0, u1))], [], q_hp q_K 155 h, [], 0, 0))
    : ∀ (m : Nat) {u2 : Int} {h : q_F}, (-2147483648 ≤ q_w32 u2 ∧ q_w32 u2 < 2147483648) → q_Fr (fun k => k = o0 ∨ k = o0 + 1) h0 h → 2147483648 - q_w32 u2 < (m : Int) → q_R Γ q_K 155 153 (fun t w h' => (t = 0 ∧ q_Fr (fun k => k = o0 ∨ k = o0 + 1) h0 h')) (2, [(2, (0, u2)), (0, (2, Int.ofNat o0)), (1, (0, u1))], [], q_hp q_K 155 h, [], 0, 0)   := by
  obtain ⟨fo00, fo01, fo02, fo03⟩ := q_fG ho0
  intro m
  induction m with
  | zero =>
    intro u2 h hinv hf hmu
    exact absurd hmu (by omega)
  | succ m ih =>
    intro u2 h hinv hf hmu
    refine r_iload_n c153_2 rfl rfl ?_
    refine r_aload_n c153_3 rfl rfl ?_
    refine r_geti c153_4 (by first | assumption | omega) (by decide) (by first | assumption | rfl) rfl rfl ?_
    refine r_ic_ge c153_7 rfl (by first | exact q_w32_id (by omega) (by omega) | exact q_w32w _ | exact rfl) (by first | exact q_w32_id (by omega) (by omega) | exact q_w32w _ | exact rfl) ?_ ?_
    · intro b1
      refine q_R.wk (ks := [2, 0, 1]) (lo' := [(2, _), (0, _), (1, _)]) rfl ?_
      exact hx24 (by repeat (first | exact q_Fr.rf | refine q_Fr.ud ?_ (by omega) (by first | assumption | rfl) rfl | refine q_Fr.udz ?_ (by omega) (by first | assumption | decide | omega) | refine q_Fr.tr ?_ (by assumption) (by intro k9 hk9; omega)))
    · intro b1
      refine r_aload_n c153_10 rfl rfl ?_
      refine r_iload_n c153_11 rfl rfl ?_
      refine r_iload_n c153_12 rfl rfl ?_
      refine r_iload_n c153_13 rfl rfl ?_
      refine r_isub c153_14 (by first | exact q_w32_id (by omega) (by omega) | exact q_w32w _ | exact rfl) rfl ?_
      refine r_vcG c153_15 (by first | assumption | omega) (by decide) (by first | assumption | rfl) rfl rfl rfl (k145 hG (q_Fr.bz (S := fun k => k = o0 ∨ k = o0 + 1) hZ (by repeat (first | exact q_Fr.rf | refine q_Fr.ud ?_ (by omega) (by first | assumption | rfl) rfl | refine q_Fr.udz ?_ (by omega) (by first | assumption | decide | omega) | refine q_Fr.tr ?_ (by assumption) (by intro k9 hk9; omega)))) (by first | assumption | exact q_hC (by assumption) | exact q_h1 (by assumption) | exact q_h3 (by assumption) | exact q_h5 (by assumption) | exact q_hG (by assumption) | exact q_hP | exact q_hB1 | exact q_hB2 | exact q_hT6 | exact q_hT15 | exact q_hT24)) ?_
      intro t2 w2 g2 p2
      obtain ⟨rfl, e2⟩ := p2
      refine Or.inl ⟨rfl, ?_⟩
      refine r_iinc c153_18 rfl (by first | exact q_w32_id (by omega) (by omega) | exact q_w32w _ | exact rfl) (lo' := [(2, _), (0, _), (1, _)]) rfl rfl rfl ?_
      refine r_goto c153_21 ?_
      refine q_R.wk (ks := [2, 0, 1]) (lo' := [(2, _), (0, _), (1, _)]) rfl ?_
      exact ih (by first | omega | exact ⟨q_rg1 _, q_rg2 _⟩) (by repeat (first | exact q_Fr.rf | refine q_Fr.ud ?_ (by omega) (by first | assumption | rfl) rfl | refine q_Fr.udz ?_ (by omega) (by first | assumption | decide | omega) | refine q_Fr.tr ?_ (by assumption) (by intro k9 hk9; omega))) (by rw [q_w32w, q_w32_sc (by omega)]; omega)

theorem k153 {Γ : q_Γ} (hG : q_GG Γ) {h : q_F} (hZ : q_Bz h) {o0 : Nat} {v1 : Int} (ho0 : q_isG o0) :
    q_M Γ q_K 155 153 [(2, Int.ofNat o0), (0, v1)] h (fun t w h' => (t = 0 ∧ q_Fr (fun k => k = o0 ∨ k = o0 + 1) h h')) := by
  obtain ⟨fo00, fo01, fo02, fo03⟩ := q_fG ho0
  refine q_M.of (by decide) (Nat.le_of_ble_eq_true rfl) hG ?_
  refine r_iload_n c153_0 rfl rfl ?_
  refine r_istore_n c153_1 (lo' := [(2, _), (0, _), (1, _)]) rfl rfl rfl ?_
  refine q_R.wk (ks := [2, 0, 1]) (lo' := [(2, _), (0, _), (1, _)]) rfl ?_
  refine l153_2 (o0 := o0) (v1 := v1) hG hZ ho0 ?_ 4294967298 (by first | omega | exact ⟨q_rg1 _, q_rg2 _⟩) (by repeat (first | exact q_Fr.rf | refine q_Fr.ud ?_ (by omega) (by first | assumption | rfl) rfl | refine q_Fr.udz ?_ (by omega) (by first | assumption | decide | omega) | refine q_Fr.tr ?_ (by assumption) (by intro k9 hk9; omega))) (q_mu (by first | omega | exact ⟨q_rg1 _, q_rg2 _⟩))
  · intro u2_1 g1 f1
    refine r_aload_n c153_24 rfl rfl ?_
    refine r_aload_n c153_25 rfl rfl ?_
    refine r_geti c153_26 (by first | assumption | omega) (by decide) (by first | assumption | rfl) rfl rfl ?_
    refine r_iload_n c153_29 rfl rfl ?_
    refine r_isub c153_30 (by first | exact q_w32_id (by omega) (by omega) | exact q_w32w _ | exact rfl) rfl ?_
    refine r_iconst c153_31 rfl ?_
    refine r_max c153_32 rfl rfl ?_
    refine r_puti c153_35 (by first | assumption | omega) (by decide) (by first | assumption | rfl) rfl rfl rfl ?_
    exact r_vret c153_38 ⟨rfl, rfl, rfl⟩ ⟨rfl, (by repeat (first | exact q_Fr.rf | refine q_Fr.ud ?_ (by omega) (by first | assumption | rfl) rfl | refine q_Fr.udz ?_ (by omega) (by first | assumption | decide | omega) | refine q_Fr.tr ?_ (by assumption) (by intro k9 hk9; omega)))⟩
theorem c146_0 : q_cat 146 0 (.iconst 0) 1 0 0 (0) := ⟨rfl, rfl⟩
theorem c146_1 : q_cat 146 1 (.istore_n 3) 1 3 0 (0) := ⟨rfl, rfl⟩
theorem c146_2 : q_cat 146 2 (.iload_n 3) 1 3 0 (0) := ⟨rfl, rfl⟩
theorem c146_3 : q_cat 146 3 (.iconst 3) 1 0 0 (0) := ⟨rfl, rfl⟩
theorem c146_4 : q_cat 146 4 (.if_icmp .ge 37) 3 41 0 (0) := ⟨rfl, rfl⟩
theorem c146_7 : q_cat 146 7 (.aload_n 0) 1 0 0 (0) := ⟨rfl, rfl⟩
theorem c146_8 : q_cat 146 8 (.iload_n 1) 1 1 0 (0) := ⟨rfl, rfl⟩
theorem c146_9 : q_cat 146 9 (.iload_n 3) 1 3 0 (0) := ⟨rfl, rfl⟩
theorem c146_10 : q_cat 146 10 (.invokevirtual 41) 3 148 0 (0) := ⟨rfl, rfl⟩
theorem c146_13 : q_cat 146 13 (.istore 4) 2 4 0 (0) := ⟨rfl, rfl⟩
theorem c146_15 : q_cat 146 15 (.aload_n 0) 1 0 0 (0) := ⟨rfl, rfl⟩
theorem c146_16 : q_cat 146 16 (.iload_n 1) 1 1 0 (0) := ⟨rfl, rfl⟩
theorem c146_17 : q_cat 146 17 (.iload_n 3) 1 3 0 (0) := ⟨rfl, rfl⟩
theorem c146_18 : q_cat 146 18 (.aload_n 0) 1 0 0 (0) := ⟨rfl, rfl⟩
theorem c146_19 : q_cat 146 19 (.iload_n 2) 1 2 0 (0) := ⟨rfl, rfl⟩
theorem c146_20 : q_cat 146 20 (.iload_n 3) 1 3 0 (0) := ⟨rfl, rfl⟩
theorem c146_21 : q_cat 146 21 (.invokevirtual 41) 3 148 0 (0) := ⟨rfl, rfl⟩
theorem c146_24 : q_cat 146 24 (.invokevirtual 31) 3 154 0 (0) := ⟨rfl, rfl⟩
theorem c146_27 : q_cat 146 27 (.aload_n 0) 1 0 0 (0) := ⟨rfl, rfl⟩
theorem c146_28 : q_cat 146 28 (.iload_n 2) 1 2 0 (0) := ⟨rfl, rfl⟩
theorem c146_29 : q_cat 146 29 (.iload_n 3) 1 3 0 (0) := ⟨rfl, rfl⟩
theorem c146_30 : q_cat 146 30 (.iload 4) 2 4 0 (0) := ⟨rfl, rfl⟩
theorem c146_32 : q_cat 146 32 (.invokevirtual 31) 3 154 0 (0) := ⟨rfl, rfl⟩
theorem c146_35 : q_cat 146 35 (.iinc 3 1) 3 3 0 (0) := ⟨rfl, rfl⟩
theorem c146_38 : q_cat 146 38 (.goto (-36)) 3 2 0 (0) := ⟨rfl, rfl⟩
theorem c146_41 : q_cat 146 41 (.return_) 1 0 0 (0) := ⟨rfl, rfl⟩
theorem l146_2 {Γ : q_Γ} (hG : q_GG Γ) {h0 : q_F} (hZ : q_Bz h0) {o0 : Nat} {v1 : Int} {v2 : Int} {u1 : Int} {u2 : Int} (ho0 : q_isG o0)
    (hx41 : ∀ {u3 : Int} {h : q_F}, q_Fr (fun k => k = o0 ∨ k = o0 + 1) h0 h → q_R Γ q_K 155 146 (fun t w h' => (t = 0 ∧ q_Fr (fun k => k = o0 ∨ k = o0 + 1) h0 h')) (41, [(3, (0, u3)), (0, (2, Int.ofNat o0)), (1, (0, u1)), (2, (0, u2))], [], q_hp q_K 155 h, [], 0, 0))
    : ∀ (m : Nat) {u3 : Int} {h : q_F}, (-2147483648 ≤ u3 ∧ u3 < 2147483648) → q_Fr (fun k => k = o0 ∨ k = o0 + 1) h0 h → 2147483648 - u3 < (m : Int) → q_R Γ q_K 155 146 (fun t w h' => (t = 0 ∧ q_Fr (fun k => k = o0 ∨ k = o0 + 1) h0 h')) (2, [(3, (0, u3)), (0, (2, Int.ofNat o0)), (1, (0, u1)), (2, (0, u2))], [], q_hp q_K 155 h, [], 0, 0)   := by
  obtain ⟨fo00, fo01, fo02, fo03⟩ := q_fG ho0
  intro m
  induction m with
  | zero =>
    intro u3 h hinv hf hmu
    exact absurd hmu (by omega)
  | succ m ih =>
    intro u3 h hinv hf hmu
    refine r_iload_n c146_2 rfl rfl ?_
    refine r_iconst c146_3 rfl ?_
    refine r_ic_ge c146_4 rfl (by first | exact q_w32_id (by omega) (by omega) | exact q_w32w _ | exact rfl) (show q_w32 (3) = 3 from rfl) ?_ ?_
    · intro b1
      refine q_R.wk (ks := [3, 0, 1, 2]) (lo' := [(3, _), (0, _), (1, _), (2, _)]) rfl ?_
      exact hx41 (by repeat (first | exact q_Fr.rf | refine q_Fr.ud ?_ (by omega) (by first | assumption | rfl) rfl | refine q_Fr.udz ?_ (by omega) (by first | assumption | decide | omega) | refine q_Fr.tr ?_ (by assumption) (by intro k9 hk9; omega)))
    · intro b1
      refine r_aload_n c146_7 rfl rfl ?_
      refine r_iload_n c146_8 rfl rfl ?_
      refine r_iload_n c146_9 rfl rfl ?_
      refine r_vcG c146_10 (by first | assumption | omega) (by decide) (by first | assumption | rfl) rfl rfl rfl (k148 hG (q_Fr.bz (S := fun k => k = o0 ∨ k = o0 + 1) hZ (by repeat (first | exact q_Fr.rf | refine q_Fr.ud ?_ (by omega) (by first | assumption | rfl) rfl | refine q_Fr.udz ?_ (by omega) (by first | assumption | decide | omega) | refine q_Fr.tr ?_ (by assumption) (by intro k9 hk9; omega)))) (by first | assumption | exact q_hC (by assumption) | exact q_h1 (by assumption) | exact q_h3 (by assumption) | exact q_h5 (by assumption) | exact q_hG (by assumption) | exact q_hP | exact q_hB1 | exact q_hB2 | exact q_hT6 | exact q_hT15 | exact q_hT24)) ?_
      intro t2 w2 g2 p2
      obtain ⟨rfl, ⟨z2, rfl⟩, rfl⟩ := p2
      refine Or.inr (Or.inl ⟨rfl, ?_⟩)
      refine r_istore c146_13 (lo' := [(4, _), (3, _), (0, _), (1, _), (2, _)]) rfl rfl rfl ?_
      refine r_aload_n c146_15 rfl rfl ?_
      refine r_iload_n c146_16 rfl rfl ?_
      refine r_iload_n c146_17 rfl rfl ?_
      refine r_aload_n c146_18 rfl rfl ?_
      refine r_iload_n c146_19 rfl rfl ?_
      refine r_iload_n c146_20 rfl rfl ?_
      refine r_vcG c146_21 (by first | assumption | omega) (by decide) (by first | assumption | rfl) rfl rfl rfl (k148 hG (q_Fr.bz (S := fun k => k = o0 ∨ k = o0 + 1) hZ (by repeat (first | exact q_Fr.rf | refine q_Fr.ud ?_ (by omega) (by first | assumption | rfl) rfl | refine q_Fr.udz ?_ (by omega) (by first | assumption | decide | omega) | refine q_Fr.tr ?_ (by assumption) (by intro k9 hk9; omega)))) (by first | assumption | exact q_hC (by assumption) | exact q_h1 (by assumption) | exact q_h3 (by assumption) | exact q_h5 (by assumption) | exact q_hG (by assumption) | exact q_hP | exact q_hB1 | exact q_hB2 | exact q_hT6 | exact q_hT15 | exact q_hT24)) ?_
      intro t3 w3 g3 p3
      obtain ⟨rfl, ⟨z3, rfl⟩, rfl⟩ := p3
      refine Or.inr (Or.inl ⟨rfl, ?_⟩)
      refine r_vcG c146_24 (by first | assumption | omega) (by decide) (by first | assumption | rfl) rfl rfl rfl (k154 hG (q_Fr.bz (S := fun k => k = o0 ∨ k = o0 + 1) hZ (by repeat (first | exact q_Fr.rf | refine q_Fr.ud ?_ (by omega) (by first | assumption | rfl) rfl | refine q_Fr.udz ?_ (by omega) (by first | assumption | decide | omega) | refine q_Fr.tr ?_ (by assumption) (by intro k9 hk9; omega)))) (by first | assumption | exact q_hC (by assumption) | exact q_h1 (by assumption) | exact q_h3 (by assumption) | exact q_h5 (by assumption) | exact q_hG (by assumption) | exact q_hP | exact q_hB1 | exact q_hB2 | exact q_hT6 | exact q_hT15 | exact q_hT24)) ?_
      intro t4 w4 g4 p4
      obtain ⟨rfl, e4⟩ := p4
      refine Or.inl ⟨rfl, ?_⟩
      refine r_aload_n c146_27 rfl rfl ?_
      refine r_iload_n c146_28 rfl rfl ?_
      refine r_iload_n c146_29 rfl rfl ?_
      refine r_iload c146_30 rfl rfl ?_
      refine r_vcG c146_32 (by first | assumption | omega) (by decide) (by first | assumption | rfl) rfl rfl rfl (k154 hG (q_Fr.bz (S := fun k => k = o0 ∨ k = o0 + 1) hZ (by repeat (first | exact q_Fr.rf | refine q_Fr.ud ?_ (by omega) (by first | assumption | rfl) rfl | refine q_Fr.udz ?_ (by omega) (by first | assumption | decide | omega) | refine q_Fr.tr ?_ (by assumption) (by intro k9 hk9; omega)))) (by first | assumption | exact q_hC (by assumption) | exact q_h1 (by assumption) | exact q_h3 (by assumption) | exact q_h5 (by assumption) | exact q_hG (by assumption) | exact q_hP | exact q_hB1 | exact q_hB2 | exact q_hT6 | exact q_hT15 | exact q_hT24)) ?_
      intro t5 w5 g5 p5
      obtain ⟨rfl, e5⟩ := p5
      refine Or.inl ⟨rfl, ?_⟩
      refine r_iinc c146_35 rfl (by first | exact q_w32_id (by omega) (by omega) | exact q_w32w _ | exact rfl) (lo' := [(3, _), (4, _), (0, _), (1, _), (2, _)]) rfl rfl rfl ?_
      refine r_goto c146_38 ?_
      refine q_R.wk (ks := [3, 0, 1, 2]) (lo' := [(3, _), (0, _), (1, _), (2, _)]) rfl ?_
      exact ih (by first | omega | exact ⟨q_rg1 _, q_rg2 _⟩) (by repeat (first | exact q_Fr.rf | refine q_Fr.ud ?_ (by omega) (by first | assumption | rfl) rfl | refine q_Fr.udz ?_ (by omega) (by first | assumption | decide | omega) | refine q_Fr.tr ?_ (by assumption) (by intro k9 hk9; omega))) (by omega)

theorem k146 {Γ : q_Γ} (hG : q_GG Γ) {h : q_F} (hZ : q_Bz h) {o0 : Nat} {v1 : Int} {v2 : Int} (ho0 : q_isG o0) :
    q_M Γ q_K 155 146 [(2, Int.ofNat o0), (0, v1), (0, v2)] h (fun t w h' => (t = 0 ∧ q_Fr (fun k => k = o0 ∨ k = o0 + 1) h h')) := by
  obtain ⟨fo00, fo01, fo02, fo03⟩ := q_fG ho0
  refine q_M.of (by decide) (Nat.le_of_ble_eq_true rfl) hG ?_
  refine r_iconst c146_0 rfl ?_
  refine r_istore_n c146_1 (lo' := [(3, _), (0, _), (1, _), (2, _)]) rfl rfl rfl ?_
  refine q_R.wk (ks := [3, 0, 1, 2]) (lo' := [(3, _), (0, _), (1, _), (2, _)]) rfl ?_
  refine l146_2 (o0 := o0) (v1 := v1) (v2 := v2) hG hZ ho0 ?_ 4294967298 (by first | omega | exact ⟨q_rg1 _, q_rg2 _⟩) (by repeat (first | exact q_Fr.rf | refine q_Fr.ud ?_ (by omega) (by first | assumption | rfl) rfl | refine q_Fr.udz ?_ (by omega) (by first | assumption | decide | omega) | refine q_Fr.tr ?_ (by assumption) (by intro k9 hk9; omega))) (q_mu (by first | omega | exact ⟨q_rg1 _, q_rg2 _⟩))
  · intro u3_1 g1 f1
    exact r_vret c146_41 ⟨rfl, rfl, rfl⟩ ⟨rfl, (by repeat (first | exact q_Fr.rf | refine q_Fr.ud ?_ (by omega) (by first | assumption | rfl) rfl | refine q_Fr.udz ?_ (by omega) (by first | assumption | decide | omega) | refine q_Fr.tr ?_ (by assumption) (by intro k9 hk9; omega)))⟩
theorem c147_0 : q_cat 147 0 (.lload_n 0) 1 0 0 (0) := ⟨rfl, rfl⟩
theorem c147_1 : q_cat 147 1 (.lload_n 2) 1 2 0 (0) := ⟨rfl, rfl⟩
theorem c147_2 : q_cat 147 2 (.lsub) 1 0 0 (0) := ⟨rfl, rfl⟩
theorem c147_3 : q_cat 147 3 (.invokestatic 50) 3 0 11 (0) := ⟨rfl, rfl⟩
theorem c147_6 : q_cat 147 6 (.lreturn) 1 0 0 (0) := ⟨rfl, rfl⟩
theorem k147 {Γ : q_Γ} (hG : q_GG Γ) {h : q_F} (hZ : q_Bz h) {v0 : Int} {v2 : Int}  :
    q_M Γ q_K 155 147 [(1, v0), (1, v2)] h (fun t w h' => (t = 1 ∧ (∃ z, w = ((1, z) : q_V)) ∧ h' = h)) := by
  refine q_M.of (by decide) (Nat.le_of_ble_eq_true rfl) hG ?_
  refine r_lload_n c147_0 rfl rfl ?_
  refine r_lload_n c147_1 rfl rfl ?_
  refine r_lsub c147_2 rfl rfl ?_
  refine r_absl c147_3 rfl rfl ?_
  exact r_lret c147_6 ⟨rfl, rfl, rfl⟩ ⟨rfl, ⟨_, rfl⟩, rfl⟩
theorem c151_0 : q_cat 151 0 (.iconst (-1)) 1 0 0 (0) := ⟨rfl, rfl⟩
theorem c151_1 : q_cat 151 1 (.istore 5) 2 5 0 (0) := ⟨rfl, rfl⟩
theorem c151_3 : q_cat 151 3 (.lconst 0) 1 0 0 (0) := ⟨rfl, rfl⟩
theorem c151_4 : q_cat 151 4 (.lstore 6) 2 6 0 (0) := ⟨rfl, rfl⟩
theorem c151_6 : q_cat 151 6 (.iconst 0) 1 0 0 (0) := ⟨rfl, rfl⟩
theorem c151_7 : q_cat 151 7 (.istore 8) 2 8 0 (0) := ⟨rfl, rfl⟩
theorem c151_9 : q_cat 151 9 (.iload 8) 2 8 0 (0) := ⟨rfl, rfl⟩
theorem c151_11 : q_cat 151 11 (.aload_n 0) 1 0 0 (0) := ⟨rfl, rfl⟩
theorem c151_12 : q_cat 151 12 (.getfield 15) 3 7 1 (0) := ⟨rfl, rfl⟩
theorem c151_15 : q_cat 151 15 (.if_icmp .ge 87) 3 102 0 (0) := ⟨rfl, rfl⟩
theorem c151_18 : q_cat 151 18 (.aload_n 0) 1 0 0 (0) := ⟨rfl, rfl⟩
theorem c151_19 : q_cat 151 19 (.iload 8) 2 8 0 (0) := ⟨rfl, rfl⟩
theorem c151_21 : q_cat 151 21 (.iconst 0) 1 0 0 (0) := ⟨rfl, rfl⟩
theorem c151_22 : q_cat 151 22 (.invokevirtual 41) 3 148 0 (0) := ⟨rfl, rfl⟩
theorem c151_25 : q_cat 151 25 (.i2l) 1 0 0 (0) := ⟨rfl, rfl⟩
theorem c151_26 : q_cat 151 26 (.iload_n 1) 1 1 0 (0) := ⟨rfl, rfl⟩
theorem c151_27 : q_cat 151 27 (.i2l) 1 0 0 (0) := ⟨rfl, rfl⟩
theorem c151_28 : q_cat 151 28 (.invokestatic 44) 3 147 1 (0) := ⟨rfl, rfl⟩
theorem c151_31 : q_cat 151 31 (.aload_n 0) 1 0 0 (0) := ⟨rfl, rfl⟩
theorem c151_32 : q_cat 151 32 (.iload 8) 2 8 0 (0) := ⟨rfl, rfl⟩
theorem c151_34 : q_cat 151 34 (.iconst 1) 1 0 0 (0) := ⟨rfl, rfl⟩
theorem c151_35 : q_cat 151 35 (.invokevirtual 41) 3 148 0 (0) := ⟨rfl, rfl⟩
theorem c151_38 : q_cat 151 38 (.i2l) 1 0 0 (0) := ⟨rfl, rfl⟩
theorem c151_39 : q_cat 151 39 (.iload_n 2) 1 2 0 (0) := ⟨rfl, rfl⟩
theorem c151_40 : q_cat 151 40 (.i2l) 1 0 0 (0) := ⟨rfl, rfl⟩
theorem c151_41 : q_cat 151 41 (.invokestatic 44) 3 147 1 (0) := ⟨rfl, rfl⟩
theorem c151_44 : q_cat 151 44 (.aload_n 0) 1 0 0 (0) := ⟨rfl, rfl⟩
theorem c151_45 : q_cat 151 45 (.iload 8) 2 8 0 (0) := ⟨rfl, rfl⟩
theorem c151_47 : q_cat 151 47 (.iconst 2) 1 0 0 (0) := ⟨rfl, rfl⟩
theorem c151_48 : q_cat 151 48 (.invokevirtual 41) 3 148 0 (0) := ⟨rfl, rfl⟩
theorem c151_51 : q_cat 151 51 (.i2l) 1 0 0 (0) := ⟨rfl, rfl⟩
theorem c151_52 : q_cat 151 52 (.iload_n 3) 1 3 0 (0) := ⟨rfl, rfl⟩
theorem c151_53 : q_cat 151 53 (.i2l) 1 0 0 (0) := ⟨rfl, rfl⟩
theorem c151_54 : q_cat 151 54 (.invokestatic 44) 3 147 1 (0) := ⟨rfl, rfl⟩
theorem c151_57 : q_cat 151 57 (.invokestatic 48) 3 0 10 (0) := ⟨rfl, rfl⟩
theorem c151_60 : q_cat 151 60 (.invokestatic 48) 3 0 10 (0) := ⟨rfl, rfl⟩
theorem c151_63 : q_cat 151 63 (.lstore 9) 2 9 0 (0) := ⟨rfl, rfl⟩
theorem c151_65 : q_cat 151 65 (.iload 4) 2 4 0 (0) := ⟨rfl, rfl⟩
theorem c151_67 : q_cat 151 67 (.iload 8) 2 8 0 (0) := ⟨rfl, rfl⟩
theorem c151_69 : q_cat 151 69 (.ishr) 1 0 0 (0) := ⟨rfl, rfl⟩
theorem c151_70 : q_cat 151 70 (.iconst 1) 1 0 0 (0) := ⟨rfl, rfl⟩
theorem c151_71 : q_cat 151 71 (.iand) 1 0 0 (0) := ⟨rfl, rfl⟩
theorem c151_72 : q_cat 151 72 (.ifCond .ne 24) 3 96 0 (0) := ⟨rfl, rfl⟩
theorem c151_75 : q_cat 151 75 (.iload 5) 2 5 0 (0) := ⟨rfl, rfl⟩
theorem c151_77 : q_cat 151 77 (.ifCond .lt 11) 3 88 0 (0) := ⟨rfl, rfl⟩
theorem c151_80 : q_cat 151 80 (.lload 9) 2 9 0 (0) := ⟨rfl, rfl⟩
theorem c151_82 : q_cat 151 82 (.lload 6) 2 6 0 (0) := ⟨rfl, rfl⟩
theorem c151_84 : q_cat 151 84 (.lcmp) 1 0 0 (0) := ⟨rfl, rfl⟩
theorem c151_85 : q_cat 151 85 (.ifCond .ge 11) 3 96 0 (0) := ⟨rfl, rfl⟩
theorem c151_88 : q_cat 151 88 (.iload 8) 2 8 0 (0) := ⟨rfl, rfl⟩
theorem c151_90 : q_cat 151 90 (.istore 5) 2 5 0 (0) := ⟨rfl, rfl⟩
theorem c151_92 : q_cat 151 92 (.lload 9) 2 9 0 (0) := ⟨rfl, rfl⟩
theorem c151_94 : q_cat 151 94 (.lstore 6) 2 6 0 (0) := ⟨rfl, rfl⟩
theorem c151_96 : q_cat 151 96 (.iinc 8 1) 3 8 0 (0) := ⟨rfl, rfl⟩
theorem c151_99 : q_cat 151 99 (.goto (-90)) 3 9 0 (0) := ⟨rfl, rfl⟩
theorem c151_102 : q_cat 151 102 (.iload 5) 2 5 0 (0) := ⟨rfl, rfl⟩
theorem c151_104 : q_cat 151 104 (.ireturn) 1 0 0 (0) := ⟨rfl, rfl⟩
theorem l151_9 {Γ : q_Γ} (hG : q_GG Γ) {h0 : q_F} (hZ : q_Bz h0) {o0 : Nat} {v1 : Int} {v2 : Int} {v3 : Int} {v4 : Int} {u1 : Int} {u2 : Int} {u3 : Int} {u4 : Int} (ho0 : q_isG o0)
    (hx102 : ∀ {u8 u6 u5 : Int} {h : q_F}, h = h0 → q_R Γ q_K 155 151 (fun t w h' => (t = 1 ∧ (∃ z, w = ((0, z) : q_V)) ∧ h' = h0)) (102, [(8, (0, u8)), (6, (1, u6)), (5, (0, u5)), (0, (2, Int.ofNat o0)), (1, (0, u1)), (2, (0, u2)), (3, (0, u3)), (4, (0, u4))], [], q_hp q_K 155 h, [], 0, 0))
    : ∀ (m : Nat) {u8 u6 u5 : Int} {h : q_F}, (-2147483648 ≤ u8 ∧ u8 < 2147483648) → h = h0 → 2147483648 - u8 < (m : Int) → q_R Γ q_K 155 151 (fun t w h' => (t = 1 ∧ (∃ z, w = ((0, z) : q_V)) ∧ h' = h0)) (9, [(8, (0, u8)), (6, (1, u6)), (5, (0, u5)), (0, (2, Int.ofNat o0)), (1, (0, u1)), (2, (0, u2)), (3, (0, u3)), (4, (0, u4))], [], q_hp q_K 155 h, [], 0, 0)   := by
  obtain ⟨fo00, fo01, fo02, fo03⟩ := q_fG ho0
  intro m
  induction m with
  | zero =>
    intro u8 u6 u5 h hinv hf hmu
    exact absurd hmu (by omega)
  | succ m ih =>
    intro u8 u6 u5 h hinv hf hmu
    subst hf
    refine r_iload c151_9 rfl rfl ?_
    refine r_aload_n c151_11 rfl rfl ?_
    refine r_geti c151_12 (by first | assumption | omega) (by decide) (by first | assumption | rfl) rfl rfl ?_
    refine r_ic_ge c151_15 rfl (by first | exact q_w32_id (by omega) (by omega) | exact q_w32w _ | exact rfl) (by first | exact q_w32_id (by omega) (by omega) | exact q_w32w _ | exact rfl) ?_ ?_
    · intro b1
      refine q_R.wk (ks := [8, 6, 5, 0, 1, 2, 3, 4]) (lo' := [(8, _), (6, _), (5, _), (0, _), (1, _), (2, _), (3, _), (4, _)]) rfl ?_
      exact hx102 rfl
    · intro b1
      refine r_aload_n c151_18 rfl rfl ?_
      refine r_iload c151_19 rfl rfl ?_
      refine r_iconst c151_21 rfl ?_
      refine r_vcG c151_22 (by first | assumption | omega) (by decide) (by first | assumption | rfl) rfl rfl rfl (k148 hG hZ (by first | assumption | exact q_hC (by assumption) | exact q_h1 (by assumption) | exact q_h3 (by assumption) | exact q_h5 (by assumption) | exact q_hG (by assumption) | exact q_hP | exact q_hB1 | exact q_hB2 | exact q_hT6 | exact q_hT15 | exact q_hT24)) ?_
      intro t2 w2 g2 p2
      obtain ⟨rfl, ⟨z2, rfl⟩, rfl⟩ := p2
      refine Or.inr (Or.inl ⟨rfl, ?_⟩)
      refine r_i2l c151_25 (by first | exact q_w32_id (by omega) (by omega) | exact q_w32w _ | exact rfl) rfl ?_
      refine r_iload_n c151_26 rfl rfl ?_
      refine r_i2l c151_27 (by first | exact q_w32_id (by omega) (by omega) | exact q_w32w _ | exact rfl) rfl ?_
      refine r_callG c151_28 (fun _ => rfl) rfl rfl rfl (k147 hG hZ) ?_
      intro t3 w3 g3 p3
      obtain ⟨rfl, ⟨z3, rfl⟩, rfl⟩ := p3
      refine Or.inr (Or.inl ⟨rfl, ?_⟩)
      refine r_aload_n c151_31 rfl rfl ?_
      refine r_iload c151_32 rfl rfl ?_
      refine r_iconst c151_34 rfl ?_
      refine r_vcG c151_35 (by first | assumption | omega) (by decide) (by first | assumption | rfl) rfl rfl rfl (k148 hG hZ (by first | assumption | exact q_hC (by assumption) | exact q_h1 (by assumption) | exact q_h3 (by assumption) | exact q_h5 (by assumption) | exact q_hG (by assumption) | exact q_hP | exact q_hB1 | exact q_hB2 | exact q_hT6 | exact q_hT15 | exact q_hT24)) ?_
      intro t4 w4 g4 p4
      obtain ⟨rfl, ⟨z4, rfl⟩, rfl⟩ := p4
      refine Or.inr (Or.inl ⟨rfl, ?_⟩)
      refine r_i2l c151_38 (by first | exact q_w32_id (by omega) (by omega) | exact q_w32w _ | exact rfl) rfl ?_
      refine r_iload_n c151_39 rfl rfl ?_
      refine r_i2l c151_40 (by first | exact q_w32_id (by omega) (by omega) | exact q_w32w _ | exact rfl) rfl ?_
      refine r_callG c151_41 (fun _ => rfl) rfl rfl rfl (k147 hG hZ) ?_
      intro t5 w5 g5 p5
      obtain ⟨rfl, ⟨z5, rfl⟩, rfl⟩ := p5
      refine Or.inr (Or.inl ⟨rfl, ?_⟩)
      refine r_aload_n c151_44 rfl rfl ?_
      refine r_iload c151_45 rfl rfl ?_
      refine r_iconst c151_47 rfl ?_
      refine r_vcG c151_48 (by first | assumption | omega) (by decide) (by first | assumption | rfl) rfl rfl rfl (k148 hG hZ (by first | assumption | exact q_hC (by assumption) | exact q_h1 (by assumption) | exact q_h3 (by assumption) | exact q_h5 (by assumption) | exact q_hG (by assumption) | exact q_hP | exact q_hB1 | exact q_hB2 | exact q_hT6 | exact q_hT15 | exact q_hT24)) ?_
      intro t6 w6 g6 p6
      obtain ⟨rfl, ⟨z6, rfl⟩, rfl⟩ := p6
      refine Or.inr (Or.inl ⟨rfl, ?_⟩)
      refine r_i2l c151_51 (by first | exact q_w32_id (by omega) (by omega) | exact q_w32w _ | exact rfl) rfl ?_
      refine r_iload_n c151_52 rfl rfl ?_
      refine r_i2l c151_53 (by first | exact q_w32_id (by omega) (by omega) | exact q_w32w _ | exact rfl) rfl ?_
      refine r_callG c151_54 (fun _ => rfl) rfl rfl rfl (k147 hG hZ) ?_
      intro t7 w7 g7 p7
      obtain ⟨rfl, ⟨z7, rfl⟩, rfl⟩ := p7
      refine Or.inr (Or.inl ⟨rfl, ?_⟩)
      refine r_maxl c151_57 rfl rfl ?_
      refine r_maxl c151_60 rfl rfl ?_
      refine r_lstore c151_63 (lo' := [(9, _), (8, _), (6, _), (5, _), (0, _), (1, _), (2, _), (3, _), (4, _)]) rfl rfl rfl ?_
      refine r_iload c151_65 rfl rfl ?_
      refine r_iload c151_67 rfl rfl ?_
      refine r_ishr c151_69 rfl rfl ?_
      refine r_iconst c151_70 rfl ?_
      refine r_iand c151_71 rfl rfl ?_
      refine r_if_ne c151_72 rfl (by first | exact q_w32_id (by omega) (by omega) | exact q_w32w _ | exact rfl) ?_ ?_
      · intro b8
        refine r_iinc c151_96 rfl (by first | exact q_w32_id (by omega) (by omega) | exact q_w32w _ | exact rfl) (lo' := [(8, _), (9, _), (6, _), (5, _), (0, _), (1, _), (2, _), (3, _), (4, _)]) rfl rfl rfl ?_
        refine r_goto c151_99 ?_
        refine q_R.wk (ks := [8, 6, 5, 0, 1, 2, 3, 4]) (lo' := [(8, _), (6, _), (5, _), (0, _), (1, _), (2, _), (3, _), (4, _)]) rfl ?_
        exact ih (by first | omega | exact ⟨q_rg1 _, q_rg2 _⟩) rfl (by omega)
      · intro b8
        refine r_iload c151_75 rfl rfl ?_
        refine r_if_lt c151_77 rfl (by first | exact q_w32_id (by omega) (by omega) | exact q_w32w _ | exact rfl) ?_ ?_
        · intro b9
          refine r_iload c151_88 rfl rfl ?_
          refine r_istore c151_90 (lo' := [(5, _), (9, _), (8, _), (6, _), (0, _), (1, _), (2, _), (3, _), (4, _)]) rfl rfl rfl ?_
          refine r_lload c151_92 rfl rfl ?_
          refine r_lstore c151_94 (lo' := [(6, _), (5, _), (9, _), (8, _), (0, _), (1, _), (2, _), (3, _), (4, _)]) rfl rfl rfl ?_
          refine r_iinc c151_96 rfl (by first | exact q_w32_id (by omega) (by omega) | exact q_w32w _ | exact rfl) (lo' := [(8, _), (6, _), (5, _), (9, _), (0, _), (1, _), (2, _), (3, _), (4, _)]) rfl rfl rfl ?_
          refine r_goto c151_99 ?_
          refine q_R.wk (ks := [8, 6, 5, 0, 1, 2, 3, 4]) (lo' := [(8, _), (6, _), (5, _), (0, _), (1, _), (2, _), (3, _), (4, _)]) rfl ?_
          exact ih (by first | omega | exact ⟨q_rg1 _, q_rg2 _⟩) rfl (by omega)
        · intro b9
          refine r_lload c151_80 rfl rfl ?_
          refine r_lload c151_82 rfl rfl ?_
          refine r_lcmp c151_84 rfl ?_ ?_ ?_
          · intro b10
            refine r_if_ge c151_85 rfl (show q_w32 (-1) = -1 from rfl) ?_ ?_
            · intro b11
              exact absurd b11.1 (by decide)
            · intro b11
              refine r_iload c151_88 rfl rfl ?_
              refine r_istore c151_90 (lo' := [(5, _), (9, _), (8, _), (6, _), (0, _), (1, _), (2, _), (3, _), (4, _)]) rfl rfl rfl ?_
              refine r_lload c151_92 rfl rfl ?_
              refine r_lstore c151_94 (lo' := [(6, _), (5, _), (9, _), (8, _), (0, _), (1, _), (2, _), (3, _), (4, _)]) rfl rfl rfl ?_
              refine r_iinc c151_96 rfl (by first | exact q_w32_id (by omega) (by omega) | exact q_w32w _ | exact rfl) (lo' := [(8, _), (6, _), (5, _), (9, _), (0, _), (1, _), (2, _), (3, _), (4, _)]) rfl rfl rfl ?_
              refine r_goto c151_99 ?_
              refine q_R.wk (ks := [8, 6, 5, 0, 1, 2, 3, 4]) (lo' := [(8, _), (6, _), (5, _), (0, _), (1, _), (2, _), (3, _), (4, _)]) rfl ?_
              exact ih (by first | omega | exact ⟨q_rg1 _, q_rg2 _⟩) rfl (by omega)
          · intro b10
            refine r_if_ge c151_85 rfl (show q_w32 (0) = 0 from rfl) ?_ ?_
            · intro b12
              refine r_iinc c151_96 rfl (by first | exact q_w32_id (by omega) (by omega) | exact q_w32w _ | exact rfl) (lo' := [(8, _), (9, _), (6, _), (5, _), (0, _), (1, _), (2, _), (3, _), (4, _)]) rfl rfl rfl ?_
              refine r_goto c151_99 ?_
              refine q_R.wk (ks := [8, 6, 5, 0, 1, 2, 3, 4]) (lo' := [(8, _), (6, _), (5, _), (0, _), (1, _), (2, _), (3, _), (4, _)]) rfl ?_
              exact ih (by first | omega | exact ⟨q_rg1 _, q_rg2 _⟩) rfl (by omega)
            · intro b12
              exact absurd b12.1 (by decide)
          · intro b10
            refine r_if_ge c151_85 rfl (show q_w32 (1) = 1 from rfl) ?_ ?_
            · intro b13
              refine r_iinc c151_96 rfl (by first | exact q_w32_id (by omega) (by omega) | exact q_w32w _ | exact rfl) (lo' := [(8, _), (9, _), (6, _), (5, _), (0, _), (1, _), (2, _), (3, _), (4, _)]) rfl rfl rfl ?_
              refine r_goto c151_99 ?_
              refine q_R.wk (ks := [8, 6, 5, 0, 1, 2, 3, 4]) (lo' := [(8, _), (6, _), (5, _), (0, _), (1, _), (2, _), (3, _), (4, _)]) rfl ?_
              exact ih (by first | omega | exact ⟨q_rg1 _, q_rg2 _⟩) rfl (by omega)
            · intro b13
              exact absurd b13.1 (by decide)

theorem k151 {Γ : q_Γ} (hG : q_GG Γ) {h : q_F} (hZ : q_Bz h) {o0 : Nat} {v1 : Int} {v2 : Int} {v3 : Int} {v4 : Int} (ho0 : q_isG o0) :
    q_M Γ q_K 155 151 [(2, Int.ofNat o0), (0, v1), (0, v2), (0, v3), (0, v4)] h (fun t w h' => (t = 1 ∧ (∃ z, w = ((0, z) : q_V)) ∧ h' = h)) := by
  obtain ⟨fo00, fo01, fo02, fo03⟩ := q_fG ho0
  refine q_M.of (by decide) (Nat.le_of_ble_eq_true rfl) hG ?_
  refine r_iconst c151_0 rfl ?_
  refine r_istore c151_1 (lo' := [(5, _), (0, _), (1, _), (2, _), (3, _), (4, _)]) rfl rfl rfl ?_
  refine r_lconst c151_3 rfl ?_
  refine r_lstore c151_4 (lo' := [(6, _), (5, _), (0, _), (1, _), (2, _), (3, _), (4, _)]) rfl rfl rfl ?_
  refine r_iconst c151_6 rfl ?_
  refine r_istore c151_7 (lo' := [(8, _), (6, _), (5, _), (0, _), (1, _), (2, _), (3, _), (4, _)]) rfl rfl rfl ?_
  refine q_R.wk (ks := [8, 6, 5, 0, 1, 2, 3, 4]) (lo' := [(8, _), (6, _), (5, _), (0, _), (1, _), (2, _), (3, _), (4, _)]) rfl ?_
  refine l151_9 (o0 := o0) (v1 := v1) (v2 := v2) (v3 := v3) (v4 := v4) hG hZ ho0 ?_ 4294967298 (by first | omega | exact ⟨q_rg1 _, q_rg2 _⟩) rfl (q_mu (by first | omega | exact ⟨q_rg1 _, q_rg2 _⟩))
  · intro u8_1 u6_1 u5_1 g1 f1
    subst f1
    refine r_iload c151_102 rfl rfl ?_
    exact r_iret c151_104 ⟨rfl, rfl, rfl⟩ ⟨rfl, ⟨_, rfl⟩, rfl⟩
theorem c125_0 : q_cat 125 0 (.iload_n 1) 1 1 0 (0) := ⟨rfl, rfl⟩
theorem c125_1 : q_cat 125 1 (.ifCond .ne 8) 3 9 0 (0) := ⟨rfl, rfl⟩
theorem c125_4 : q_cat 125 4 (.aload_n 0) 1 0 0 (0) := ⟨rfl, rfl⟩
theorem c125_5 : q_cat 125 5 (.getfield 12) 3 6 0 (3) := ⟨rfl, rfl⟩
theorem c125_8 : q_cat 125 8 (.areturn) 1 0 0 (0) := ⟨rfl, rfl⟩
theorem c125_9 : q_cat 125 9 (.iload_n 1) 1 1 0 (0) := ⟨rfl, rfl⟩
theorem c125_10 : q_cat 125 10 (.iconst 1) 1 0 0 (0) := ⟨rfl, rfl⟩
theorem c125_11 : q_cat 125 11 (.if_icmp .ne 10) 3 21 0 (0) := ⟨rfl, rfl⟩
theorem c125_14 : q_cat 125 14 (.aload_n 0) 1 0 0 (0) := ⟨rfl, rfl⟩
theorem c125_15 : q_cat 125 15 (.getfield 18) 3 6 1 (3) := ⟨rfl, rfl⟩
theorem c125_18 : q_cat 125 18 (.goto 7) 3 25 0 (0) := ⟨rfl, rfl⟩
theorem c125_21 : q_cat 125 21 (.aload_n 0) 1 0 0 (0) := ⟨rfl, rfl⟩
theorem c125_22 : q_cat 125 22 (.getfield 21) 3 6 2 (3) := ⟨rfl, rfl⟩
theorem c125_25 : q_cat 125 25 (.areturn) 1 0 0 (0) := ⟨rfl, rfl⟩
theorem k125 {Γ : q_Γ} (hG : q_GG Γ) {h : q_F} (hZ : q_Bz h) {o0 : Nat} {v1 : Int} (ho0 : q_isT o0) :
    q_M Γ q_K 155 125 [(2, Int.ofNat o0), (0, v1)] h (fun t w h' => (t = 1 ∧ (∃ r, w = ((2, Int.ofNat r) : q_V) ∧ q_isA r ∧ (r = o0 + 1 ∨ r = o0 + 3 ∨ r = o0 + 5)) ∧ h' = h)) := by
  obtain ⟨fo00, fo01, fo02, fo03, fo04, fo05, fo06, fo07, fo08, fo09, fo010⟩ := q_fT ho0
  refine q_M.of (by decide) (Nat.le_of_ble_eq_true rfl) hG ?_
  refine r_iload_n c125_0 rfl rfl ?_
  refine r_if_ne c125_1 rfl (by first | exact q_w32_id (by omega) (by omega) | exact q_w32w _ | exact rfl) ?_ ?_
  · intro b1
    refine r_iload_n c125_9 rfl rfl ?_
    refine r_iconst c125_10 rfl ?_
    refine r_ic_ne c125_11 rfl (by first | exact q_w32_id (by omega) (by omega) | exact q_w32w _ | exact rfl) (show q_w32 (1) = 1 from rfl) ?_ ?_
    · intro b2
      refine r_aload_n c125_21 rfl rfl ?_
      refine r_getr c125_22 (by first | assumption | omega) (by decide) (by first | assumption | rfl) rfl rfl ?_
      exact r_aret c125_25 ⟨rfl, rfl, rfl⟩ ⟨rfl, ⟨_, rfl, (by first | assumption | exact q_hC (by assumption) | exact q_h1 (by assumption) | exact q_h3 (by assumption) | exact q_h5 (by assumption) | exact q_hG (by assumption) | exact q_hP | exact q_hB1 | exact q_hB2 | exact q_hT6 | exact q_hT15 | exact q_hT24), (by omega)⟩, rfl⟩
    · intro b2
      refine r_aload_n c125_14 rfl rfl ?_
      refine r_getr c125_15 (by first | assumption | omega) (by decide) (by first | assumption | rfl) rfl rfl ?_
      refine r_goto c125_18 ?_
      exact r_aret c125_25 ⟨rfl, rfl, rfl⟩ ⟨rfl, ⟨_, rfl, (by first | assumption | exact q_hC (by assumption) | exact q_h1 (by assumption) | exact q_h3 (by assumption) | exact q_h5 (by assumption) | exact q_hG (by assumption) | exact q_hP | exact q_hB1 | exact q_hB2 | exact q_hT6 | exact q_hT15 | exact q_hT24), (by omega)⟩, rfl⟩
  · intro b1
    refine r_aload_n c125_4 rfl rfl ?_
    refine r_getr c125_5 (by first | assumption | omega) (by decide) (by first | assumption | rfl) rfl rfl ?_
    exact r_aret c125_8 ⟨rfl, rfl, rfl⟩ ⟨rfl, ⟨_, rfl, (by first | assumption | exact q_hC (by assumption) | exact q_h1 (by assumption) | exact q_h3 (by assumption) | exact q_h5 (by assumption) | exact q_hG (by assumption) | exact q_hP | exact q_hB1 | exact q_hB2 | exact q_hT6 | exact q_hT15 | exact q_hT24), (by omega)⟩, rfl⟩
theorem c127_0 : q_cat 127 0 (.aload_n 0) 1 0 0 (0) := ⟨rfl, rfl⟩
theorem c127_1 : q_cat 127 1 (.getfield 12) 3 6 0 (3) := ⟨rfl, rfl⟩
theorem c127_4 : q_cat 127 4 (.aload_n 1) 1 1 0 (0) := ⟨rfl, rfl⟩
theorem c127_5 : q_cat 127 5 (.getfield 12) 3 6 0 (3) := ⟨rfl, rfl⟩
theorem c127_8 : q_cat 127 8 (.invokevirtual 69) 3 46 0 (0) := ⟨rfl, rfl⟩
theorem c127_11 : q_cat 127 11 (.aload_n 0) 1 0 0 (0) := ⟨rfl, rfl⟩
theorem c127_12 : q_cat 127 12 (.getfield 18) 3 6 1 (3) := ⟨rfl, rfl⟩
theorem c127_15 : q_cat 127 15 (.aload_n 1) 1 1 0 (0) := ⟨rfl, rfl⟩
theorem c127_16 : q_cat 127 16 (.getfield 18) 3 6 1 (3) := ⟨rfl, rfl⟩
theorem c127_19 : q_cat 127 19 (.invokevirtual 69) 3 46 0 (0) := ⟨rfl, rfl⟩
theorem c127_22 : q_cat 127 22 (.aload_n 0) 1 0 0 (0) := ⟨rfl, rfl⟩
theorem c127_23 : q_cat 127 23 (.getfield 21) 3 6 2 (3) := ⟨rfl, rfl⟩
theorem c127_26 : q_cat 127 26 (.aload_n 1) 1 1 0 (0) := ⟨rfl, rfl⟩
theorem c127_27 : q_cat 127 27 (.getfield 21) 3 6 2 (3) := ⟨rfl, rfl⟩
theorem c127_30 : q_cat 127 30 (.invokevirtual 69) 3 46 0 (0) := ⟨rfl, rfl⟩
theorem c127_33 : q_cat 127 33 (.aload_n 0) 1 0 0 (0) := ⟨rfl, rfl⟩
theorem c127_34 : q_cat 127 34 (.getfield 27) 3 6 3 (3) := ⟨rfl, rfl⟩
theorem c127_37 : q_cat 127 37 (.aload_n 1) 1 1 0 (0) := ⟨rfl, rfl⟩
theorem c127_38 : q_cat 127 38 (.getfield 27) 3 6 3 (3) := ⟨rfl, rfl⟩
theorem c127_41 : q_cat 127 41 (.invokevirtual 73) 3 144 0 (0) := ⟨rfl, rfl⟩
theorem c127_44 : q_cat 127 44 (.aload_n 0) 1 0 0 (0) := ⟨rfl, rfl⟩
theorem c127_45 : q_cat 127 45 (.aload_n 1) 1 1 0 (0) := ⟨rfl, rfl⟩
theorem c127_46 : q_cat 127 46 (.getfield 31) 3 6 4 (0) := ⟨rfl, rfl⟩
theorem c127_49 : q_cat 127 49 (.putfield 31) 3 6 4 (0) := ⟨rfl, rfl⟩
theorem c127_52 : q_cat 127 52 (.aload_n 0) 1 0 0 (0) := ⟨rfl, rfl⟩
theorem c127_53 : q_cat 127 53 (.aload_n 1) 1 1 0 (0) := ⟨rfl, rfl⟩
theorem c127_54 : q_cat 127 54 (.getfield 49) 3 6 5 (1) := ⟨rfl, rfl⟩
theorem c127_57 : q_cat 127 57 (.putfield 49) 3 6 5 (1) := ⟨rfl, rfl⟩
theorem c127_60 : q_cat 127 60 (.aload_n 0) 1 0 0 (0) := ⟨rfl, rfl⟩
theorem c127_61 : q_cat 127 61 (.aload_n 1) 1 1 0 (0) := ⟨rfl, rfl⟩
theorem c127_62 : q_cat 127 62 (.getfield 53) 3 6 6 (1) := ⟨rfl, rfl⟩
theorem c127_65 : q_cat 127 65 (.putfield 53) 3 6 6 (1) := ⟨rfl, rfl⟩
theorem c127_68 : q_cat 127 68 (.aload_n 0) 1 0 0 (0) := ⟨rfl, rfl⟩
theorem c127_69 : q_cat 127 69 (.aload_n 1) 1 1 0 (0) := ⟨rfl, rfl⟩
theorem c127_70 : q_cat 127 70 (.getfield 56) 3 6 7 (0) := ⟨rfl, rfl⟩
theorem c127_73 : q_cat 127 73 (.putfield 56) 3 6 7 (0) := ⟨rfl, rfl⟩
theorem c127_76 : q_cat 127 76 (.aload_n 0) 1 0 0 (0) := ⟨rfl, rfl⟩
theorem c127_77 : q_cat 127 77 (.aload_n 1) 1 1 0 (0) := ⟨rfl, rfl⟩
theorem c127_78 : q_cat 127 78 (.getfield 59) 3 6 8 (2) := ⟨rfl, rfl⟩
theorem c127_81 : q_cat 127 81 (.putfield 59) 3 6 8 (2) := ⟨rfl, rfl⟩
theorem c127_84 : q_cat 127 84 (.aload_n 0) 1 0 0 (0) := ⟨rfl, rfl⟩
theorem c127_85 : q_cat 127 85 (.aload_n 1) 1 1 0 (0) := ⟨rfl, rfl⟩
theorem c127_86 : q_cat 127 86 (.getfield 63) 3 6 9 (2) := ⟨rfl, rfl⟩
theorem c127_89 : q_cat 127 89 (.putfield 63) 3 6 9 (2) := ⟨rfl, rfl⟩
theorem c127_92 : q_cat 127 92 (.aload_n 0) 1 0 0 (0) := ⟨rfl, rfl⟩
theorem c127_93 : q_cat 127 93 (.aload_n 1) 1 1 0 (0) := ⟨rfl, rfl⟩
theorem c127_94 : q_cat 127 94 (.getfield 66) 3 6 10 (2) := ⟨rfl, rfl⟩
theorem c127_97 : q_cat 127 97 (.putfield 66) 3 6 10 (2) := ⟨rfl, rfl⟩
theorem c127_100 : q_cat 127 100 (.return_) 1 0 0 (0) := ⟨rfl, rfl⟩
theorem k127 {Γ : q_Γ} (hG : q_GG Γ) {h : q_F} (hZ : q_Bz h) {o0 : Nat} {o1 : Nat} (ho0 : q_isT o0) (ho1 : q_isT o1) :
    q_M Γ q_K 155 127 [(2, Int.ofNat o0), (2, Int.ofNat o1)] h (fun t w h' => (t = 0 ∧ q_Fr (fun k => o0 ≤ k ∧ k ≤ o0 + 8) h h')) := by
  obtain ⟨fo00, fo01, fo02, fo03, fo04, fo05, fo06, fo07, fo08, fo09, fo010⟩ := q_fT ho0
  obtain ⟨fo10, fo11, fo12, fo13, fo14, fo15, fo16, fo17, fo18, fo19, fo110⟩ := q_fT ho1
  refine q_M.of (by decide) (Nat.le_of_ble_eq_true rfl) hG ?_
  refine r_aload_n c127_0 rfl rfl ?_
  refine r_getr c127_1 (by first | assumption | omega) (by decide) (by first | assumption | rfl) rfl rfl ?_
  refine r_aload_n c127_4 rfl rfl ?_
  refine r_getr c127_5 (by first | assumption | omega) (by decide) (by first | assumption | rfl) rfl rfl ?_
  refine r_vcG c127_8 (by first | assumption | omega) (by decide) (by first | assumption | rfl) rfl rfl rfl (k46 hG (q_Fr.bz (S := fun k => o0 ≤ k ∧ k ≤ o0 + 8) hZ (by repeat (first | exact q_Fr.rf | refine q_Fr.ud ?_ (by omega) (by first | assumption | rfl) rfl | refine q_Fr.udz ?_ (by omega) (by first | assumption | decide | omega) | refine q_Fr.tr ?_ (by assumption) (by intro k9 hk9; omega)))) (by first | assumption | exact q_hC (by assumption) | exact q_h1 (by assumption) | exact q_h3 (by assumption) | exact q_h5 (by assumption) | exact q_hG (by assumption) | exact q_hP | exact q_hB1 | exact q_hB2 | exact q_hT6 | exact q_hT15 | exact q_hT24) (by first | assumption | exact q_hC (by assumption) | exact q_h1 (by assumption) | exact q_h3 (by assumption) | exact q_h5 (by assumption) | exact q_hG (by assumption) | exact q_hP | exact q_hB1 | exact q_hB2 | exact q_hT6 | exact q_hT15 | exact q_hT24)) ?_
  intro t1 w1 g1 p1
  obtain ⟨rfl, e1⟩ := p1
  refine Or.inl ⟨rfl, ?_⟩
  refine r_aload_n c127_11 rfl rfl ?_
  refine r_getr c127_12 (by first | assumption | omega) (by decide) (by first | assumption | rfl) rfl rfl ?_
  refine r_aload_n c127_15 rfl rfl ?_
  refine r_getr c127_16 (by first | assumption | omega) (by decide) (by first | assumption | rfl) rfl rfl ?_
  refine r_vcG c127_19 (by first | assumption | omega) (by decide) (by first | assumption | rfl) rfl rfl rfl (k46 hG (q_Fr.bz (S := fun k => o0 ≤ k ∧ k ≤ o0 + 8) hZ (by repeat (first | exact q_Fr.rf | refine q_Fr.ud ?_ (by omega) (by first | assumption | rfl) rfl | refine q_Fr.udz ?_ (by omega) (by first | assumption | decide | omega) | refine q_Fr.tr ?_ (by assumption) (by intro k9 hk9; omega)))) (by first | assumption | exact q_hC (by assumption) | exact q_h1 (by assumption) | exact q_h3 (by assumption) | exact q_h5 (by assumption) | exact q_hG (by assumption) | exact q_hP | exact q_hB1 | exact q_hB2 | exact q_hT6 | exact q_hT15 | exact q_hT24) (by first | assumption | exact q_hC (by assumption) | exact q_h1 (by assumption) | exact q_h3 (by assumption) | exact q_h5 (by assumption) | exact q_hG (by assumption) | exact q_hP | exact q_hB1 | exact q_hB2 | exact q_hT6 | exact q_hT15 | exact q_hT24)) ?_
  intro t2 w2 g2 p2
  obtain ⟨rfl, e2⟩ := p2
  refine Or.inl ⟨rfl, ?_⟩
  refine r_aload_n c127_22 rfl rfl ?_
  refine r_getr c127_23 (by first | assumption | omega) (by decide) (by first | assumption | rfl) rfl rfl ?_
  refine r_aload_n c127_26 rfl rfl ?_
  refine r_getr c127_27 (by first | assumption | omega) (by decide) (by first | assumption | rfl) rfl rfl ?_
  refine r_vcG c127_30 (by first | assumption | omega) (by decide) (by first | assumption | rfl) rfl rfl rfl (k46 hG (q_Fr.bz (S := fun k => o0 ≤ k ∧ k ≤ o0 + 8) hZ (by repeat (first | exact q_Fr.rf | refine q_Fr.ud ?_ (by omega) (by first | assumption | rfl) rfl | refine q_Fr.udz ?_ (by omega) (by first | assumption | decide | omega) | refine q_Fr.tr ?_ (by assumption) (by intro k9 hk9; omega)))) (by first | assumption | exact q_hC (by assumption) | exact q_h1 (by assumption) | exact q_h3 (by assumption) | exact q_h5 (by assumption) | exact q_hG (by assumption) | exact q_hP | exact q_hB1 | exact q_hB2 | exact q_hT6 | exact q_hT15 | exact q_hT24) (by first | assumption | exact q_hC (by assumption) | exact q_h1 (by assumption) | exact q_h3 (by assumption) | exact q_h5 (by assumption) | exact q_hG (by assumption) | exact q_hP | exact q_hB1 | exact q_hB2 | exact q_hT6 | exact q_hT15 | exact q_hT24)) ?_
  intro t3 w3 g3 p3
  obtain ⟨rfl, e3⟩ := p3
  refine Or.inl ⟨rfl, ?_⟩
  refine r_aload_n c127_33 rfl rfl ?_
  refine r_getr c127_34 (by first | assumption | omega) (by decide) (by first | assumption | rfl) rfl rfl ?_
  refine r_aload_n c127_37 rfl rfl ?_
  refine r_getr c127_38 (by first | assumption | omega) (by decide) (by first | assumption | rfl) rfl rfl ?_
  refine r_vcG c127_41 (by first | assumption | omega) (by decide) (by first | assumption | rfl) rfl rfl rfl (k144 hG (q_Fr.bz (S := fun k => o0 ≤ k ∧ k ≤ o0 + 8) hZ (by repeat (first | exact q_Fr.rf | refine q_Fr.ud ?_ (by omega) (by first | assumption | rfl) rfl | refine q_Fr.udz ?_ (by omega) (by first | assumption | decide | omega) | refine q_Fr.tr ?_ (by assumption) (by intro k9 hk9; omega)))) (by first | assumption | exact q_hC (by assumption) | exact q_h1 (by assumption) | exact q_h3 (by assumption) | exact q_h5 (by assumption) | exact q_hG (by assumption) | exact q_hP | exact q_hB1 | exact q_hB2 | exact q_hT6 | exact q_hT15 | exact q_hT24) (by first | assumption | exact q_hC (by assumption) | exact q_h1 (by assumption) | exact q_h3 (by assumption) | exact q_h5 (by assumption) | exact q_hG (by assumption) | exact q_hP | exact q_hB1 | exact q_hB2 | exact q_hT6 | exact q_hT15 | exact q_hT24)) ?_
  intro t4 w4 g4 p4
  obtain ⟨rfl, e4⟩ := p4
  refine Or.inl ⟨rfl, ?_⟩
  refine r_aload_n c127_44 rfl rfl ?_
  refine r_aload_n c127_45 rfl rfl ?_
  refine r_geti c127_46 (by first | assumption | omega) (by decide) (by first | assumption | rfl) rfl rfl ?_
  refine r_puti c127_49 (by first | assumption | omega) (by decide) (by first | assumption | rfl) rfl rfl rfl ?_
  refine r_aload_n c127_52 rfl rfl ?_
  refine r_aload_n c127_53 rfl rfl ?_
  refine r_getz (q_Fr.bz (S := fun k => o0 ≤ k ∧ k ≤ o0 + 8) hZ (by repeat (first | exact q_Fr.rf | refine q_Fr.ud ?_ (by omega) (by first | assumption | rfl) rfl | refine q_Fr.udz ?_ (by omega) (by first | assumption | decide | omega) | refine q_Fr.tr ?_ (by assumption) (by intro k9 hk9; omega)))) c127_54 (by first | assumption | omega) (by decide) (by first | assumption | rfl) rfl rfl rfl ?_
  intro z5
  refine r_puti c127_57 (by first | assumption | omega) (by decide) (by first | assumption | rfl) rfl (q_fit_b (by first | assumption | omega)) rfl ?_
  refine r_aload_n c127_60 rfl rfl ?_
  refine r_aload_n c127_61 rfl rfl ?_
  refine r_getz (q_Fr.bz (S := fun k => o0 ≤ k ∧ k ≤ o0 + 8) hZ (by repeat (first | exact q_Fr.rf | refine q_Fr.ud ?_ (by omega) (by first | assumption | rfl) rfl | refine q_Fr.udz ?_ (by omega) (by first | assumption | decide | omega) | refine q_Fr.tr ?_ (by assumption) (by intro k9 hk9; omega)))) c127_62 (by first | assumption | omega) (by decide) (by first | assumption | rfl) rfl rfl rfl ?_
  intro z6
  refine r_puti c127_65 (by first | assumption | omega) (by decide) (by first | assumption | rfl) rfl (q_fit_b (by first | assumption | omega)) rfl ?_
  refine r_aload_n c127_68 rfl rfl ?_
  refine r_aload_n c127_69 rfl rfl ?_
  refine r_geti c127_70 (by first | assumption | omega) (by decide) (by first | assumption | rfl) rfl rfl ?_
  refine r_puti c127_73 (by first | assumption | omega) (by decide) (by first | assumption | rfl) rfl rfl rfl ?_
  refine r_aload_n c127_76 rfl rfl ?_
  refine r_aload_n c127_77 rfl rfl ?_
  refine r_getl c127_78 (by first | assumption | omega) (by decide) (by first | assumption | rfl) rfl rfl ?_
  refine r_putl c127_81 (by first | assumption | omega) (by decide) (by first | assumption | rfl) rfl rfl rfl ?_
  refine r_aload_n c127_84 rfl rfl ?_
  refine r_aload_n c127_85 rfl rfl ?_
  refine r_getl c127_86 (by first | assumption | omega) (by decide) (by first | assumption | rfl) rfl rfl ?_
  refine r_putl c127_89 (by first | assumption | omega) (by decide) (by first | assumption | rfl) rfl rfl rfl ?_
  refine r_aload_n c127_92 rfl rfl ?_
  refine r_aload_n c127_93 rfl rfl ?_
  refine r_getl c127_94 (by first | assumption | omega) (by decide) (by first | assumption | rfl) rfl rfl ?_
  refine r_putl c127_97 (by first | assumption | omega) (by decide) (by first | assumption | rfl) rfl rfl rfl ?_
  exact r_vret c127_100 ⟨rfl, rfl, rfl⟩ ⟨rfl, (by repeat (first | exact q_Fr.rf | refine q_Fr.ud ?_ (by omega) (by first | assumption | rfl) rfl | refine q_Fr.udz ?_ (by omega) (by first | assumption | decide | omega) | refine q_Fr.tr ?_ (by assumption) (by intro k9 hk9; omega)))⟩
theorem c132_0 : q_cat 132 0 (.aload_n 0) 1 0 0 (0) := ⟨rfl, rfl⟩
theorem c132_1 : q_cat 132 1 (.getfield 12) 3 6 0 (3) := ⟨rfl, rfl⟩
theorem c132_4 : q_cat 132 4 (.getfield 76) 3 1 11 (1) := ⟨rfl, rfl⟩
theorem c132_7 : q_cat 132 7 (.ifCond .eq 7) 3 14 0 (0) := ⟨rfl, rfl⟩
theorem c132_10 : q_cat 132 10 (.iconst 1) 1 0 0 (0) := ⟨rfl, rfl⟩
theorem c132_11 : q_cat 132 11 (.goto 4) 3 15 0 (0) := ⟨rfl, rfl⟩
theorem c132_14 : q_cat 132 14 (.iconst 0) 1 0 0 (0) := ⟨rfl, rfl⟩
theorem c132_15 : q_cat 132 15 (.aload_n 0) 1 0 0 (0) := ⟨rfl, rfl⟩
theorem c132_16 : q_cat 132 16 (.getfield 18) 3 6 1 (3) := ⟨rfl, rfl⟩
theorem c132_19 : q_cat 132 19 (.getfield 76) 3 1 11 (1) := ⟨rfl, rfl⟩
theorem c132_22 : q_cat 132 22 (.ifCond .eq 7) 3 29 0 (0) := ⟨rfl, rfl⟩
theorem c132_25 : q_cat 132 25 (.iconst 1) 1 0 0 (0) := ⟨rfl, rfl⟩
theorem c132_26 : q_cat 132 26 (.goto 4) 3 30 0 (0) := ⟨rfl, rfl⟩
theorem c132_29 : q_cat 132 29 (.iconst 0) 1 0 0 (0) := ⟨rfl, rfl⟩
theorem c132_30 : q_cat 132 30 (.iadd) 1 0 0 (0) := ⟨rfl, rfl⟩
theorem c132_31 : q_cat 132 31 (.aload_n 0) 1 0 0 (0) := ⟨rfl, rfl⟩
theorem c132_32 : q_cat 132 32 (.getfield 21) 3 6 2 (3) := ⟨rfl, rfl⟩
theorem c132_35 : q_cat 132 35 (.getfield 76) 3 1 11 (1) := ⟨rfl, rfl⟩
theorem c132_38 : q_cat 132 38 (.ifCond .eq 7) 3 45 0 (0) := ⟨rfl, rfl⟩
theorem c132_41 : q_cat 132 41 (.iconst 1) 1 0 0 (0) := ⟨rfl, rfl⟩
theorem c132_42 : q_cat 132 42 (.goto 4) 3 46 0 (0) := ⟨rfl, rfl⟩
theorem c132_45 : q_cat 132 45 (.iconst 0) 1 0 0 (0) := ⟨rfl, rfl⟩
theorem c132_46 : q_cat 132 46 (.iadd) 1 0 0 (0) := ⟨rfl, rfl⟩
theorem c132_47 : q_cat 132 47 (.ireturn) 1 0 0 (0) := ⟨rfl, rfl⟩
theorem k132 {Γ : q_Γ} (hG : q_GG Γ) {h : q_F} (hZ : q_Bz h) {o0 : Nat} (ho0 : q_isT o0) :
    q_M Γ q_K 155 132 [(2, Int.ofNat o0)] h (fun t w h' => (t = 1 ∧ (∃ z, w = ((0, z) : q_V)) ∧ h' = h)) := by
  obtain ⟨fo00, fo01, fo02, fo03, fo04, fo05, fo06, fo07, fo08, fo09, fo010⟩ := q_fT ho0
  refine q_M.of (by decide) (Nat.le_of_ble_eq_true rfl) hG ?_
  refine r_aload_n c132_0 rfl rfl ?_
  refine r_getr c132_1 (by first | assumption | omega) (by decide) (by first | assumption | rfl) rfl rfl ?_
  refine r_getz hZ c132_4 (by first | assumption | omega) (by decide) (by first | assumption | rfl) rfl rfl rfl ?_
  intro z1
  refine r_if_eq c132_7 rfl (by first | exact q_w32_id (by omega) (by omega) | exact q_w32w _ | exact rfl) ?_ ?_
  · intro b2
    refine r_iconst c132_14 rfl ?_
    refine r_aload_n c132_15 rfl rfl ?_
    refine r_getr c132_16 (by first | assumption | omega) (by decide) (by first | assumption | rfl) rfl rfl ?_
    refine r_getz hZ c132_19 (by first | assumption | omega) (by decide) (by first | assumption | rfl) rfl rfl rfl ?_
    intro z3
    refine r_if_eq c132_22 rfl (by first | exact q_w32_id (by omega) (by omega) | exact q_w32w _ | exact rfl) ?_ ?_
    · intro b4
      refine r_iconst c132_29 rfl ?_
      refine r_iadd c132_30 (by first | exact q_w32_id (by omega) (by omega) | exact q_w32w _ | exact rfl) rfl ?_
      refine r_aload_n c132_31 rfl rfl ?_
      refine r_getr c132_32 (by first | assumption | omega) (by decide) (by first | assumption | rfl) rfl rfl ?_
      refine r_getz hZ c132_35 (by first | assumption | omega) (by decide) (by first | assumption | rfl) rfl rfl rfl ?_
      intro z5
      refine r_if_eq c132_38 rfl (by first | exact q_w32_id (by omega) (by omega) | exact q_w32w _ | exact rfl) ?_ ?_
      · intro b6
        refine r_iconst c132_45 rfl ?_
        refine r_iadd c132_46 (by first | exact q_w32_id (by omega) (by omega) | exact q_w32w _ | exact rfl) rfl ?_
        exact r_iret c132_47 ⟨rfl, rfl, rfl⟩ ⟨rfl, ⟨_, rfl⟩, rfl⟩
      · intro b6
        refine r_iconst c132_41 rfl ?_
        refine r_goto c132_42 ?_
        refine r_iadd c132_46 (by first | exact q_w32_id (by omega) (by omega) | exact q_w32w _ | exact rfl) rfl ?_
        exact r_iret c132_47 ⟨rfl, rfl, rfl⟩ ⟨rfl, ⟨_, rfl⟩, rfl⟩
    · intro b4
      refine r_iconst c132_25 rfl ?_
      refine r_goto c132_26 ?_
      refine r_iadd c132_30 (by first | exact q_w32_id (by omega) (by omega) | exact q_w32w _ | exact rfl) rfl ?_
      refine r_aload_n c132_31 rfl rfl ?_
      refine r_getr c132_32 (by first | assumption | omega) (by decide) (by first | assumption | rfl) rfl rfl ?_
      refine r_getz hZ c132_35 (by first | assumption | omega) (by decide) (by first | assumption | rfl) rfl rfl rfl ?_
      intro z7
      refine r_if_eq c132_38 rfl (by first | exact q_w32_id (by omega) (by omega) | exact q_w32w _ | exact rfl) ?_ ?_
      · intro b8
        refine r_iconst c132_45 rfl ?_
        refine r_iadd c132_46 (by first | exact q_w32_id (by omega) (by omega) | exact q_w32w _ | exact rfl) rfl ?_
        exact r_iret c132_47 ⟨rfl, rfl, rfl⟩ ⟨rfl, ⟨_, rfl⟩, rfl⟩
      · intro b8
        refine r_iconst c132_41 rfl ?_
        refine r_goto c132_42 ?_
        refine r_iadd c132_46 (by first | exact q_w32_id (by omega) (by omega) | exact q_w32w _ | exact rfl) rfl ?_
        exact r_iret c132_47 ⟨rfl, rfl, rfl⟩ ⟨rfl, ⟨_, rfl⟩, rfl⟩
  · intro b2
    refine r_iconst c132_10 rfl ?_
    refine r_goto c132_11 ?_
    refine r_aload_n c132_15 rfl rfl ?_
    refine r_getr c132_16 (by first | assumption | omega) (by decide) (by first | assumption | rfl) rfl rfl ?_
    refine r_getz hZ c132_19 (by first | assumption | omega) (by decide) (by first | assumption | rfl) rfl rfl rfl ?_
    intro z9
    refine r_if_eq c132_22 rfl (by first | exact q_w32_id (by omega) (by omega) | exact q_w32w _ | exact rfl) ?_ ?_
    · intro b10
      refine r_iconst c132_29 rfl ?_
      refine r_iadd c132_30 (by first | exact q_w32_id (by omega) (by omega) | exact q_w32w _ | exact rfl) rfl ?_
      refine r_aload_n c132_31 rfl rfl ?_
      refine r_getr c132_32 (by first | assumption | omega) (by decide) (by first | assumption | rfl) rfl rfl ?_
      refine r_getz hZ c132_35 (by first | assumption | omega) (by decide) (by first | assumption | rfl) rfl rfl rfl ?_
      intro z11
      refine r_if_eq c132_38 rfl (by first | exact q_w32_id (by omega) (by omega) | exact q_w32w _ | exact rfl) ?_ ?_
      · intro b12
        refine r_iconst c132_45 rfl ?_
        refine r_iadd c132_46 (by first | exact q_w32_id (by omega) (by omega) | exact q_w32w _ | exact rfl) rfl ?_
        exact r_iret c132_47 ⟨rfl, rfl, rfl⟩ ⟨rfl, ⟨_, rfl⟩, rfl⟩
      · intro b12
        refine r_iconst c132_41 rfl ?_
        refine r_goto c132_42 ?_
        refine r_iadd c132_46 (by first | exact q_w32_id (by omega) (by omega) | exact q_w32w _ | exact rfl) rfl ?_
        exact r_iret c132_47 ⟨rfl, rfl, rfl⟩ ⟨rfl, ⟨_, rfl⟩, rfl⟩
    · intro b10
      refine r_iconst c132_25 rfl ?_
      refine r_goto c132_26 ?_
      refine r_iadd c132_30 (by first | exact q_w32_id (by omega) (by omega) | exact q_w32w _ | exact rfl) rfl ?_
      refine r_aload_n c132_31 rfl rfl ?_
      refine r_getr c132_32 (by first | assumption | omega) (by decide) (by first | assumption | rfl) rfl rfl ?_
      refine r_getz hZ c132_35 (by first | assumption | omega) (by decide) (by first | assumption | rfl) rfl rfl rfl ?_
      intro z13
      refine r_if_eq c132_38 rfl (by first | exact q_w32_id (by omega) (by omega) | exact q_w32w _ | exact rfl) ?_ ?_
      · intro b14
        refine r_iconst c132_45 rfl ?_
        refine r_iadd c132_46 (by first | exact q_w32_id (by omega) (by omega) | exact q_w32w _ | exact rfl) rfl ?_
        exact r_iret c132_47 ⟨rfl, rfl, rfl⟩ ⟨rfl, ⟨_, rfl⟩, rfl⟩
      · intro b14
        refine r_iconst c132_41 rfl ?_
        refine r_goto c132_42 ?_
        refine r_iadd c132_46 (by first | exact q_w32_id (by omega) (by omega) | exact q_w32w _ | exact rfl) rfl ?_
        exact r_iret c132_47 ⟨rfl, rfl, rfl⟩ ⟨rfl, ⟨_, rfl⟩, rfl⟩
theorem c136_0 : q_cat 136 0 (.aload_n 0) 1 0 0 (0) := ⟨rfl, rfl⟩
theorem c136_1 : q_cat 136 1 (.getfield 12) 3 6 0 (3) := ⟨rfl, rfl⟩
theorem c136_4 : q_cat 136 4 (.getfield 79) 3 1 14 (3) := ⟨rfl, rfl⟩
theorem c136_7 : q_cat 136 7 (.getfield 83) 3 0 2 (0) := ⟨rfl, rfl⟩
theorem c136_10 : q_cat 136 10 (.aload_n 0) 1 0 0 (0) := ⟨rfl, rfl⟩
theorem c136_11 : q_cat 136 11 (.getfield 18) 3 6 1 (3) := ⟨rfl, rfl⟩
theorem c136_14 : q_cat 136 14 (.getfield 79) 3 1 14 (3) := ⟨rfl, rfl⟩
theorem c136_17 : q_cat 136 17 (.getfield 83) 3 0 2 (0) := ⟨rfl, rfl⟩
theorem c136_20 : q_cat 136 20 (.iadd) 1 0 0 (0) := ⟨rfl, rfl⟩
theorem c136_21 : q_cat 136 21 (.aload_n 0) 1 0 0 (0) := ⟨rfl, rfl⟩
theorem c136_22 : q_cat 136 22 (.getfield 21) 3 6 2 (3) := ⟨rfl, rfl⟩
theorem c136_25 : q_cat 136 25 (.getfield 79) 3 1 14 (3) := ⟨rfl, rfl⟩
theorem c136_28 : q_cat 136 28 (.getfield 83) 3 0 2 (0) := ⟨rfl, rfl⟩
theorem c136_31 : q_cat 136 31 (.iadd) 1 0 0 (0) := ⟨rfl, rfl⟩
theorem c136_32 : q_cat 136 32 (.ireturn) 1 0 0 (0) := ⟨rfl, rfl⟩
theorem k136 {Γ : q_Γ} (hG : q_GG Γ) {h : q_F} (hZ : q_Bz h) {o0 : Nat} (ho0 : q_isT o0) :
    q_M Γ q_K 155 136 [(2, Int.ofNat o0)] h (fun t w h' => (t = 1 ∧ (∃ z, w = ((0, z) : q_V)) ∧ h' = h)) := by
  obtain ⟨fo00, fo01, fo02, fo03, fo04, fo05, fo06, fo07, fo08, fo09, fo010⟩ := q_fT ho0
  refine q_M.of (by decide) (Nat.le_of_ble_eq_true rfl) hG ?_
  refine r_aload_n c136_0 rfl rfl ?_
  refine r_getr c136_1 (by first | assumption | omega) (by decide) (by first | assumption | rfl) rfl rfl ?_
  refine r_getr c136_4 (by first | assumption | omega) (by decide) (by first | assumption | rfl) rfl rfl ?_
  refine r_geti c136_7 (by first | assumption | omega) (by decide) (by first | assumption | rfl) rfl rfl ?_
  refine r_aload_n c136_10 rfl rfl ?_
  refine r_getr c136_11 (by first | assumption | omega) (by decide) (by first | assumption | rfl) rfl rfl ?_
  refine r_getr c136_14 (by first | assumption | omega) (by decide) (by first | assumption | rfl) rfl rfl ?_
  refine r_geti c136_17 (by first | assumption | omega) (by decide) (by first | assumption | rfl) rfl rfl ?_
  refine r_iadd c136_20 (by first | exact q_w32_id (by omega) (by omega) | exact q_w32w _ | exact rfl) rfl ?_
  refine r_aload_n c136_21 rfl rfl ?_
  refine r_getr c136_22 (by first | assumption | omega) (by decide) (by first | assumption | rfl) rfl rfl ?_
  refine r_getr c136_25 (by first | assumption | omega) (by decide) (by first | assumption | rfl) rfl rfl ?_
  refine r_geti c136_28 (by first | assumption | omega) (by decide) (by first | assumption | rfl) rfl rfl ?_
  refine r_iadd c136_31 (by first | exact q_w32_id (by omega) (by omega) | exact q_w32w _ | exact rfl) rfl ?_
  exact r_iret c136_32 ⟨rfl, rfl, rfl⟩ ⟨rfl, ⟨_, rfl⟩, rfl⟩
theorem c129_0 : q_cat 129 0 (.aload_n 1) 1 1 0 (0) := ⟨rfl, rfl⟩
theorem c129_1 : q_cat 129 1 (.getfield 88) 3 7 1 (0) := ⟨rfl, rfl⟩
theorem c129_4 : q_cat 129 4 (.ifCond .le 17) 3 21 0 (0) := ⟨rfl, rfl⟩
theorem c129_7 : q_cat 129 7 (.aload_n 1) 1 1 0 (0) := ⟨rfl, rfl⟩
theorem c129_8 : q_cat 129 8 (.aload_n 1) 1 1 0 (0) := ⟨rfl, rfl⟩
theorem c129_9 : q_cat 129 9 (.getfield 88) 3 7 1 (0) := ⟨rfl, rfl⟩
theorem c129_12 : q_cat 129 12 (.iconst 1) 1 0 0 (0) := ⟨rfl, rfl⟩
theorem c129_13 : q_cat 129 13 (.isub) 1 0 0 (0) := ⟨rfl, rfl⟩
theorem c129_14 : q_cat 129 14 (.iload_n 2) 1 2 0 (0) := ⟨rfl, rfl⟩
theorem c129_15 : q_cat 129 15 (.invokevirtual 91) 3 148 0 (0) := ⟨rfl, rfl⟩
theorem c129_18 : q_cat 129 18 (.goto 11) 3 29 0 (0) := ⟨rfl, rfl⟩
theorem c129_21 : q_cat 129 21 (.aload_n 0) 1 0 0 (0) := ⟨rfl, rfl⟩
theorem c129_22 : q_cat 129 22 (.iload_n 2) 1 2 0 (0) := ⟨rfl, rfl⟩
theorem c129_23 : q_cat 129 23 (.invokevirtual 95) 3 125 0 (0) := ⟨rfl, rfl⟩
theorem c129_26 : q_cat 129 26 (.getfield 99) 3 1 12 (0) := ⟨rfl, rfl⟩
theorem c129_29 : q_cat 129 29 (.ireturn) 1 0 0 (0) := ⟨rfl, rfl⟩
theorem k129 {Γ : q_Γ} (hG : q_GG Γ) {h : q_F} (hZ : q_Bz h) {o0 : Nat} {o1 : Nat} {v2 : Int} (ho0 : q_isT o0) (ho1 : q_isG o1) :
    q_M Γ q_K 155 129 [(2, Int.ofNat o0), (2, Int.ofNat o1), (0, v2)] h (fun t w h' => (t = 1 ∧ (∃ z, w = ((0, z) : q_V)) ∧ h' = h)) := by
  obtain ⟨fo00, fo01, fo02, fo03, fo04, fo05, fo06, fo07, fo08, fo09, fo010⟩ := q_fT ho0
  obtain ⟨fo10, fo11, fo12, fo13⟩ := q_fG ho1
  refine q_M.of (by decide) (Nat.le_of_ble_eq_true rfl) hG ?_
  refine r_aload_n c129_0 rfl rfl ?_
  refine r_geti c129_1 (by first | assumption | omega) (by decide) (by first | assumption | rfl) rfl rfl ?_
  refine r_if_le c129_4 rfl (by first | exact q_w32_id (by omega) (by omega) | exact q_w32w _ | exact rfl) ?_ ?_
  · intro b1
    refine r_aload_n c129_21 rfl rfl ?_
    refine r_iload_n c129_22 rfl rfl ?_
    refine r_vcG c129_23 (by first | assumption | omega) (by decide) (by first | assumption | rfl) rfl rfl rfl (k125 hG hZ (by first | assumption | exact q_hC (by assumption) | exact q_h1 (by assumption) | exact q_h3 (by assumption) | exact q_h5 (by assumption) | exact q_hG (by assumption) | exact q_hP | exact q_hB1 | exact q_hB2 | exact q_hT6 | exact q_hT15 | exact q_hT24)) ?_
    intro t2 w2 g2 p2
    obtain ⟨rfl, ⟨r2, rfl, ha2, hr2⟩, rfl⟩ := p2
    obtain ⟨fr20, fr21, fr22, fr23⟩ := q_fA ha2
    refine Or.inr (Or.inl ⟨rfl, ?_⟩)
    refine r_geti c129_26 (by first | assumption | omega) (by decide) (by first | assumption | rfl) rfl rfl ?_
    exact r_iret c129_29 ⟨rfl, rfl, rfl⟩ ⟨rfl, ⟨_, rfl⟩, rfl⟩
  · intro b1
    refine r_aload_n c129_7 rfl rfl ?_
    refine r_aload_n c129_8 rfl rfl ?_
    refine r_geti c129_9 (by first | assumption | omega) (by decide) (by first | assumption | rfl) rfl rfl ?_
    refine r_iconst c129_12 rfl ?_
    refine r_isub c129_13 (by first | exact q_w32_id (by omega) (by omega) | exact q_w32w _ | exact rfl) rfl ?_
    refine r_iload_n c129_14 rfl rfl ?_
    refine r_vcG c129_15 (by first | assumption | omega) (by decide) (by first | assumption | rfl) rfl rfl rfl (k148 hG hZ (by first | assumption | exact q_hC (by assumption) | exact q_h1 (by assumption) | exact q_h3 (by assumption) | exact q_h5 (by assumption) | exact q_hG (by assumption) | exact q_hP | exact q_hB1 | exact q_hB2 | exact q_hT6 | exact q_hT15 | exact q_hT24)) ?_
    intro t3 w3 g3 p3
    obtain ⟨rfl, ⟨z3, rfl⟩, rfl⟩ := p3
    refine Or.inr (Or.inl ⟨rfl, ?_⟩)
    refine r_goto c129_18 ?_
    exact r_iret c129_29 ⟨rfl, rfl, rfl⟩ ⟨rfl, ⟨_, rfl⟩, rfl⟩
theorem c135_0 : q_cat 135 0 (.iconst 0) 1 0 0 (0) := ⟨rfl, rfl⟩
theorem c135_1 : q_cat 135 1 (.istore_n 2) 1 2 0 (0) := ⟨rfl, rfl⟩
theorem c135_2 : q_cat 135 2 (.iconst 0) 1 0 0 (0) := ⟨rfl, rfl⟩
theorem c135_3 : q_cat 135 3 (.istore_n 3) 1 3 0 (0) := ⟨rfl, rfl⟩
theorem c135_4 : q_cat 135 4 (.iload_n 3) 1 3 0 (0) := ⟨rfl, rfl⟩
theorem c135_5 : q_cat 135 5 (.aload_n 1) 1 1 0 (0) := ⟨rfl, rfl⟩
theorem c135_6 : q_cat 135 6 (.getfield 88) 3 7 1 (0) := ⟨rfl, rfl⟩
theorem c135_9 : q_cat 135 9 (.if_icmp .ge 93) 3 102 0 (0) := ⟨rfl, rfl⟩
theorem c135_12 : q_cat 135 12 (.iconst 1) 1 0 0 (0) := ⟨rfl, rfl⟩
theorem c135_13 : q_cat 135 13 (.istore 4) 2 4 0 (0) := ⟨rfl, rfl⟩
theorem c135_15 : q_cat 135 15 (.iconst 0) 1 0 0 (0) := ⟨rfl, rfl⟩
theorem c135_16 : q_cat 135 16 (.istore 5) 2 5 0 (0) := ⟨rfl, rfl⟩
theorem c135_18 : q_cat 135 18 (.iload 5) 2 5 0 (0) := ⟨rfl, rfl⟩
theorem c135_20 : q_cat 135 20 (.iconst 3) 1 0 0 (0) := ⟨rfl, rfl⟩
theorem c135_21 : q_cat 135 21 (.if_icmp .ge 60) 3 81 0 (0) := ⟨rfl, rfl⟩
theorem c135_24 : q_cat 135 24 (.iload_n 3) 1 3 0 (0) := ⟨rfl, rfl⟩
theorem c135_25 : q_cat 135 25 (.ifCond .le 15) 3 40 0 (0) := ⟨rfl, rfl⟩
theorem c135_28 : q_cat 135 28 (.aload_n 1) 1 1 0 (0) := ⟨rfl, rfl⟩
theorem c135_29 : q_cat 135 29 (.iload_n 3) 1 3 0 (0) := ⟨rfl, rfl⟩
theorem c135_30 : q_cat 135 30 (.iconst 1) 1 0 0 (0) := ⟨rfl, rfl⟩
theorem c135_31 : q_cat 135 31 (.isub) 1 0 0 (0) := ⟨rfl, rfl⟩
theorem c135_32 : q_cat 135 32 (.iload 5) 2 5 0 (0) := ⟨rfl, rfl⟩
theorem c135_34 : q_cat 135 34 (.invokevirtual 91) 3 148 0 (0) := ⟨rfl, rfl⟩
theorem c135_37 : q_cat 135 37 (.goto 12) 3 49 0 (0) := ⟨rfl, rfl⟩
theorem c135_40 : q_cat 135 40 (.aload_n 0) 1 0 0 (0) := ⟨rfl, rfl⟩
theorem c135_41 : q_cat 135 41 (.iload 5) 2 5 0 (0) := ⟨rfl, rfl⟩
theorem c135_43 : q_cat 135 43 (.invokevirtual 95) 3 125 0 (0) := ⟨rfl, rfl⟩
theorem c135_46 : q_cat 135 46 (.getfield 99) 3 1 12 (0) := ⟨rfl, rfl⟩
theorem c135_49 : q_cat 135 49 (.istore 6) 2 6 0 (0) := ⟨rfl, rfl⟩
theorem c135_51 : q_cat 135 51 (.iload 4) 2 4 0 (0) := ⟨rfl, rfl⟩
theorem c135_53 : q_cat 135 53 (.ifCond .eq 19) 3 72 0 (0) := ⟨rfl, rfl⟩
theorem c135_56 : q_cat 135 56 (.iload 6) 2 6 0 (0) := ⟨rfl, rfl⟩
theorem c135_58 : q_cat 135 58 (.aload_n 1) 1 1 0 (0) := ⟨rfl, rfl⟩
theorem c135_59 : q_cat 135 59 (.iload_n 3) 1 3 0 (0) := ⟨rfl, rfl⟩
theorem c135_60 : q_cat 135 60 (.iload 5) 2 5 0 (0) := ⟨rfl, rfl⟩
theorem c135_62 : q_cat 135 62 (.invokevirtual 91) 3 148 0 (0) := ⟨rfl, rfl⟩
theorem c135_65 : q_cat 135 65 (.if_icmp .ne 7) 3 72 0 (0) := ⟨rfl, rfl⟩
theorem c135_68 : q_cat 135 68 (.iconst 1) 1 0 0 (0) := ⟨rfl, rfl⟩
theorem c135_69 : q_cat 135 69 (.goto 4) 3 73 0 (0) := ⟨rfl, rfl⟩
theorem c135_72 : q_cat 135 72 (.iconst 0) 1 0 0 (0) := ⟨rfl, rfl⟩
theorem c135_73 : q_cat 135 73 (.istore 4) 2 4 0 (0) := ⟨rfl, rfl⟩
theorem c135_75 : q_cat 135 75 (.iinc 5 1) 3 5 0 (0) := ⟨rfl, rfl⟩
theorem c135_78 : q_cat 135 78 (.goto (-60)) 3 18 0 (0) := ⟨rfl, rfl⟩
theorem c135_81 : q_cat 135 81 (.iload_n 2) 1 2 0 (0) := ⟨rfl, rfl⟩
theorem c135_82 : q_cat 135 82 (.ifCond .ne 8) 3 90 0 (0) := ⟨rfl, rfl⟩
theorem c135_85 : q_cat 135 85 (.iload 4) 2 4 0 (0) := ⟨rfl, rfl⟩
theorem c135_87 : q_cat 135 87 (.ifCond .eq 7) 3 94 0 (0) := ⟨rfl, rfl⟩
theorem c135_90 : q_cat 135 90 (.iconst 1) 1 0 0 (0) := ⟨rfl, rfl⟩
theorem c135_91 : q_cat 135 91 (.goto 4) 3 95 0 (0) := ⟨rfl, rfl⟩
theorem c135_94 : q_cat 135 94 (.iconst 0) 1 0 0 (0) := ⟨rfl, rfl⟩
theorem c135_95 : q_cat 135 95 (.istore_n 2) 1 2 0 (0) := ⟨rfl, rfl⟩
theorem c135_96 : q_cat 135 96 (.iinc 3 1) 3 3 0 (0) := ⟨rfl, rfl⟩
theorem c135_99 : q_cat 135 99 (.goto (-95)) 3 4 0 (0) := ⟨rfl, rfl⟩
theorem c135_102 : q_cat 135 102 (.iload_n 2) 1 2 0 (0) := ⟨rfl, rfl⟩
theorem c135_103 : q_cat 135 103 (.ireturn) 1 0 0 (0) := ⟨rfl, rfl⟩
theorem l135_4 {Γ : q_Γ} (hG : q_GG Γ) {h0 : q_F} (hZ : q_Bz h0) {o0 : Nat} {o1 : Nat} (ho0 : q_isT o0) (ho1 : q_isG o1)
    (hx102 : ∀ {u3 u2 : Int} {h : q_F}, h = h0 → (u2 = 0 ∨ u2 = 1) → q_R Γ q_K 155 135 (fun t w h' => (t = 1 ∧ (∃ z, w = ((0, z) : q_V) ∧ (z = 0 ∨ z = 1)) ∧ h' = h0)) (102, [(3, (0, u3)), (2, (0, u2)), (0, (2, Int.ofNat o0)), (1, (2, Int.ofNat o1))], [], q_hp q_K 155 h, [], 0, 0))
    : ∀ (m : Nat) {u3 u2 : Int} {h : q_F}, (-2147483648 ≤ u3 ∧ u3 < 2147483648) → h = h0 → 2147483648 - u3 < (m : Int) → (u2 = 0 ∨ u2 = 1) → q_R Γ q_K 155 135 (fun t w h' => (t = 1 ∧ (∃ z, w = ((0, z) : q_V) ∧ (z = 0 ∨ z = 1)) ∧ h' = h0)) (4, [(3, (0, u3)), (2, (0, u2)), (0, (2, Int.ofNat o0)), (1, (2, Int.ofNat o1))], [], q_hp q_K 155 h, [], 0, 0)   := by
  obtain ⟨fo00, fo01, fo02, fo03, fo04, fo05, fo06, fo07, fo08, fo09, fo010⟩ := q_fT ho0
  obtain ⟨fo10, fo11, fo12, fo13⟩ := q_fG ho1
  intro m
  induction m with
  | zero =>
    intro u3 u2 h hinv hf hmu bz2
    exact absurd hmu (by omega)
  | succ m ih =>
    intro u3 u2 h hinv hf hmu bz2
    subst hf
    refine r_iload_n c135_4 rfl rfl ?_
    refine r_aload_n c135_5 rfl rfl ?_
    refine r_geti c135_6 (by first | assumption | omega) (by decide) (by first | assumption | rfl) rfl rfl ?_
    refine r_ic_ge c135_9 rfl (by first | exact q_w32_id (by omega) (by omega) | exact q_w32w _ | exact rfl) (by first | exact q_w32_id (by omega) (by omega) | exact q_w32w _ | exact rfl) ?_ ?_
    · intro b1
      refine q_R.wk (ks := [3, 2, 0, 1]) (lo' := [(3, _), (2, _), (0, _), (1, _)]) rfl ?_
      exact hx102 rfl (by first | assumption | decide | omega)
    · intro b1
      refine r_iconst c135_12 rfl ?_
      refine r_istore c135_13 (lo' := [(4, _), (3, _), (2, _), (0, _), (1, _)]) rfl rfl rfl ?_
      refine r_iconst c135_15 rfl ?_
      refine r_istore c135_16 (lo' := [(5, _), (4, _), (3, _), (2, _), (0, _), (1, _)]) rfl rfl rfl ?_
      refine r_iload c135_18 rfl rfl ?_
      refine r_iconst c135_20 rfl ?_
      refine r_ic_ge c135_21 rfl (show q_w32 (0) = 0 from rfl) (show q_w32 (3) = 3 from rfl) ?_ ?_
      · intro b2
        exact absurd b2.1 (by decide)
      · intro b2
        refine r_iload_n c135_24 rfl rfl ?_
        refine r_if_le c135_25 rfl (by first | exact q_w32_id (by omega) (by omega) | exact q_w32w _ | exact rfl) ?_ ?_
        · intro b3
          refine r_aload_n c135_40 rfl rfl ?_
          refine r_iload c135_41 rfl rfl ?_
          refine r_vcG c135_43 (by first | assumption | omega) (by decide) (by first | assumption | rfl) rfl rfl rfl (k125 hG hZ (by first | assumption | exact q_hC (by assumption) | exact q_h1 (by assumption) | exact q_h3 (by assumption) | exact q_h5 (by assumption) | exact q_hG (by assumption) | exact q_hP | exact q_hB1 | exact q_hB2 | exact q_hT6 | exact q_hT15 | exact q_hT24)) ?_
          intro t4 w4 g4 p4
          obtain ⟨rfl, ⟨r4, rfl, ha4, hr4⟩, rfl⟩ := p4
          obtain ⟨fr40, fr41, fr42, fr43⟩ := q_fA ha4
          refine Or.inr (Or.inl ⟨rfl, ?_⟩)
          refine r_geti c135_46 (by first | assumption | omega) (by decide) (by first | assumption | rfl) rfl rfl ?_
          refine r_istore c135_49 (lo' := [(6, _), (5, _), (4, _), (3, _), (2, _), (0, _), (1, _)]) rfl rfl rfl ?_
          refine r_iload c135_51 rfl rfl ?_
          refine r_if_eq c135_53 rfl (show q_w32 (1) = 1 from rfl) ?_ ?_
          · intro b5
            exact absurd b5.1 (by decide)
          · intro b5
            refine r_iload c135_56 rfl rfl ?_
            refine r_aload_n c135_58 rfl rfl ?_
            refine r_iload_n c135_59 rfl rfl ?_
            refine r_iload c135_60 rfl rfl ?_
            refine r_vcG c135_62 (by first | assumption | omega) (by decide) (by first | assumption | rfl) rfl rfl rfl (k148 hG hZ (by first | assumption | exact q_hC (by assumption) | exact q_h1 (by assumption) | exact q_h3 (by assumption) | exact q_h5 (by assumption) | exact q_hG (by assumption) | exact q_hP | exact q_hB1 | exact q_hB2 | exact q_hT6 | exact q_hT15 | exact q_hT24)) ?_
            intro t6 w6 g6 p6
            obtain ⟨rfl, ⟨z6, rfl⟩, rfl⟩ := p6
            refine Or.inr (Or.inl ⟨rfl, ?_⟩)
            refine r_ic_ne c135_65 rfl (by first | exact q_w32_id (by omega) (by omega) | exact q_w32w _ | exact rfl) (by first | exact q_w32_id (by omega) (by omega) | exact q_w32w _ | exact rfl) ?_ ?_
            · intro b7
              refine r_iconst c135_72 rfl ?_
              refine r_istore c135_73 (lo' := [(4, _), (6, _), (5, _), (3, _), (2, _), (0, _), (1, _)]) rfl rfl rfl ?_
              refine r_iinc c135_75 rfl (show q_w32 (0 + (1)) = 1 from rfl) (lo' := [(5, _), (4, _), (6, _), (3, _), (2, _), (0, _), (1, _)]) rfl rfl rfl ?_
              refine r_goto c135_78 ?_
              refine r_iload c135_18 rfl rfl ?_
              refine r_iconst c135_20 rfl ?_
              refine r_ic_ge c135_21 rfl (show q_w32 (1) = 1 from rfl) (show q_w32 (3) = 3 from rfl) ?_ ?_
              · intro b8
                exact absurd b8.1 (by decide)
              · intro b8
                refine r_iload_n c135_24 rfl rfl ?_
                refine r_if_le c135_25 rfl (by first | exact q_w32_id (by omega) (by omega) | exact q_w32w _ | exact rfl) ?_ ?_
                · intro b9
                  refine r_aload_n c135_40 rfl rfl ?_
                  refine r_iload c135_41 rfl rfl ?_
                  refine r_vcG c135_43 (by first | assumption | omega) (by decide) (by first | assumption | rfl) rfl rfl rfl (k125 hG hZ (by first | assumption | exact q_hC (by assumption) | exact q_h1 (by assumption) | exact q_h3 (by assumption) | exact q_h5 (by assumption) | exact q_hG (by assumption) | exact q_hP | exact q_hB1 | exact q_hB2 | exact q_hT6 | exact q_hT15 | exact q_hT24)) ?_
                  intro t10 w10 g10 p10
                  obtain ⟨rfl, ⟨r10, rfl, ha10, hr10⟩, rfl⟩ := p10
                  obtain ⟨fr100, fr101, fr102, fr103⟩ := q_fA ha10
                  refine Or.inr (Or.inl ⟨rfl, ?_⟩)
                  refine r_geti c135_46 (by first | assumption | omega) (by decide) (by first | assumption | rfl) rfl rfl ?_
                  refine r_istore c135_49 (lo' := [(6, _), (5, _), (4, _), (3, _), (2, _), (0, _), (1, _)]) rfl rfl rfl ?_
                  refine r_iload c135_51 rfl rfl ?_
                  refine r_if_eq c135_53 rfl (show q_w32 (0) = 0 from rfl) ?_ ?_
                  · intro b11
                    refine r_iconst c135_72 rfl ?_
                    refine r_istore c135_73 (lo' := [(4, _), (6, _), (5, _), (3, _), (2, _), (0, _), (1, _)]) rfl rfl rfl ?_
                    refine r_iinc c135_75 rfl (show q_w32 (1 + (1)) = 2 from rfl) (lo' := [(5, _), (4, _), (6, _), (3, _), (2, _), (0, _), (1, _)]) rfl rfl rfl ?_
                    refine r_goto c135_78 ?_
                    refine r_iload c135_18 rfl rfl ?_
                    refine r_iconst c135_20 rfl ?_
                    refine r_ic_ge c135_21 rfl (show q_w32 (2) = 2 from rfl) (show q_w32 (3) = 3 from rfl) ?_ ?_
                    · intro b12
                      exact absurd b12.1 (by decide)
                    · intro b12
                      refine r_iload_n c135_24 rfl rfl ?_
                      refine r_if_le c135_25 rfl (by first | exact q_w32_id (by omega) (by omega) | exact q_w32w _ | exact rfl) ?_ ?_
                      · intro b13
                        refine r_aload_n c135_40 rfl rfl ?_
                        refine r_iload c135_41 rfl rfl ?_
                        refine r_vcG c135_43 (by first | assumption | omega) (by decide) (by first | assumption | rfl) rfl rfl rfl (k125 hG hZ (by first | assumption | exact q_hC (by assumption) | exact q_h1 (by assumption) | exact q_h3 (by assumption) | exact q_h5 (by assumption) | exact q_hG (by assumption) | exact q_hP | exact q_hB1 | exact q_hB2 | exact q_hT6 | exact q_hT15 | exact q_hT24)) ?_
                        intro t14 w14 g14 p14
                        obtain ⟨rfl, ⟨r14, rfl, ha14, hr14⟩, rfl⟩ := p14
                        obtain ⟨fr140, fr141, fr142, fr143⟩ := q_fA ha14
                        refine Or.inr (Or.inl ⟨rfl, ?_⟩)
                        refine r_geti c135_46 (by first | assumption | omega) (by decide) (by first | assumption | rfl) rfl rfl ?_
                        refine r_istore c135_49 (lo' := [(6, _), (5, _), (4, _), (3, _), (2, _), (0, _), (1, _)]) rfl rfl rfl ?_
                        refine r_iload c135_51 rfl rfl ?_
                        refine r_if_eq c135_53 rfl (show q_w32 (0) = 0 from rfl) ?_ ?_
                        · intro b15
                          refine r_iconst c135_72 rfl ?_
                          refine r_istore c135_73 (lo' := [(4, _), (6, _), (5, _), (3, _), (2, _), (0, _), (1, _)]) rfl rfl rfl ?_
                          refine r_iinc c135_75 rfl (show q_w32 (2 + (1)) = 3 from rfl) (lo' := [(5, _), (4, _), (6, _), (3, _), (2, _), (0, _), (1, _)]) rfl rfl rfl ?_
                          refine r_goto c135_78 ?_
                          refine r_iload c135_18 rfl rfl ?_
                          refine r_iconst c135_20 rfl ?_
                          refine r_ic_ge c135_21 rfl (show q_w32 (3) = 3 from rfl) (show q_w32 (3) = 3 from rfl) ?_ ?_
                          · intro b16
                            refine r_iload_n c135_81 rfl rfl ?_
                            refine r_if_ne c135_82 rfl (by first | exact q_w32_id (by omega) (by omega) | exact q_w32w _ | exact rfl) ?_ ?_
                            · intro b17
                              refine r_iconst c135_90 rfl ?_
                              refine r_goto c135_91 ?_
                              refine r_istore_n c135_95 (lo' := [(2, _), (5, _), (4, _), (6, _), (3, _), (0, _), (1, _)]) rfl rfl rfl ?_
                              refine r_iinc c135_96 rfl (by first | exact q_w32_id (by omega) (by omega) | exact q_w32w _ | exact rfl) (lo' := [(3, _), (2, _), (5, _), (4, _), (6, _), (0, _), (1, _)]) rfl rfl rfl ?_
                              refine r_goto c135_99 ?_
                              refine q_R.wk (ks := [3, 2, 0, 1]) (lo' := [(3, _), (2, _), (0, _), (1, _)]) rfl ?_
                              exact ih (by first | omega | exact ⟨q_rg1 _, q_rg2 _⟩) rfl (by omega) (by first | assumption | decide | omega)
                            · intro b17
                              refine r_iload c135_85 rfl rfl ?_
                              refine r_if_eq c135_87 rfl (show q_w32 (0) = 0 from rfl) ?_ ?_
                              · intro b18
                                refine r_iconst c135_94 rfl ?_
                                refine r_istore_n c135_95 (lo' := [(2, _), (5, _), (4, _), (6, _), (3, _), (0, _), (1, _)]) rfl rfl rfl ?_
                                refine r_iinc c135_96 rfl (by first | exact q_w32_id (by omega) (by omega) | exact q_w32w _ | exact rfl) (lo' := [(3, _), (2, _), (5, _), (4, _), (6, _), (0, _), (1, _)]) rfl rfl rfl ?_
                                refine r_goto c135_99 ?_
                                refine q_R.wk (ks := [3, 2, 0, 1]) (lo' := [(3, _), (2, _), (0, _), (1, _)]) rfl ?_
                                exact ih (by first | omega | exact ⟨q_rg1 _, q_rg2 _⟩) rfl (by omega) (by first | assumption | decide | omega)
                              · intro b18
                                exact absurd b18.1 (by decide)
                          · intro b16
                            exact absurd b16.1 (by decide)
                        · intro b15
                          exact absurd b15.1 (by decide)
                      · intro b13
                        refine r_aload_n c135_28 rfl rfl ?_
                        refine r_iload_n c135_29 rfl rfl ?_
                        refine r_iconst c135_30 rfl ?_
                        refine r_isub c135_31 (by first | exact q_w32_id (by omega) (by omega) | exact q_w32w _ | exact rfl) rfl ?_
                        refine r_iload c135_32 rfl rfl ?_
                        refine r_vcG c135_34 (by first | assumption | omega) (by decide) (by first | assumption | rfl) rfl rfl rfl (k148 hG hZ (by first | assumption | exact q_hC (by assumption) | exact q_h1 (by assumption) | exact q_h3 (by assumption) | exact q_h5 (by assumption) | exact q_hG (by assumption) | exact q_hP | exact q_hB1 | exact q_hB2 | exact q_hT6 | exact q_hT15 | exact q_hT24)) ?_
                        intro t19 w19 g19 p19
                        obtain ⟨rfl, ⟨z19, rfl⟩, rfl⟩ := p19
                        refine Or.inr (Or.inl ⟨rfl, ?_⟩)
                        refine r_goto c135_37 ?_
                        refine r_istore c135_49 (lo' := [(6, _), (5, _), (4, _), (3, _), (2, _), (0, _), (1, _)]) rfl rfl rfl ?_
                        refine r_iload c135_51 rfl rfl ?_
                        refine r_if_eq c135_53 rfl (show q_w32 (0) = 0 from rfl) ?_ ?_
                        · intro b20
                          refine r_iconst c135_72 rfl ?_
                          refine r_istore c135_73 (lo' := [(4, _), (6, _), (5, _), (3, _), (2, _), (0, _), (1, _)]) rfl rfl rfl ?_
                          refine r_iinc c135_75 rfl (show q_w32 (2 + (1)) = 3 from rfl) (lo' := [(5, _), (4, _), (6, _), (3, _), (2, _), (0, _), (1, _)]) rfl rfl rfl ?_
                          refine r_goto c135_78 ?_
                          refine r_iload c135_18 rfl rfl ?_
                          refine r_iconst c135_20 rfl ?_
                          refine r_ic_ge c135_21 rfl (show q_w32 (3) = 3 from rfl) (show q_w32 (3) = 3 from rfl) ?_ ?_
                          · intro b21
                            refine r_iload_n c135_81 rfl rfl ?_
                            refine r_if_ne c135_82 rfl (by first | exact q_w32_id (by omega) (by omega) | exact q_w32w _ | exact rfl) ?_ ?_
                            · intro b22
                              refine r_iconst c135_90 rfl ?_
                              refine r_goto c135_91 ?_
                              refine r_istore_n c135_95 (lo' := [(2, _), (5, _), (4, _), (6, _), (3, _), (0, _), (1, _)]) rfl rfl rfl ?_
                              refine r_iinc c135_96 rfl (by first | exact q_w32_id (by omega) (by omega) | exact q_w32w _ | exact rfl) (lo' := [(3, _), (2, _), (5, _), (4, _), (6, _), (0, _), (1, _)]) rfl rfl rfl ?_
                              refine r_goto c135_99 ?_
                              refine q_R.wk (ks := [3, 2, 0, 1]) (lo' := [(3, _), (2, _), (0, _), (1, _)]) rfl ?_
                              exact ih (by first | omega | exact ⟨q_rg1 _, q_rg2 _⟩) rfl (by omega) (by first | assumption | decide | omega)
                            · intro b22
                              refine r_iload c135_85 rfl rfl ?_
                              refine r_if_eq c135_87 rfl (show q_w32 (0) = 0 from rfl) ?_ ?_
                              · intro b23
                                refine r_iconst c135_94 rfl ?_
                                refine r_istore_n c135_95 (lo' := [(2, _), (5, _), (4, _), (6, _), (3, _), (0, _), (1, _)]) rfl rfl rfl ?_
                                refine r_iinc c135_96 rfl (by first | exact q_w32_id (by omega) (by omega) | exact q_w32w _ | exact rfl) (lo' := [(3, _), (2, _), (5, _), (4, _), (6, _), (0, _), (1, _)]) rfl rfl rfl ?_
                                refine r_goto c135_99 ?_
                                refine q_R.wk (ks := [3, 2, 0, 1]) (lo' := [(3, _), (2, _), (0, _), (1, _)]) rfl ?_
                                exact ih (by first | omega | exact ⟨q_rg1 _, q_rg2 _⟩) rfl (by omega) (by first | assumption | decide | omega)
                              · intro b23
                                exact absurd b23.1 (by decide)
                          · intro b21
                            exact absurd b21.1 (by decide)
                        · intro b20
                          exact absurd b20.1 (by decide)
                  · intro b11
                    exact absurd b11.1 (by decide)
                · intro b9
                  refine r_aload_n c135_28 rfl rfl ?_
                  refine r_iload_n c135_29 rfl rfl ?_
                  refine r_iconst c135_30 rfl ?_
                  refine r_isub c135_31 (by first | exact q_w32_id (by omega) (by omega) | exact q_w32w _ | exact rfl) rfl ?_
                  refine r_iload c135_32 rfl rfl ?_
                  refine r_vcG c135_34 (by first | assumption | omega) (by decide) (by first | assumption | rfl) rfl rfl rfl (k148 hG hZ (by first | assumption | exact q_hC (by assumption) | exact q_h1 (by assumption) | exact q_h3 (by assumption) | exact q_h5 (by assumption) | exact q_hG (by assumption) | exact q_hP | exact q_hB1 | exact q_hB2 | exact q_hT6 | exact q_hT15 | exact q_hT24)) ?_
                  intro t24 w24 g24 p24
                  obtain ⟨rfl, ⟨z24, rfl⟩, rfl⟩ := p24
                  refine Or.inr (Or.inl ⟨rfl, ?_⟩)
                  refine r_goto c135_37 ?_
                  refine r_istore c135_49 (lo' := [(6, _), (5, _), (4, _), (3, _), (2, _), (0, _), (1, _)]) rfl rfl rfl ?_
                  refine r_iload c135_51 rfl rfl ?_
                  refine r_if_eq c135_53 rfl (show q_w32 (0) = 0 from rfl) ?_ ?_
                  · intro b25
                    refine r_iconst c135_72 rfl ?_
                    refine r_istore c135_73 (lo' := [(4, _), (6, _), (5, _), (3, _), (2, _), (0, _), (1, _)]) rfl rfl rfl ?_
                    refine r_iinc c135_75 rfl (show q_w32 (1 + (1)) = 2 from rfl) (lo' := [(5, _), (4, _), (6, _), (3, _), (2, _), (0, _), (1, _)]) rfl rfl rfl ?_
                    refine r_goto c135_78 ?_
                    refine r_iload c135_18 rfl rfl ?_
                    refine r_iconst c135_20 rfl ?_
                    refine r_ic_ge c135_21 rfl (show q_w32 (2) = 2 from rfl) (show q_w32 (3) = 3 from rfl) ?_ ?_
                    · intro b26
                      exact absurd b26.1 (by decide)
                    · intro b26
                      refine r_iload_n c135_24 rfl rfl ?_
                      refine r_if_le c135_25 rfl (by first | exact q_w32_id (by omega) (by omega) | exact q_w32w _ | exact rfl) ?_ ?_
                      · intro b27
                        refine r_aload_n c135_40 rfl rfl ?_
                        refine r_iload c135_41 rfl rfl ?_
                        refine r_vcG c135_43 (by first | assumption | omega) (by decide) (by first | assumption | rfl) rfl rfl rfl (k125 hG hZ (by first | assumption | exact q_hC (by assumption) | exact q_h1 (by assumption) | exact q_h3 (by assumption) | exact q_h5 (by assumption) | exact q_hG (by assumption) | exact q_hP | exact q_hB1 | exact q_hB2 | exact q_hT6 | exact q_hT15 | exact q_hT24)) ?_
                        intro t28 w28 g28 p28
                        obtain ⟨rfl, ⟨r28, rfl, ha28, hr28⟩, rfl⟩ := p28
                        obtain ⟨fr280, fr281, fr282, fr283⟩ := q_fA ha28
                        refine Or.inr (Or.inl ⟨rfl, ?_⟩)
                        refine r_geti c135_46 (by first | assumption | omega) (by decide) (by first | assumption | rfl) rfl rfl ?_
                        refine r_istore c135_49 (lo' := [(6, _), (5, _), (4, _), (3, _), (2, _), (0, _), (1, _)]) rfl rfl rfl ?_
                        refine r_iload c135_51 rfl rfl ?_
                        refine r_if_eq c135_53 rfl (show q_w32 (0) = 0 from rfl) ?_ ?_
                        · intro b29
                          refine r_iconst c135_72 rfl ?_
                          refine r_istore c135_73 (lo' := [(4, _), (6, _), (5, _), (3, _), (2, _), (0, _), (1, _)]) rfl rfl rfl ?_
                          refine r_iinc c135_75 rfl (show q_w32 (2 + (1)) = 3 from rfl) (lo' := [(5, _), (4, _), (6, _), (3, _), (2, _), (0, _), (1, _)]) rfl rfl rfl ?_
                          refine r_goto c135_78 ?_
                          refine r_iload c135_18 rfl rfl ?_
                          refine r_iconst c135_20 rfl ?_
                          refine r_ic_ge c135_21 rfl (show q_w32 (3) = 3 from rfl) (show q_w32 (3) = 3 from rfl) ?_ ?_
                          · intro b30
                            refine r_iload_n c135_81 rfl rfl ?_
                            refine r_if_ne c135_82 rfl (by first | exact q_w32_id (by omega) (by omega) | exact q_w32w _ | exact rfl) ?_ ?_
                            · intro b31
                              refine r_iconst c135_90 rfl ?_
                              refine r_goto c135_91 ?_
                              refine r_istore_n c135_95 (lo' := [(2, _), (5, _), (4, _), (6, _), (3, _), (0, _), (1, _)]) rfl rfl rfl ?_
                              refine r_iinc c135_96 rfl (by first | exact q_w32_id (by omega) (by omega) | exact q_w32w _ | exact rfl) (lo' := [(3, _), (2, _), (5, _), (4, _), (6, _), (0, _), (1, _)]) rfl rfl rfl ?_
                              refine r_goto c135_99 ?_
                              refine q_R.wk (ks := [3, 2, 0, 1]) (lo' := [(3, _), (2, _), (0, _), (1, _)]) rfl ?_
                              exact ih (by first | omega | exact ⟨q_rg1 _, q_rg2 _⟩) rfl (by omega) (by first | assumption | decide | omega)
                            · intro b31
                              refine r_iload c135_85 rfl rfl ?_
                              refine r_if_eq c135_87 rfl (show q_w32 (0) = 0 from rfl) ?_ ?_
                              · intro b32
                                refine r_iconst c135_94 rfl ?_
                                refine r_istore_n c135_95 (lo' := [(2, _), (5, _), (4, _), (6, _), (3, _), (0, _), (1, _)]) rfl rfl rfl ?_
                                refine r_iinc c135_96 rfl (by first | exact q_w32_id (by omega) (by omega) | exact q_w32w _ | exact rfl) (lo' := [(3, _), (2, _), (5, _), (4, _), (6, _), (0, _), (1, _)]) rfl rfl rfl ?_
                                refine r_goto c135_99 ?_
                                refine q_R.wk (ks := [3, 2, 0, 1]) (lo' := [(3, _), (2, _), (0, _), (1, _)]) rfl ?_
                                exact ih (by first | omega | exact ⟨q_rg1 _, q_rg2 _⟩) rfl (by omega) (by first | assumption | decide | omega)
                              · intro b32
                                exact absurd b32.1 (by decide)
                          · intro b30
                            exact absurd b30.1 (by decide)
                        · intro b29
                          exact absurd b29.1 (by decide)
                      · intro b27
                        refine r_aload_n c135_28 rfl rfl ?_
                        refine r_iload_n c135_29 rfl rfl ?_
                        refine r_iconst c135_30 rfl ?_
                        refine r_isub c135_31 (by first | exact q_w32_id (by omega) (by omega) | exact q_w32w _ | exact rfl) rfl ?_
                        refine r_iload c135_32 rfl rfl ?_
                        refine r_vcG c135_34 (by first | assumption | omega) (by decide) (by first | assumption | rfl) rfl rfl rfl (k148 hG hZ (by first | assumption | exact q_hC (by assumption) | exact q_h1 (by assumption) | exact q_h3 (by assumption) | exact q_h5 (by assumption) | exact q_hG (by assumption) | exact q_hP | exact q_hB1 | exact q_hB2 | exact q_hT6 | exact q_hT15 | exact q_hT24)) ?_
                        intro t33 w33 g33 p33
                        obtain ⟨rfl, ⟨z33, rfl⟩, rfl⟩ := p33
                        refine Or.inr (Or.inl ⟨rfl, ?_⟩)
                        refine r_goto c135_37 ?_
                        refine r_istore c135_49 (lo' := [(6, _), (5, _), (4, _), (3, _), (2, _), (0, _), (1, _)]) rfl rfl rfl ?_
                        refine r_iload c135_51 rfl rfl ?_
                        refine r_if_eq c135_53 rfl (show q_w32 (0) = 0 from rfl) ?_ ?_
                        · intro b34
                          refine r_iconst c135_72 rfl ?_
                          refine r_istore c135_73 (lo' := [(4, _), (6, _), (5, _), (3, _), (2, _), (0, _), (1, _)]) rfl rfl rfl ?_
                          refine r_iinc c135_75 rfl (show q_w32 (2 + (1)) = 3 from rfl) (lo' := [(5, _), (4, _), (6, _), (3, _), (2, _), (0, _), (1, _)]) rfl rfl rfl ?_
                          refine r_goto c135_78 ?_
                          refine r_iload c135_18 rfl rfl ?_
                          refine r_iconst c135_20 rfl ?_
                          refine r_ic_ge c135_21 rfl (show q_w32 (3) = 3 from rfl) (show q_w32 (3) = 3 from rfl) ?_ ?_
                          · intro b35
                            refine r_iload_n c135_81 rfl rfl ?_
                            refine r_if_ne c135_82 rfl (by first | exact q_w32_id (by omega) (by omega) | exact q_w32w _ | exact rfl) ?_ ?_
                            · intro b36
                              refine r_iconst c135_90 rfl ?_
                              refine r_goto c135_91 ?_
                              refine r_istore_n c135_95 (lo' := [(2, _), (5, _), (4, _), (6, _), (3, _), (0, _), (1, _)]) rfl rfl rfl ?_
                              refine r_iinc c135_96 rfl (by first | exact q_w32_id (by omega) (by omega) | exact q_w32w _ | exact rfl) (lo' := [(3, _), (2, _), (5, _), (4, _), (6, _), (0, _), (1, _)]) rfl rfl rfl ?_
                              refine r_goto c135_99 ?_
                              refine q_R.wk (ks := [3, 2, 0, 1]) (lo' := [(3, _), (2, _), (0, _), (1, _)]) rfl ?_
                              exact ih (by first | omega | exact ⟨q_rg1 _, q_rg2 _⟩) rfl (by omega) (by first | assumption | decide | omega)
                            · intro b36
                              refine r_iload c135_85 rfl rfl ?_
                              refine r_if_eq c135_87 rfl (show q_w32 (0) = 0 from rfl) ?_ ?_
                              · intro b37
                                refine r_iconst c135_94 rfl ?_
                                refine r_istore_n c135_95 (lo' := [(2, _), (5, _), (4, _), (6, _), (3, _), (0, _), (1, _)]) rfl rfl rfl ?_
                                refine r_iinc c135_96 rfl (by first | exact q_w32_id (by omega) (by omega) | exact q_w32w _ | exact rfl) (lo' := [(3, _), (2, _), (5, _), (4, _), (6, _), (0, _), (1, _)]) rfl rfl rfl ?_
                                refine r_goto c135_99 ?_
                                refine q_R.wk (ks := [3, 2, 0, 1]) (lo' := [(3, _), (2, _), (0, _), (1, _)]) rfl ?_
                                exact ih (by first | omega | exact ⟨q_rg1 _, q_rg2 _⟩) rfl (by omega) (by first | assumption | decide | omega)
                              · intro b37
                                exact absurd b37.1 (by decide)
                          · intro b35
                            exact absurd b35.1 (by decide)
                        · intro b34
                          exact absurd b34.1 (by decide)
                  · intro b25
                    exact absurd b25.1 (by decide)
            · intro b7
              refine r_iconst c135_68 rfl ?_
              refine r_goto c135_69 ?_
              refine r_istore c135_73 (lo' := [(4, _), (6, _), (5, _), (3, _), (2, _), (0, _), (1, _)]) rfl rfl rfl ?_
              refine r_iinc c135_75 rfl (show q_w32 (0 + (1)) = 1 from rfl) (lo' := [(5, _), (4, _), (6, _), (3, _), (2, _), (0, _), (1, _)]) rfl rfl rfl ?_
              refine r_goto c135_78 ?_
              refine r_iload c135_18 rfl rfl ?_
              refine r_iconst c135_20 rfl ?_
              refine r_ic_ge c135_21 rfl (show q_w32 (1) = 1 from rfl) (show q_w32 (3) = 3 from rfl) ?_ ?_
              · intro b38
                exact absurd b38.1 (by decide)
              · intro b38
                refine r_iload_n c135_24 rfl rfl ?_
                refine r_if_le c135_25 rfl (by first | exact q_w32_id (by omega) (by omega) | exact q_w32w _ | exact rfl) ?_ ?_
                · intro b39
                  refine r_aload_n c135_40 rfl rfl ?_
                  refine r_iload c135_41 rfl rfl ?_
                  refine r_vcG c135_43 (by first | assumption | omega) (by decide) (by first | assumption | rfl) rfl rfl rfl (k125 hG hZ (by first | assumption | exact q_hC (by assumption) | exact q_h1 (by assumption) | exact q_h3 (by assumption) | exact q_h5 (by assumption) | exact q_hG (by assumption) | exact q_hP | exact q_hB1 | exact q_hB2 | exact q_hT6 | exact q_hT15 | exact q_hT24)) ?_
                  intro t40 w40 g40 p40
                  obtain ⟨rfl, ⟨r40, rfl, ha40, hr40⟩, rfl⟩ := p40
                  obtain ⟨fr400, fr401, fr402, fr403⟩ := q_fA ha40
                  refine Or.inr (Or.inl ⟨rfl, ?_⟩)
                  refine r_geti c135_46 (by first | assumption | omega) (by decide) (by first | assumption | rfl) rfl rfl ?_
                  refine r_istore c135_49 (lo' := [(6, _), (5, _), (4, _), (3, _), (2, _), (0, _), (1, _)]) rfl rfl rfl ?_
                  refine r_iload c135_51 rfl rfl ?_
                  refine r_if_eq c135_53 rfl (show q_w32 (1) = 1 from rfl) ?_ ?_
                  · intro b41
                    exact absurd b41.1 (by decide)
                  · intro b41
                    refine r_iload c135_56 rfl rfl ?_
                    refine r_aload_n c135_58 rfl rfl ?_
                    refine r_iload_n c135_59 rfl rfl ?_
                    refine r_iload c135_60 rfl rfl ?_
                    refine r_vcG c135_62 (by first | assumption | omega) (by decide) (by first | assumption | rfl) rfl rfl rfl (k148 hG hZ (by first | assumption | exact q_hC (by assumption) | exact q_h1 (by assumption) | exact q_h3 (by assumption) | exact q_h5 (by assumption) | exact q_hG (by assumption) | exact q_hP | exact q_hB1 | exact q_hB2 | exact q_hT6 | exact q_hT15 | exact q_hT24)) ?_
                    intro t42 w42 g42 p42
                    obtain ⟨rfl, ⟨z42, rfl⟩, rfl⟩ := p42
                    refine Or.inr (Or.inl ⟨rfl, ?_⟩)
                    refine r_ic_ne c135_65 rfl (by first | exact q_w32_id (by omega) (by omega) | exact q_w32w _ | exact rfl) (by first | exact q_w32_id (by omega) (by omega) | exact q_w32w _ | exact rfl) ?_ ?_
                    · intro b43
                      refine r_iconst c135_72 rfl ?_
                      refine r_istore c135_73 (lo' := [(4, _), (6, _), (5, _), (3, _), (2, _), (0, _), (1, _)]) rfl rfl rfl ?_
                      refine r_iinc c135_75 rfl (show q_w32 (1 + (1)) = 2 from rfl) (lo' := [(5, _), (4, _), (6, _), (3, _), (2, _), (0, _), (1, _)]) rfl rfl rfl ?_
                      refine r_goto c135_78 ?_
                      refine r_iload c135_18 rfl rfl ?_
                      refine r_iconst c135_20 rfl ?_
                      refine r_ic_ge c135_21 rfl (show q_w32 (2) = 2 from rfl) (show q_w32 (3) = 3 from rfl) ?_ ?_
                      · intro b44
                        exact absurd b44.1 (by decide)
                      · intro b44
                        refine r_iload_n c135_24 rfl rfl ?_
                        refine r_if_le c135_25 rfl (by first | exact q_w32_id (by omega) (by omega) | exact q_w32w _ | exact rfl) ?_ ?_
                        · intro b45
                          refine r_aload_n c135_40 rfl rfl ?_
                          refine r_iload c135_41 rfl rfl ?_
                          refine r_vcG c135_43 (by first | assumption | omega) (by decide) (by first | assumption | rfl) rfl rfl rfl (k125 hG hZ (by first | assumption | exact q_hC (by assumption) | exact q_h1 (by assumption) | exact q_h3 (by assumption) | exact q_h5 (by assumption) | exact q_hG (by assumption) | exact q_hP | exact q_hB1 | exact q_hB2 | exact q_hT6 | exact q_hT15 | exact q_hT24)) ?_
                          intro t46 w46 g46 p46
                          obtain ⟨rfl, ⟨r46, rfl, ha46, hr46⟩, rfl⟩ := p46
                          obtain ⟨fr460, fr461, fr462, fr463⟩ := q_fA ha46
                          refine Or.inr (Or.inl ⟨rfl, ?_⟩)
                          refine r_geti c135_46 (by first | assumption | omega) (by decide) (by first | assumption | rfl) rfl rfl ?_
                          refine r_istore c135_49 (lo' := [(6, _), (5, _), (4, _), (3, _), (2, _), (0, _), (1, _)]) rfl rfl rfl ?_
                          refine r_iload c135_51 rfl rfl ?_
                          refine r_if_eq c135_53 rfl (show q_w32 (0) = 0 from rfl) ?_ ?_
                          · intro b47
                            refine r_iconst c135_72 rfl ?_
                            refine r_istore c135_73 (lo' := [(4, _), (6, _), (5, _), (3, _), (2, _), (0, _), (1, _)]) rfl rfl rfl ?_
                            refine r_iinc c135_75 rfl (show q_w32 (2 + (1)) = 3 from rfl) (lo' := [(5, _), (4, _), (6, _), (3, _), (2, _), (0, _), (1, _)]) rfl rfl rfl ?_
                            refine r_goto c135_78 ?_
                            refine r_iload c135_18 rfl rfl ?_
                            refine r_iconst c135_20 rfl ?_
                            refine r_ic_ge c135_21 rfl (show q_w32 (3) = 3 from rfl) (show q_w32 (3) = 3 from rfl) ?_ ?_
                            · intro b48
                              refine r_iload_n c135_81 rfl rfl ?_
                              refine r_if_ne c135_82 rfl (by first | exact q_w32_id (by omega) (by omega) | exact q_w32w _ | exact rfl) ?_ ?_
                              · intro b49
                                refine r_iconst c135_90 rfl ?_
                                refine r_goto c135_91 ?_
                                refine r_istore_n c135_95 (lo' := [(2, _), (5, _), (4, _), (6, _), (3, _), (0, _), (1, _)]) rfl rfl rfl ?_
                                refine r_iinc c135_96 rfl (by first | exact q_w32_id (by omega) (by omega) | exact q_w32w _ | exact rfl) (lo' := [(3, _), (2, _), (5, _), (4, _), (6, _), (0, _), (1, _)]) rfl rfl rfl ?_
                                refine r_goto c135_99 ?_
                                refine q_R.wk (ks := [3, 2, 0, 1]) (lo' := [(3, _), (2, _), (0, _), (1, _)]) rfl ?_
                                exact ih (by first | omega | exact ⟨q_rg1 _, q_rg2 _⟩) rfl (by omega) (by first | assumption | decide | omega)
                              · intro b49
                                refine r_iload c135_85 rfl rfl ?_
                                refine r_if_eq c135_87 rfl (show q_w32 (0) = 0 from rfl) ?_ ?_
                                · intro b50
                                  refine r_iconst c135_94 rfl ?_
                                  refine r_istore_n c135_95 (lo' := [(2, _), (5, _), (4, _), (6, _), (3, _), (0, _), (1, _)]) rfl rfl rfl ?_
                                  refine r_iinc c135_96 rfl (by first | exact q_w32_id (by omega) (by omega) | exact q_w32w _ | exact rfl) (lo' := [(3, _), (2, _), (5, _), (4, _), (6, _), (0, _), (1, _)]) rfl rfl rfl ?_
                                  refine r_goto c135_99 ?_
                                  refine q_R.wk (ks := [3, 2, 0, 1]) (lo' := [(3, _), (2, _), (0, _), (1, _)]) rfl ?_
                                  exact ih (by first | omega | exact ⟨q_rg1 _, q_rg2 _⟩) rfl (by omega) (by first | assumption | decide | omega)
                                · intro b50
                                  exact absurd b50.1 (by decide)
                            · intro b48
                              exact absurd b48.1 (by decide)
                          · intro b47
                            exact absurd b47.1 (by decide)
                        · intro b45
                          refine r_aload_n c135_28 rfl rfl ?_
                          refine r_iload_n c135_29 rfl rfl ?_
                          refine r_iconst c135_30 rfl ?_
                          refine r_isub c135_31 (by first | exact q_w32_id (by omega) (by omega) | exact q_w32w _ | exact rfl) rfl ?_
                          refine r_iload c135_32 rfl rfl ?_
                          refine r_vcG c135_34 (by first | assumption | omega) (by decide) (by first | assumption | rfl) rfl rfl rfl (k148 hG hZ (by first | assumption | exact q_hC (by assumption) | exact q_h1 (by assumption) | exact q_h3 (by assumption) | exact q_h5 (by assumption) | exact q_hG (by assumption) | exact q_hP | exact q_hB1 | exact q_hB2 | exact q_hT6 | exact q_hT15 | exact q_hT24)) ?_
                          intro t51 w51 g51 p51
                          obtain ⟨rfl, ⟨z51, rfl⟩, rfl⟩ := p51
                          refine Or.inr (Or.inl ⟨rfl, ?_⟩)
                          refine r_goto c135_37 ?_
                          refine r_istore c135_49 (lo' := [(6, _), (5, _), (4, _), (3, _), (2, _), (0, _), (1, _)]) rfl rfl rfl ?_
                          refine r_iload c135_51 rfl rfl ?_
                          refine r_if_eq c135_53 rfl (show q_w32 (0) = 0 from rfl) ?_ ?_
                          · intro b52
                            refine r_iconst c135_72 rfl ?_
                            refine r_istore c135_73 (lo' := [(4, _), (6, _), (5, _), (3, _), (2, _), (0, _), (1, _)]) rfl rfl rfl ?_
                            refine r_iinc c135_75 rfl (show q_w32 (2 + (1)) = 3 from rfl) (lo' := [(5, _), (4, _), (6, _), (3, _), (2, _), (0, _), (1, _)]) rfl rfl rfl ?_
                            refine r_goto c135_78 ?_
                            refine r_iload c135_18 rfl rfl ?_
                            refine r_iconst c135_20 rfl ?_
                            refine r_ic_ge c135_21 rfl (show q_w32 (3) = 3 from rfl) (show q_w32 (3) = 3 from rfl) ?_ ?_
                            · intro b53
                              refine r_iload_n c135_81 rfl rfl ?_
                              refine r_if_ne c135_82 rfl (by first | exact q_w32_id (by omega) (by omega) | exact q_w32w _ | exact rfl) ?_ ?_
                              · intro b54
                                refine r_iconst c135_90 rfl ?_
                                refine r_goto c135_91 ?_
                                refine r_istore_n c135_95 (lo' := [(2, _), (5, _), (4, _), (6, _), (3, _), (0, _), (1, _)]) rfl rfl rfl ?_
                                refine r_iinc c135_96 rfl (by first | exact q_w32_id (by omega) (by omega) | exact q_w32w _ | exact rfl) (lo' := [(3, _), (2, _), (5, _), (4, _), (6, _), (0, _), (1, _)]) rfl rfl rfl ?_
                                refine r_goto c135_99 ?_
                                refine q_R.wk (ks := [3, 2, 0, 1]) (lo' := [(3, _), (2, _), (0, _), (1, _)]) rfl ?_
                                exact ih (by first | omega | exact ⟨q_rg1 _, q_rg2 _⟩) rfl (by omega) (by first | assumption | decide | omega)
                              · intro b54
                                refine r_iload c135_85 rfl rfl ?_
                                refine r_if_eq c135_87 rfl (show q_w32 (0) = 0 from rfl) ?_ ?_
                                · intro b55
                                  refine r_iconst c135_94 rfl ?_
                                  refine r_istore_n c135_95 (lo' := [(2, _), (5, _), (4, _), (6, _), (3, _), (0, _), (1, _)]) rfl rfl rfl ?_
                                  refine r_iinc c135_96 rfl (by first | exact q_w32_id (by omega) (by omega) | exact q_w32w _ | exact rfl) (lo' := [(3, _), (2, _), (5, _), (4, _), (6, _), (0, _), (1, _)]) rfl rfl rfl ?_
                                  refine r_goto c135_99 ?_
                                  refine q_R.wk (ks := [3, 2, 0, 1]) (lo' := [(3, _), (2, _), (0, _), (1, _)]) rfl ?_
                                  exact ih (by first | omega | exact ⟨q_rg1 _, q_rg2 _⟩) rfl (by omega) (by first | assumption | decide | omega)
                                · intro b55
                                  exact absurd b55.1 (by decide)
                            · intro b53
                              exact absurd b53.1 (by decide)
                          · intro b52
                            exact absurd b52.1 (by decide)
                    · intro b43
                      refine r_iconst c135_68 rfl ?_
                      refine r_goto c135_69 ?_
                      refine r_istore c135_73 (lo' := [(4, _), (6, _), (5, _), (3, _), (2, _), (0, _), (1, _)]) rfl rfl rfl ?_
                      refine r_iinc c135_75 rfl (show q_w32 (1 + (1)) = 2 from rfl) (lo' := [(5, _), (4, _), (6, _), (3, _), (2, _), (0, _), (1, _)]) rfl rfl rfl ?_
                      refine r_goto c135_78 ?_
                      refine r_iload c135_18 rfl rfl ?_
                      refine r_iconst c135_20 rfl ?_
                      refine r_ic_ge c135_21 rfl (show q_w32 (2) = 2 from rfl) (show q_w32 (3) = 3 from rfl) ?_ ?_
                      · intro b56
                        exact absurd b56.1 (by decide)
                      · intro b56
                        refine r_iload_n c135_24 rfl rfl ?_
                        refine r_if_le c135_25 rfl (by first | exact q_w32_id (by omega) (by omega) | exact q_w32w _ | exact rfl) ?_ ?_
                        · intro b57
                          refine r_aload_n c135_40 rfl rfl ?_
                          refine r_iload c135_41 rfl rfl ?_
                          refine r_vcG c135_43 (by first | assumption | omega) (by decide) (by first | assumption | rfl) rfl rfl rfl (k125 hG hZ (by first | assumption | exact q_hC (by assumption) | exact q_h1 (by assumption) | exact q_h3 (by assumption) | exact q_h5 (by assumption) | exact q_hG (by assumption) | exact q_hP | exact q_hB1 | exact q_hB2 | exact q_hT6 | exact q_hT15 | exact q_hT24)) ?_
                          intro t58 w58 g58 p58
                          obtain ⟨rfl, ⟨r58, rfl, ha58, hr58⟩, rfl⟩ := p58
                          obtain ⟨fr580, fr581, fr582, fr583⟩ := q_fA ha58
                          refine Or.inr (Or.inl ⟨rfl, ?_⟩)
                          refine r_geti c135_46 (by first | assumption | omega) (by decide) (by first | assumption | rfl) rfl rfl ?_
                          refine r_istore c135_49 (lo' := [(6, _), (5, _), (4, _), (3, _), (2, _), (0, _), (1, _)]) rfl rfl rfl ?_
                          refine r_iload c135_51 rfl rfl ?_
                          refine r_if_eq c135_53 rfl (show q_w32 (1) = 1 from rfl) ?_ ?_
                          · intro b59
                            exact absurd b59.1 (by decide)
                          · intro b59
                            refine r_iload c135_56 rfl rfl ?_
                            refine r_aload_n c135_58 rfl rfl ?_
                            refine r_iload_n c135_59 rfl rfl ?_
                            refine r_iload c135_60 rfl rfl ?_
                            refine r_vcG c135_62 (by first | assumption | omega) (by decide) (by first | assumption | rfl) rfl rfl rfl (k148 hG hZ (by first | assumption | exact q_hC (by assumption) | exact q_h1 (by assumption) | exact q_h3 (by assumption) | exact q_h5 (by assumption) | exact q_hG (by assumption) | exact q_hP | exact q_hB1 | exact q_hB2 | exact q_hT6 | exact q_hT15 | exact q_hT24)) ?_
                            intro t60 w60 g60 p60
                            obtain ⟨rfl, ⟨z60, rfl⟩, rfl⟩ := p60
                            refine Or.inr (Or.inl ⟨rfl, ?_⟩)
                            refine r_ic_ne c135_65 rfl (by first | exact q_w32_id (by omega) (by omega) | exact q_w32w _ | exact rfl) (by first | exact q_w32_id (by omega) (by omega) | exact q_w32w _ | exact rfl) ?_ ?_
                            · intro b61
                              refine r_iconst c135_72 rfl ?_
                              refine r_istore c135_73 (lo' := [(4, _), (6, _), (5, _), (3, _), (2, _), (0, _), (1, _)]) rfl rfl rfl ?_
                              refine r_iinc c135_75 rfl (show q_w32 (2 + (1)) = 3 from rfl) (lo' := [(5, _), (4, _), (6, _), (3, _), (2, _), (0, _), (1, _)]) rfl rfl rfl ?_
                              refine r_goto c135_78 ?_
                              refine r_iload c135_18 rfl rfl ?_
                              refine r_iconst c135_20 rfl ?_
                              refine r_ic_ge c135_21 rfl (show q_w32 (3) = 3 from rfl) (show q_w32 (3) = 3 from rfl) ?_ ?_
                              · intro b62
                                refine r_iload_n c135_81 rfl rfl ?_
                                refine r_if_ne c135_82 rfl (by first | exact q_w32_id (by omega) (by omega) | exact q_w32w _ | exact rfl) ?_ ?_
                                · intro b63
                                  refine r_iconst c135_90 rfl ?_
                                  refine r_goto c135_91 ?_
                                  refine r_istore_n c135_95 (lo' := [(2, _), (5, _), (4, _), (6, _), (3, _), (0, _), (1, _)]) rfl rfl rfl ?_
                                  refine r_iinc c135_96 rfl (by first | exact q_w32_id (by omega) (by omega) | exact q_w32w _ | exact rfl) (lo' := [(3, _), (2, _), (5, _), (4, _), (6, _), (0, _), (1, _)]) rfl rfl rfl ?_
                                  refine r_goto c135_99 ?_
                                  refine q_R.wk (ks := [3, 2, 0, 1]) (lo' := [(3, _), (2, _), (0, _), (1, _)]) rfl ?_
                                  exact ih (by first | omega | exact ⟨q_rg1 _, q_rg2 _⟩) rfl (by omega) (by first | assumption | decide | omega)
                                · intro b63
                                  refine r_iload c135_85 rfl rfl ?_
                                  refine r_if_eq c135_87 rfl (show q_w32 (0) = 0 from rfl) ?_ ?_
                                  · intro b64
                                    refine r_iconst c135_94 rfl ?_
                                    refine r_istore_n c135_95 (lo' := [(2, _), (5, _), (4, _), (6, _), (3, _), (0, _), (1, _)]) rfl rfl rfl ?_
                                    refine r_iinc c135_96 rfl (by first | exact q_w32_id (by omega) (by omega) | exact q_w32w _ | exact rfl) (lo' := [(3, _), (2, _), (5, _), (4, _), (6, _), (0, _), (1, _)]) rfl rfl rfl ?_
                                    refine r_goto c135_99 ?_
                                    refine q_R.wk (ks := [3, 2, 0, 1]) (lo' := [(3, _), (2, _), (0, _), (1, _)]) rfl ?_
                                    exact ih (by first | omega | exact ⟨q_rg1 _, q_rg2 _⟩) rfl (by omega) (by first | assumption | decide | omega)
                                  · intro b64
                                    exact absurd b64.1 (by decide)
                              · intro b62
                                exact absurd b62.1 (by decide)
                            · intro b61
                              refine r_iconst c135_68 rfl ?_
                              refine r_goto c135_69 ?_
                              refine r_istore c135_73 (lo' := [(4, _), (6, _), (5, _), (3, _), (2, _), (0, _), (1, _)]) rfl rfl rfl ?_
                              refine r_iinc c135_75 rfl (show q_w32 (2 + (1)) = 3 from rfl) (lo' := [(5, _), (4, _), (6, _), (3, _), (2, _), (0, _), (1, _)]) rfl rfl rfl ?_
                              refine r_goto c135_78 ?_
                              refine r_iload c135_18 rfl rfl ?_
                              refine r_iconst c135_20 rfl ?_
                              refine r_ic_ge c135_21 rfl (show q_w32 (3) = 3 from rfl) (show q_w32 (3) = 3 from rfl) ?_ ?_
                              · intro b65
                                refine r_iload_n c135_81 rfl rfl ?_
                                refine r_if_ne c135_82 rfl (by first | exact q_w32_id (by omega) (by omega) | exact q_w32w _ | exact rfl) ?_ ?_
                                · intro b66
                                  refine r_iconst c135_90 rfl ?_
                                  refine r_goto c135_91 ?_
                                  refine r_istore_n c135_95 (lo' := [(2, _), (5, _), (4, _), (6, _), (3, _), (0, _), (1, _)]) rfl rfl rfl ?_
                                  refine r_iinc c135_96 rfl (by first | exact q_w32_id (by omega) (by omega) | exact q_w32w _ | exact rfl) (lo' := [(3, _), (2, _), (5, _), (4, _), (6, _), (0, _), (1, _)]) rfl rfl rfl ?_
                                  refine r_goto c135_99 ?_
                                  refine q_R.wk (ks := [3, 2, 0, 1]) (lo' := [(3, _), (2, _), (0, _), (1, _)]) rfl ?_
                                  exact ih (by first | omega | exact ⟨q_rg1 _, q_rg2 _⟩) rfl (by omega) (by first | assumption | decide | omega)
                                · intro b66
                                  refine r_iload c135_85 rfl rfl ?_
                                  refine r_if_eq c135_87 rfl (show q_w32 (1) = 1 from rfl) ?_ ?_
                                  · intro b67
                                    exact absurd b67.1 (by decide)
                                  · intro b67
                                    refine r_iconst c135_90 rfl ?_
                                    refine r_goto c135_91 ?_
                                    refine r_istore_n c135_95 (lo' := [(2, _), (5, _), (4, _), (6, _), (3, _), (0, _), (1, _)]) rfl rfl rfl ?_
                                    refine r_iinc c135_96 rfl (by first | exact q_w32_id (by omega) (by omega) | exact q_w32w _ | exact rfl) (lo' := [(3, _), (2, _), (5, _), (4, _), (6, _), (0, _), (1, _)]) rfl rfl rfl ?_
                                    refine r_goto c135_99 ?_
                                    refine q_R.wk (ks := [3, 2, 0, 1]) (lo' := [(3, _), (2, _), (0, _), (1, _)]) rfl ?_
                                    exact ih (by first | omega | exact ⟨q_rg1 _, q_rg2 _⟩) rfl (by omega) (by first | assumption | decide | omega)
                              · intro b65
                                exact absurd b65.1 (by decide)
                        · intro b57
                          refine r_aload_n c135_28 rfl rfl ?_
                          refine r_iload_n c135_29 rfl rfl ?_
                          refine r_iconst c135_30 rfl ?_
                          refine r_isub c135_31 (by first | exact q_w32_id (by omega) (by omega) | exact q_w32w _ | exact rfl) rfl ?_
                          refine r_iload c135_32 rfl rfl ?_
                          refine r_vcG c135_34 (by first | assumption | omega) (by decide) (by first | assumption | rfl) rfl rfl rfl (k148 hG hZ (by first | assumption | exact q_hC (by assumption) | exact q_h1 (by assumption) | exact q_h3 (by assumption) | exact q_h5 (by assumption) | exact q_hG (by assumption) | exact q_hP | exact q_hB1 | exact q_hB2 | exact q_hT6 | exact q_hT15 | exact q_hT24)) ?_
                          intro t68 w68 g68 p68
                          obtain ⟨rfl, ⟨z68, rfl⟩, rfl⟩ := p68
                          refine Or.inr (Or.inl ⟨rfl, ?_⟩)
                          refine r_goto c135_37 ?_
                          refine r_istore c135_49 (lo' := [(6, _), (5, _), (4, _), (3, _), (2, _), (0, _), (1, _)]) rfl rfl rfl ?_
                          refine r_iload c135_51 rfl rfl ?_
                          refine r_if_eq c135_53 rfl (show q_w32 (1) = 1 from rfl) ?_ ?_
                          · intro b69
                            exact absurd b69.1 (by decide)
                          · intro b69
                            refine r_iload c135_56 rfl rfl ?_
                            refine r_aload_n c135_58 rfl rfl ?_
                            refine r_iload_n c135_59 rfl rfl ?_
                            refine r_iload c135_60 rfl rfl ?_
                            refine r_vcG c135_62 (by first | assumption | omega) (by decide) (by first | assumption | rfl) rfl rfl rfl (k148 hG hZ (by first | assumption | exact q_hC (by assumption) | exact q_h1 (by assumption) | exact q_h3 (by assumption) | exact q_h5 (by assumption) | exact q_hG (by assumption) | exact q_hP | exact q_hB1 | exact q_hB2 | exact q_hT6 | exact q_hT15 | exact q_hT24)) ?_
                            intro t70 w70 g70 p70
                            obtain ⟨rfl, ⟨z70, rfl⟩, rfl⟩ := p70
                            refine Or.inr (Or.inl ⟨rfl, ?_⟩)
                            refine r_ic_ne c135_65 rfl (by first | exact q_w32_id (by omega) (by omega) | exact q_w32w _ | exact rfl) (by first | exact q_w32_id (by omega) (by omega) | exact q_w32w _ | exact rfl) ?_ ?_
                            · intro b71
                              refine r_iconst c135_72 rfl ?_
                              refine r_istore c135_73 (lo' := [(4, _), (6, _), (5, _), (3, _), (2, _), (0, _), (1, _)]) rfl rfl rfl ?_
                              refine r_iinc c135_75 rfl (show q_w32 (2 + (1)) = 3 from rfl) (lo' := [(5, _), (4, _), (6, _), (3, _), (2, _), (0, _), (1, _)]) rfl rfl rfl ?_
                              refine r_goto c135_78 ?_
                              refine r_iload c135_18 rfl rfl ?_
                              refine r_iconst c135_20 rfl ?_
                              refine r_ic_ge c135_21 rfl (show q_w32 (3) = 3 from rfl) (show q_w32 (3) = 3 from rfl) ?_ ?_
                              · intro b72
                                refine r_iload_n c135_81 rfl rfl ?_
                                refine r_if_ne c135_82 rfl (by first | exact q_w32_id (by omega) (by omega) | exact q_w32w _ | exact rfl) ?_ ?_
                                · intro b73
                                  refine r_iconst c135_90 rfl ?_
                                  refine r_goto c135_91 ?_
                                  refine r_istore_n c135_95 (lo' := [(2, _), (5, _), (4, _), (6, _), (3, _), (0, _), (1, _)]) rfl rfl rfl ?_
                                  refine r_iinc c135_96 rfl (by first | exact q_w32_id (by omega) (by omega) | exact q_w32w _ | exact rfl) (lo' := [(3, _), (2, _), (5, _), (4, _), (6, _), (0, _), (1, _)]) rfl rfl rfl ?_
                                  refine r_goto c135_99 ?_
                                  refine q_R.wk (ks := [3, 2, 0, 1]) (lo' := [(3, _), (2, _), (0, _), (1, _)]) rfl ?_
                                  exact ih (by first | omega | exact ⟨q_rg1 _, q_rg2 _⟩) rfl (by omega) (by first | assumption | decide | omega)
                                · intro b73
                                  refine r_iload c135_85 rfl rfl ?_
                                  refine r_if_eq c135_87 rfl (show q_w32 (0) = 0 from rfl) ?_ ?_
                                  · intro b74
                                    refine r_iconst c135_94 rfl ?_
                                    refine r_istore_n c135_95 (lo' := [(2, _), (5, _), (4, _), (6, _), (3, _), (0, _), (1, _)]) rfl rfl rfl ?_
                                    refine r_iinc c135_96 rfl (by first | exact q_w32_id (by omega) (by omega) | exact q_w32w _ | exact rfl) (lo' := [(3, _), (2, _), (5, _), (4, _), (6, _), (0, _), (1, _)]) rfl rfl rfl ?_
                                    refine r_goto c135_99 ?_
                                    refine q_R.wk (ks := [3, 2, 0, 1]) (lo' := [(3, _), (2, _), (0, _), (1, _)]) rfl ?_
                                    exact ih (by first | omega | exact ⟨q_rg1 _, q_rg2 _⟩) rfl (by omega) (by first | assumption | decide | omega)
                                  · intro b74
                                    exact absurd b74.1 (by decide)
                              · intro b72
                                exact absurd b72.1 (by decide)
                            · intro b71
                              refine r_iconst c135_68 rfl ?_
                              refine r_goto c135_69 ?_
                              refine r_istore c135_73 (lo' := [(4, _), (6, _), (5, _), (3, _), (2, _), (0, _), (1, _)]) rfl rfl rfl ?_
                              refine r_iinc c135_75 rfl (show q_w32 (2 + (1)) = 3 from rfl) (lo' := [(5, _), (4, _), (6, _), (3, _), (2, _), (0, _), (1, _)]) rfl rfl rfl ?_
                              refine r_goto c135_78 ?_
                              refine r_iload c135_18 rfl rfl ?_
                              refine r_iconst c135_20 rfl ?_
                              refine r_ic_ge c135_21 rfl (show q_w32 (3) = 3 from rfl) (show q_w32 (3) = 3 from rfl) ?_ ?_
                              · intro b75
                                refine r_iload_n c135_81 rfl rfl ?_
                                refine r_if_ne c135_82 rfl (by first | exact q_w32_id (by omega) (by omega) | exact q_w32w _ | exact rfl) ?_ ?_
                                · intro b76
                                  refine r_iconst c135_90 rfl ?_
                                  refine r_goto c135_91 ?_
                                  refine r_istore_n c135_95 (lo' := [(2, _), (5, _), (4, _), (6, _), (3, _), (0, _), (1, _)]) rfl rfl rfl ?_
                                  refine r_iinc c135_96 rfl (by first | exact q_w32_id (by omega) (by omega) | exact q_w32w _ | exact rfl) (lo' := [(3, _), (2, _), (5, _), (4, _), (6, _), (0, _), (1, _)]) rfl rfl rfl ?_
                                  refine r_goto c135_99 ?_
                                  refine q_R.wk (ks := [3, 2, 0, 1]) (lo' := [(3, _), (2, _), (0, _), (1, _)]) rfl ?_
                                  exact ih (by first | omega | exact ⟨q_rg1 _, q_rg2 _⟩) rfl (by omega) (by first | assumption | decide | omega)
                                · intro b76
                                  refine r_iload c135_85 rfl rfl ?_
                                  refine r_if_eq c135_87 rfl (show q_w32 (1) = 1 from rfl) ?_ ?_
                                  · intro b77
                                    exact absurd b77.1 (by decide)
                                  · intro b77
                                    refine r_iconst c135_90 rfl ?_
                                    refine r_goto c135_91 ?_
                                    refine r_istore_n c135_95 (lo' := [(2, _), (5, _), (4, _), (6, _), (3, _), (0, _), (1, _)]) rfl rfl rfl ?_
                                    refine r_iinc c135_96 rfl (by first | exact q_w32_id (by omega) (by omega) | exact q_w32w _ | exact rfl) (lo' := [(3, _), (2, _), (5, _), (4, _), (6, _), (0, _), (1, _)]) rfl rfl rfl ?_
                                    refine r_goto c135_99 ?_
                                    refine q_R.wk (ks := [3, 2, 0, 1]) (lo' := [(3, _), (2, _), (0, _), (1, _)]) rfl ?_
                                    exact ih (by first | omega | exact ⟨q_rg1 _, q_rg2 _⟩) rfl (by omega) (by first | assumption | decide | omega)
                              · intro b75
                                exact absurd b75.1 (by decide)
                · intro b39
                  refine r_aload_n c135_28 rfl rfl ?_
                  refine r_iload_n c135_29 rfl rfl ?_
                  refine r_iconst c135_30 rfl ?_
                  refine r_isub c135_31 (by first | exact q_w32_id (by omega) (by omega) | exact q_w32w _ | exact rfl) rfl ?_
                  refine r_iload c135_32 rfl rfl ?_
                  refine r_vcG c135_34 (by first | assumption | omega) (by decide) (by first | assumption | rfl) rfl rfl rfl (k148 hG hZ (by first | assumption | exact q_hC (by assumption) | exact q_h1 (by assumption) | exact q_h3 (by assumption) | exact q_h5 (by assumption) | exact q_hG (by assumption) | exact q_hP | exact q_hB1 | exact q_hB2 | exact q_hT6 | exact q_hT15 | exact q_hT24)) ?_
                  intro t78 w78 g78 p78
                  obtain ⟨rfl, ⟨z78, rfl⟩, rfl⟩ := p78
                  refine Or.inr (Or.inl ⟨rfl, ?_⟩)
                  refine r_goto c135_37 ?_
                  refine r_istore c135_49 (lo' := [(6, _), (5, _), (4, _), (3, _), (2, _), (0, _), (1, _)]) rfl rfl rfl ?_
                  refine r_iload c135_51 rfl rfl ?_
                  refine r_if_eq c135_53 rfl (show q_w32 (1) = 1 from rfl) ?_ ?_
                  · intro b79
                    exact absurd b79.1 (by decide)
                  · intro b79
                    refine r_iload c135_56 rfl rfl ?_
                    refine r_aload_n c135_58 rfl rfl ?_
                    refine r_iload_n c135_59 rfl rfl ?_
                    refine r_iload c135_60 rfl rfl ?_
                    refine r_vcG c135_62 (by first | assumption | omega) (by decide) (by first | assumption | rfl) rfl rfl rfl (k148 hG hZ (by first | assumption | exact q_hC (by assumption) | exact q_h1 (by assumption) | exact q_h3 (by assumption) | exact q_h5 (by assumption) | exact q_hG (by assumption) | exact q_hP | exact q_hB1 | exact q_hB2 | exact q_hT6 | exact q_hT15 | exact q_hT24)) ?_
                    intro t80 w80 g80 p80
                    obtain ⟨rfl, ⟨z80, rfl⟩, rfl⟩ := p80
                    refine Or.inr (Or.inl ⟨rfl, ?_⟩)
                    refine r_ic_ne c135_65 rfl (by first | exact q_w32_id (by omega) (by omega) | exact q_w32w _ | exact rfl) (by first | exact q_w32_id (by omega) (by omega) | exact q_w32w _ | exact rfl) ?_ ?_
                    · intro b81
                      refine r_iconst c135_72 rfl ?_
                      refine r_istore c135_73 (lo' := [(4, _), (6, _), (5, _), (3, _), (2, _), (0, _), (1, _)]) rfl rfl rfl ?_
                      refine r_iinc c135_75 rfl (show q_w32 (1 + (1)) = 2 from rfl) (lo' := [(5, _), (4, _), (6, _), (3, _), (2, _), (0, _), (1, _)]) rfl rfl rfl ?_
                      refine r_goto c135_78 ?_
                      refine r_iload c135_18 rfl rfl ?_
                      refine r_iconst c135_20 rfl ?_
                      refine r_ic_ge c135_21 rfl (show q_w32 (2) = 2 from rfl) (show q_w32 (3) = 3 from rfl) ?_ ?_
                      · intro b82
                        exact absurd b82.1 (by decide)
                      · intro b82
                        refine r_iload_n c135_24 rfl rfl ?_
                        refine r_if_le c135_25 rfl (by first | exact q_w32_id (by omega) (by omega) | exact q_w32w _ | exact rfl) ?_ ?_
                        · intro b83
                          refine r_aload_n c135_40 rfl rfl ?_
                          refine r_iload c135_41 rfl rfl ?_
                          refine r_vcG c135_43 (by first | assumption | omega) (by decide) (by first | assumption | rfl) rfl rfl rfl (k125 hG hZ (by first | assumption | exact q_hC (by assumption) | exact q_h1 (by assumption) | exact q_h3 (by assumption) | exact q_h5 (by assumption) | exact q_hG (by assumption) | exact q_hP | exact q_hB1 | exact q_hB2 | exact q_hT6 | exact q_hT15 | exact q_hT24)) ?_
                          intro t84 w84 g84 p84
                          obtain ⟨rfl, ⟨r84, rfl, ha84, hr84⟩, rfl⟩ := p84
                          obtain ⟨fr840, fr841, fr842, fr843⟩ := q_fA ha84
                          refine Or.inr (Or.inl ⟨rfl, ?_⟩)
                          refine r_geti c135_46 (by first | assumption | omega) (by decide) (by first | assumption | rfl) rfl rfl ?_
                          refine r_istore c135_49 (lo' := [(6, _), (5, _), (4, _), (3, _), (2, _), (0, _), (1, _)]) rfl rfl rfl ?_
                          refine r_iload c135_51 rfl rfl ?_
                          refine r_if_eq c135_53 rfl (show q_w32 (0) = 0 from rfl) ?_ ?_
                          · intro b85
                            refine r_iconst c135_72 rfl ?_
                            refine r_istore c135_73 (lo' := [(4, _), (6, _), (5, _), (3, _), (2, _), (0, _), (1, _)]) rfl rfl rfl ?_
                            refine r_iinc c135_75 rfl (show q_w32 (2 + (1)) = 3 from rfl) (lo' := [(5, _), (4, _), (6, _), (3, _), (2, _), (0, _), (1, _)]) rfl rfl rfl ?_
                            refine r_goto c135_78 ?_
                            refine r_iload c135_18 rfl rfl ?_
                            refine r_iconst c135_20 rfl ?_
                            refine r_ic_ge c135_21 rfl (show q_w32 (3) = 3 from rfl) (show q_w32 (3) = 3 from rfl) ?_ ?_
                            · intro b86
                              refine r_iload_n c135_81 rfl rfl ?_
                              refine r_if_ne c135_82 rfl (by first | exact q_w32_id (by omega) (by omega) | exact q_w32w _ | exact rfl) ?_ ?_
                              · intro b87
                                refine r_iconst c135_90 rfl ?_
                                refine r_goto c135_91 ?_
                                refine r_istore_n c135_95 (lo' := [(2, _), (5, _), (4, _), (6, _), (3, _), (0, _), (1, _)]) rfl rfl rfl ?_
                                refine r_iinc c135_96 rfl (by first | exact q_w32_id (by omega) (by omega) | exact q_w32w _ | exact rfl) (lo' := [(3, _), (2, _), (5, _), (4, _), (6, _), (0, _), (1, _)]) rfl rfl rfl ?_
                                refine r_goto c135_99 ?_
                                refine q_R.wk (ks := [3, 2, 0, 1]) (lo' := [(3, _), (2, _), (0, _), (1, _)]) rfl ?_
                                exact ih (by first | omega | exact ⟨q_rg1 _, q_rg2 _⟩) rfl (by omega) (by first | assumption | decide | omega)
                              · intro b87
                                refine r_iload c135_85 rfl rfl ?_
                                refine r_if_eq c135_87 rfl (show q_w32 (0) = 0 from rfl) ?_ ?_
                                · intro b88
                                  refine r_iconst c135_94 rfl ?_
                                  refine r_istore_n c135_95 (lo' := [(2, _), (5, _), (4, _), (6, _), (3, _), (0, _), (1, _)]) rfl rfl rfl ?_
                                  refine r_iinc c135_96 rfl (by first | exact q_w32_id (by omega) (by omega) | exact q_w32w _ | exact rfl) (lo' := [(3, _), (2, _), (5, _), (4, _), (6, _), (0, _), (1, _)]) rfl rfl rfl ?_
                                  refine r_goto c135_99 ?_
                                  refine q_R.wk (ks := [3, 2, 0, 1]) (lo' := [(3, _), (2, _), (0, _), (1, _)]) rfl ?_
                                  exact ih (by first | omega | exact ⟨q_rg1 _, q_rg2 _⟩) rfl (by omega) (by first | assumption | decide | omega)
                                · intro b88
                                  exact absurd b88.1 (by decide)
                            · intro b86
                              exact absurd b86.1 (by decide)
                          · intro b85
                            exact absurd b85.1 (by decide)
                        · intro b83
                          refine r_aload_n c135_28 rfl rfl ?_
                          refine r_iload_n c135_29 rfl rfl ?_
                          refine r_iconst c135_30 rfl ?_
                          refine r_isub c135_31 (by first | exact q_w32_id (by omega) (by omega) | exact q_w32w _ | exact rfl) rfl ?_
                          refine r_iload c135_32 rfl rfl ?_
                          refine r_vcG c135_34 (by first | assumption | omega) (by decide) (by first | assumption | rfl) rfl rfl rfl (k148 hG hZ (by first | assumption | exact q_hC (by assumption) | exact q_h1 (by assumption) | exact q_h3 (by assumption) | exact q_h5 (by assumption) | exact q_hG (by assumption) | exact q_hP | exact q_hB1 | exact q_hB2 | exact q_hT6 | exact q_hT15 | exact q_hT24)) ?_
                          intro t89 w89 g89 p89
                          obtain ⟨rfl, ⟨z89, rfl⟩, rfl⟩ := p89
                          refine Or.inr (Or.inl ⟨rfl, ?_⟩)
                          refine r_goto c135_37 ?_
                          refine r_istore c135_49 (lo' := [(6, _), (5, _), (4, _), (3, _), (2, _), (0, _), (1, _)]) rfl rfl rfl ?_
                          refine r_iload c135_51 rfl rfl ?_
                          refine r_if_eq c135_53 rfl (show q_w32 (0) = 0 from rfl) ?_ ?_
                          · intro b90
                            refine r_iconst c135_72 rfl ?_
                            refine r_istore c135_73 (lo' := [(4, _), (6, _), (5, _), (3, _), (2, _), (0, _), (1, _)]) rfl rfl rfl ?_
                            refine r_iinc c135_75 rfl (show q_w32 (2 + (1)) = 3 from rfl) (lo' := [(5, _), (4, _), (6, _), (3, _), (2, _), (0, _), (1, _)]) rfl rfl rfl ?_
                            refine r_goto c135_78 ?_
                            refine r_iload c135_18 rfl rfl ?_
                            refine r_iconst c135_20 rfl ?_
                            refine r_ic_ge c135_21 rfl (show q_w32 (3) = 3 from rfl) (show q_w32 (3) = 3 from rfl) ?_ ?_
                            · intro b91
                              refine r_iload_n c135_81 rfl rfl ?_
                              refine r_if_ne c135_82 rfl (by first | exact q_w32_id (by omega) (by omega) | exact q_w32w _ | exact rfl) ?_ ?_
                              · intro b92
                                refine r_iconst c135_90 rfl ?_
                                refine r_goto c135_91 ?_
                                refine r_istore_n c135_95 (lo' := [(2, _), (5, _), (4, _), (6, _), (3, _), (0, _), (1, _)]) rfl rfl rfl ?_
                                refine r_iinc c135_96 rfl (by first | exact q_w32_id (by omega) (by omega) | exact q_w32w _ | exact rfl) (lo' := [(3, _), (2, _), (5, _), (4, _), (6, _), (0, _), (1, _)]) rfl rfl rfl ?_
                                refine r_goto c135_99 ?_
                                refine q_R.wk (ks := [3, 2, 0, 1]) (lo' := [(3, _), (2, _), (0, _), (1, _)]) rfl ?_
                                exact ih (by first | omega | exact ⟨q_rg1 _, q_rg2 _⟩) rfl (by omega) (by first | assumption | decide | omega)
                              · intro b92
                                refine r_iload c135_85 rfl rfl ?_
                                refine r_if_eq c135_87 rfl (show q_w32 (0) = 0 from rfl) ?_ ?_
                                · intro b93
                                  refine r_iconst c135_94 rfl ?_
                                  refine r_istore_n c135_95 (lo' := [(2, _), (5, _), (4, _), (6, _), (3, _), (0, _), (1, _)]) rfl rfl rfl ?_
                                  refine r_iinc c135_96 rfl (by first | exact q_w32_id (by omega) (by omega) | exact q_w32w _ | exact rfl) (lo' := [(3, _), (2, _), (5, _), (4, _), (6, _), (0, _), (1, _)]) rfl rfl rfl ?_
                                  refine r_goto c135_99 ?_
                                  refine q_R.wk (ks := [3, 2, 0, 1]) (lo' := [(3, _), (2, _), (0, _), (1, _)]) rfl ?_
                                  exact ih (by first | omega | exact ⟨q_rg1 _, q_rg2 _⟩) rfl (by omega) (by first | assumption | decide | omega)
                                · intro b93
                                  exact absurd b93.1 (by decide)
                            · intro b91
                              exact absurd b91.1 (by decide)
                          · intro b90
                            exact absurd b90.1 (by decide)
                    · intro b81
                      refine r_iconst c135_68 rfl ?_
                      refine r_goto c135_69 ?_
                      refine r_istore c135_73 (lo' := [(4, _), (6, _), (5, _), (3, _), (2, _), (0, _), (1, _)]) rfl rfl rfl ?_
                      refine r_iinc c135_75 rfl (show q_w32 (1 + (1)) = 2 from rfl) (lo' := [(5, _), (4, _), (6, _), (3, _), (2, _), (0, _), (1, _)]) rfl rfl rfl ?_
                      refine r_goto c135_78 ?_
                      refine r_iload c135_18 rfl rfl ?_
                      refine r_iconst c135_20 rfl ?_
                      refine r_ic_ge c135_21 rfl (show q_w32 (2) = 2 from rfl) (show q_w32 (3) = 3 from rfl) ?_ ?_
                      · intro b94
                        exact absurd b94.1 (by decide)
                      · intro b94
                        refine r_iload_n c135_24 rfl rfl ?_
                        refine r_if_le c135_25 rfl (by first | exact q_w32_id (by omega) (by omega) | exact q_w32w _ | exact rfl) ?_ ?_
                        · intro b95
                          refine r_aload_n c135_40 rfl rfl ?_
                          refine r_iload c135_41 rfl rfl ?_
                          refine r_vcG c135_43 (by first | assumption | omega) (by decide) (by first | assumption | rfl) rfl rfl rfl (k125 hG hZ (by first | assumption | exact q_hC (by assumption) | exact q_h1 (by assumption) | exact q_h3 (by assumption) | exact q_h5 (by assumption) | exact q_hG (by assumption) | exact q_hP | exact q_hB1 | exact q_hB2 | exact q_hT6 | exact q_hT15 | exact q_hT24)) ?_
                          intro t96 w96 g96 p96
                          obtain ⟨rfl, ⟨r96, rfl, ha96, hr96⟩, rfl⟩ := p96
                          obtain ⟨fr960, fr961, fr962, fr963⟩ := q_fA ha96
                          refine Or.inr (Or.inl ⟨rfl, ?_⟩)
                          refine r_geti c135_46 (by first | assumption | omega) (by decide) (by first | assumption | rfl) rfl rfl ?_
                          refine r_istore c135_49 (lo' := [(6, _), (5, _), (4, _), (3, _), (2, _), (0, _), (1, _)]) rfl rfl rfl ?_
                          refine r_iload c135_51 rfl rfl ?_
                          refine r_if_eq c135_53 rfl (show q_w32 (1) = 1 from rfl) ?_ ?_
                          · intro b97
                            exact absurd b97.1 (by decide)
                          · intro b97
                            refine r_iload c135_56 rfl rfl ?_
                            refine r_aload_n c135_58 rfl rfl ?_
                            refine r_iload_n c135_59 rfl rfl ?_
                            refine r_iload c135_60 rfl rfl ?_
                            refine r_vcG c135_62 (by first | assumption | omega) (by decide) (by first | assumption | rfl) rfl rfl rfl (k148 hG hZ (by first | assumption | exact q_hC (by assumption) | exact q_h1 (by assumption) | exact q_h3 (by assumption) | exact q_h5 (by assumption) | exact q_hG (by assumption) | exact q_hP | exact q_hB1 | exact q_hB2 | exact q_hT6 | exact q_hT15 | exact q_hT24)) ?_
                            intro t98 w98 g98 p98
                            obtain ⟨rfl, ⟨z98, rfl⟩, rfl⟩ := p98
                            refine Or.inr (Or.inl ⟨rfl, ?_⟩)
                            refine r_ic_ne c135_65 rfl (by first | exact q_w32_id (by omega) (by omega) | exact q_w32w _ | exact rfl) (by first | exact q_w32_id (by omega) (by omega) | exact q_w32w _ | exact rfl) ?_ ?_
                            · intro b99
                              refine r_iconst c135_72 rfl ?_
                              refine r_istore c135_73 (lo' := [(4, _), (6, _), (5, _), (3, _), (2, _), (0, _), (1, _)]) rfl rfl rfl ?_
                              refine r_iinc c135_75 rfl (show q_w32 (2 + (1)) = 3 from rfl) (lo' := [(5, _), (4, _), (6, _), (3, _), (2, _), (0, _), (1, _)]) rfl rfl rfl ?_
                              refine r_goto c135_78 ?_
                              refine r_iload c135_18 rfl rfl ?_
                              refine r_iconst c135_20 rfl ?_
                              refine r_ic_ge c135_21 rfl (show q_w32 (3) = 3 from rfl) (show q_w32 (3) = 3 from rfl) ?_ ?_
                              · intro b100
                                refine r_iload_n c135_81 rfl rfl ?_
                                refine r_if_ne c135_82 rfl (by first | exact q_w32_id (by omega) (by omega) | exact q_w32w _ | exact rfl) ?_ ?_
                                · intro b101
                                  refine r_iconst c135_90 rfl ?_
                                  refine r_goto c135_91 ?_
                                  refine r_istore_n c135_95 (lo' := [(2, _), (5, _), (4, _), (6, _), (3, _), (0, _), (1, _)]) rfl rfl rfl ?_
                                  refine r_iinc c135_96 rfl (by first | exact q_w32_id (by omega) (by omega) | exact q_w32w _ | exact rfl) (lo' := [(3, _), (2, _), (5, _), (4, _), (6, _), (0, _), (1, _)]) rfl rfl rfl ?_
                                  refine r_goto c135_99 ?_
                                  refine q_R.wk (ks := [3, 2, 0, 1]) (lo' := [(3, _), (2, _), (0, _), (1, _)]) rfl ?_
                                  exact ih (by first | omega | exact ⟨q_rg1 _, q_rg2 _⟩) rfl (by omega) (by first | assumption | decide | omega)
                                · intro b101
                                  refine r_iload c135_85 rfl rfl ?_
                                  refine r_if_eq c135_87 rfl (show q_w32 (0) = 0 from rfl) ?_ ?_
                                  · intro b102
                                    refine r_iconst c135_94 rfl ?_
                                    refine r_istore_n c135_95 (lo' := [(2, _), (5, _), (4, _), (6, _), (3, _), (0, _), (1, _)]) rfl rfl rfl ?_
                                    refine r_iinc c135_96 rfl (by first | exact q_w32_id (by omega) (by omega) | exact q_w32w _ | exact rfl) (lo' := [(3, _), (2, _), (5, _), (4, _), (6, _), (0, _), (1, _)]) rfl rfl rfl ?_
                                    refine r_goto c135_99 ?_
                                    refine q_R.wk (ks := [3, 2, 0, 1]) (lo' := [(3, _), (2, _), (0, _), (1, _)]) rfl ?_
                                    exact ih (by first | omega | exact ⟨q_rg1 _, q_rg2 _⟩) rfl (by omega) (by first | assumption | decide | omega)
                                  · intro b102
                                    exact absurd b102.1 (by decide)
                              · intro b100
                                exact absurd b100.1 (by decide)
                            · intro b99
                              refine r_iconst c135_68 rfl ?_
                              refine r_goto c135_69 ?_
                              refine r_istore c135_73 (lo' := [(4, _), (6, _), (5, _), (3, _), (2, _), (0, _), (1, _)]) rfl rfl rfl ?_
                              refine r_iinc c135_75 rfl (show q_w32 (2 + (1)) = 3 from rfl) (lo' := [(5, _), (4, _), (6, _), (3, _), (2, _), (0, _), (1, _)]) rfl rfl rfl ?_
                              refine r_goto c135_78 ?_
                              refine r_iload c135_18 rfl rfl ?_
                              refine r_iconst c135_20 rfl ?_
                              refine r_ic_ge c135_21 rfl (show q_w32 (3) = 3 from rfl) (show q_w32 (3) = 3 from rfl) ?_ ?_
                              · intro b103
                                refine r_iload_n c135_81 rfl rfl ?_
                                refine r_if_ne c135_82 rfl (by first | exact q_w32_id (by omega) (by omega) | exact q_w32w _ | exact rfl) ?_ ?_
                                · intro b104
                                  refine r_iconst c135_90 rfl ?_
                                  refine r_goto c135_91 ?_
                                  refine r_istore_n c135_95 (lo' := [(2, _), (5, _), (4, _), (6, _), (3, _), (0, _), (1, _)]) rfl rfl rfl ?_
                                  refine r_iinc c135_96 rfl (by first | exact q_w32_id (by omega) (by omega) | exact q_w32w _ | exact rfl) (lo' := [(3, _), (2, _), (5, _), (4, _), (6, _), (0, _), (1, _)]) rfl rfl rfl ?_
                                  refine r_goto c135_99 ?_
                                  refine q_R.wk (ks := [3, 2, 0, 1]) (lo' := [(3, _), (2, _), (0, _), (1, _)]) rfl ?_
                                  exact ih (by first | omega | exact ⟨q_rg1 _, q_rg2 _⟩) rfl (by omega) (by first | assumption | decide | omega)
                                · intro b104
                                  refine r_iload c135_85 rfl rfl ?_
                                  refine r_if_eq c135_87 rfl (show q_w32 (1) = 1 from rfl) ?_ ?_
                                  · intro b105
                                    exact absurd b105.1 (by decide)
                                  · intro b105
                                    refine r_iconst c135_90 rfl ?_
                                    refine r_goto c135_91 ?_
                                    refine r_istore_n c135_95 (lo' := [(2, _), (5, _), (4, _), (6, _), (3, _), (0, _), (1, _)]) rfl rfl rfl ?_
                                    refine r_iinc c135_96 rfl (by first | exact q_w32_id (by omega) (by omega) | exact q_w32w _ | exact rfl) (lo' := [(3, _), (2, _), (5, _), (4, _), (6, _), (0, _), (1, _)]) rfl rfl rfl ?_
                                    refine r_goto c135_99 ?_
                                    refine q_R.wk (ks := [3, 2, 0, 1]) (lo' := [(3, _), (2, _), (0, _), (1, _)]) rfl ?_
                                    exact ih (by first | omega | exact ⟨q_rg1 _, q_rg2 _⟩) rfl (by omega) (by first | assumption | decide | omega)
                              · intro b103
                                exact absurd b103.1 (by decide)
                        · intro b95
                          refine r_aload_n c135_28 rfl rfl ?_
                          refine r_iload_n c135_29 rfl rfl ?_
                          refine r_iconst c135_30 rfl ?_
                          refine r_isub c135_31 (by first | exact q_w32_id (by omega) (by omega) | exact q_w32w _ | exact rfl) rfl ?_
                          refine r_iload c135_32 rfl rfl ?_
                          refine r_vcG c135_34 (by first | assumption | omega) (by decide) (by first | assumption | rfl) rfl rfl rfl (k148 hG hZ (by first | assumption | exact q_hC (by assumption) | exact q_h1 (by assumption) | exact q_h3 (by assumption) | exact q_h5 (by assumption) | exact q_hG (by assumption) | exact q_hP | exact q_hB1 | exact q_hB2 | exact q_hT6 | exact q_hT15 | exact q_hT24)) ?_
                          intro t106 w106 g106 p106
                          obtain ⟨rfl, ⟨z106, rfl⟩, rfl⟩ := p106
                          refine Or.inr (Or.inl ⟨rfl, ?_⟩)
                          refine r_goto c135_37 ?_
                          refine r_istore c135_49 (lo' := [(6, _), (5, _), (4, _), (3, _), (2, _), (0, _), (1, _)]) rfl rfl rfl ?_
                          refine r_iload c135_51 rfl rfl ?_
                          refine r_if_eq c135_53 rfl (show q_w32 (1) = 1 from rfl) ?_ ?_
                          · intro b107
                            exact absurd b107.1 (by decide)
                          · intro b107
                            refine r_iload c135_56 rfl rfl ?_
                            refine r_aload_n c135_58 rfl rfl ?_
                            refine r_iload_n c135_59 rfl rfl ?_
                            refine r_iload c135_60 rfl rfl ?_
                            refine r_vcG c135_62 (by first | assumption | omega) (by decide) (by first | assumption | rfl) rfl rfl rfl (k148 hG hZ (by first | assumption | exact q_hC (by assumption) | exact q_h1 (by assumption) | exact q_h3 (by assumption) | exact q_h5 (by assumption) | exact q_hG (by assumption) | exact q_hP | exact q_hB1 | exact q_hB2 | exact q_hT6 | exact q_hT15 | exact q_hT24)) ?_
                            intro t108 w108 g108 p108
                            obtain ⟨rfl, ⟨z108, rfl⟩, rfl⟩ := p108
                            refine Or.inr (Or.inl ⟨rfl, ?_⟩)
                            refine r_ic_ne c135_65 rfl (by first | exact q_w32_id (by omega) (by omega) | exact q_w32w _ | exact rfl) (by first | exact q_w32_id (by omega) (by omega) | exact q_w32w _ | exact rfl) ?_ ?_
                            · intro b109
                              refine r_iconst c135_72 rfl ?_
                              refine r_istore c135_73 (lo' := [(4, _), (6, _), (5, _), (3, _), (2, _), (0, _), (1, _)]) rfl rfl rfl ?_
                              refine r_iinc c135_75 rfl (show q_w32 (2 + (1)) = 3 from rfl) (lo' := [(5, _), (4, _), (6, _), (3, _), (2, _), (0, _), (1, _)]) rfl rfl rfl ?_
                              refine r_goto c135_78 ?_
                              refine r_iload c135_18 rfl rfl ?_
                              refine r_iconst c135_20 rfl ?_
                              refine r_ic_ge c135_21 rfl (show q_w32 (3) = 3 from rfl) (show q_w32 (3) = 3 from rfl) ?_ ?_
                              · intro b110
                                refine r_iload_n c135_81 rfl rfl ?_
                                refine r_if_ne c135_82 rfl (by first | exact q_w32_id (by omega) (by omega) | exact q_w32w _ | exact rfl) ?_ ?_
                                · intro b111
                                  refine r_iconst c135_90 rfl ?_
                                  refine r_goto c135_91 ?_
                                  refine r_istore_n c135_95 (lo' := [(2, _), (5, _), (4, _), (6, _), (3, _), (0, _), (1, _)]) rfl rfl rfl ?_
                                  refine r_iinc c135_96 rfl (by first | exact q_w32_id (by omega) (by omega) | exact q_w32w _ | exact rfl) (lo' := [(3, _), (2, _), (5, _), (4, _), (6, _), (0, _), (1, _)]) rfl rfl rfl ?_
                                  refine r_goto c135_99 ?_
                                  refine q_R.wk (ks := [3, 2, 0, 1]) (lo' := [(3, _), (2, _), (0, _), (1, _)]) rfl ?_
                                  exact ih (by first | omega | exact ⟨q_rg1 _, q_rg2 _⟩) rfl (by omega) (by first | assumption | decide | omega)
                                · intro b111
                                  refine r_iload c135_85 rfl rfl ?_
                                  refine r_if_eq c135_87 rfl (show q_w32 (0) = 0 from rfl) ?_ ?_
                                  · intro b112
                                    refine r_iconst c135_94 rfl ?_
                                    refine r_istore_n c135_95 (lo' := [(2, _), (5, _), (4, _), (6, _), (3, _), (0, _), (1, _)]) rfl rfl rfl ?_
                                    refine r_iinc c135_96 rfl (by first | exact q_w32_id (by omega) (by omega) | exact q_w32w _ | exact rfl) (lo' := [(3, _), (2, _), (5, _), (4, _), (6, _), (0, _), (1, _)]) rfl rfl rfl ?_
                                    refine r_goto c135_99 ?_
                                    refine q_R.wk (ks := [3, 2, 0, 1]) (lo' := [(3, _), (2, _), (0, _), (1, _)]) rfl ?_
                                    exact ih (by first | omega | exact ⟨q_rg1 _, q_rg2 _⟩) rfl (by omega) (by first | assumption | decide | omega)
                                  · intro b112
                                    exact absurd b112.1 (by decide)
                              · intro b110
                                exact absurd b110.1 (by decide)
                            · intro b109
                              refine r_iconst c135_68 rfl ?_
                              refine r_goto c135_69 ?_
                              refine r_istore c135_73 (lo' := [(4, _), (6, _), (5, _), (3, _), (2, _), (0, _), (1, _)]) rfl rfl rfl ?_
                              refine r_iinc c135_75 rfl (show q_w32 (2 + (1)) = 3 from rfl) (lo' := [(5, _), (4, _), (6, _), (3, _), (2, _), (0, _), (1, _)]) rfl rfl rfl ?_
                              refine r_goto c135_78 ?_
                              refine r_iload c135_18 rfl rfl ?_
                              refine r_iconst c135_20 rfl ?_
                              refine r_ic_ge c135_21 rfl (show q_w32 (3) = 3 from rfl) (show q_w32 (3) = 3 from rfl) ?_ ?_
                              · intro b113
                                refine r_iload_n c135_81 rfl rfl ?_
                                refine r_if_ne c135_82 rfl (by first | exact q_w32_id (by omega) (by omega) | exact q_w32w _ | exact rfl) ?_ ?_
                                · intro b114
                                  refine r_iconst c135_90 rfl ?_
                                  refine r_goto c135_91 ?_
                                  refine r_istore_n c135_95 (lo' := [(2, _), (5, _), (4, _), (6, _), (3, _), (0, _), (1, _)]) rfl rfl rfl ?_
                                  refine r_iinc c135_96 rfl (by first | exact q_w32_id (by omega) (by omega) | exact q_w32w _ | exact rfl) (lo' := [(3, _), (2, _), (5, _), (4, _), (6, _), (0, _), (1, _)]) rfl rfl rfl ?_
                                  refine r_goto c135_99 ?_
                                  refine q_R.wk (ks := [3, 2, 0, 1]) (lo' := [(3, _), (2, _), (0, _), (1, _)]) rfl ?_
                                  exact ih (by first | omega | exact ⟨q_rg1 _, q_rg2 _⟩) rfl (by omega) (by first | assumption | decide | omega)
                                · intro b114
                                  refine r_iload c135_85 rfl rfl ?_
                                  refine r_if_eq c135_87 rfl (show q_w32 (1) = 1 from rfl) ?_ ?_
                                  · intro b115
                                    exact absurd b115.1 (by decide)
                                  · intro b115
                                    refine r_iconst c135_90 rfl ?_
                                    refine r_goto c135_91 ?_
                                    refine r_istore_n c135_95 (lo' := [(2, _), (5, _), (4, _), (6, _), (3, _), (0, _), (1, _)]) rfl rfl rfl ?_
                                    refine r_iinc c135_96 rfl (by first | exact q_w32_id (by omega) (by omega) | exact q_w32w _ | exact rfl) (lo' := [(3, _), (2, _), (5, _), (4, _), (6, _), (0, _), (1, _)]) rfl rfl rfl ?_
                                    refine r_goto c135_99 ?_
                                    refine q_R.wk (ks := [3, 2, 0, 1]) (lo' := [(3, _), (2, _), (0, _), (1, _)]) rfl ?_
                                    exact ih (by first | omega | exact ⟨q_rg1 _, q_rg2 _⟩) rfl (by omega) (by first | assumption | decide | omega)
                              · intro b113
                                exact absurd b113.1 (by decide)
        · intro b3
          refine r_aload_n c135_28 rfl rfl ?_
          refine r_iload_n c135_29 rfl rfl ?_
          refine r_iconst c135_30 rfl ?_
          refine r_isub c135_31 (by first | exact q_w32_id (by omega) (by omega) | exact q_w32w _ | exact rfl) rfl ?_
          refine r_iload c135_32 rfl rfl ?_
          refine r_vcG c135_34 (by first | assumption | omega) (by decide) (by first | assumption | rfl) rfl rfl rfl (k148 hG hZ (by first | assumption | exact q_hC (by assumption) | exact q_h1 (by assumption) | exact q_h3 (by assumption) | exact q_h5 (by assumption) | exact q_hG (by assumption) | exact q_hP | exact q_hB1 | exact q_hB2 | exact q_hT6 | exact q_hT15 | exact q_hT24)) ?_
          intro t116 w116 g116 p116
          obtain ⟨rfl, ⟨z116, rfl⟩, rfl⟩ := p116
          refine Or.inr (Or.inl ⟨rfl, ?_⟩)
          refine r_goto c135_37 ?_
          refine r_istore c135_49 (lo' := [(6, _), (5, _), (4, _), (3, _), (2, _), (0, _), (1, _)]) rfl rfl rfl ?_
          refine r_iload c135_51 rfl rfl ?_
          refine r_if_eq c135_53 rfl (show q_w32 (1) = 1 from rfl) ?_ ?_
          · intro b117
            exact absurd b117.1 (by decide)
          · intro b117
            refine r_iload c135_56 rfl rfl ?_
            refine r_aload_n c135_58 rfl rfl ?_
            refine r_iload_n c135_59 rfl rfl ?_
            refine r_iload c135_60 rfl rfl ?_
            refine r_vcG c135_62 (by first | assumption | omega) (by decide) (by first | assumption | rfl) rfl rfl rfl (k148 hG hZ (by first | assumption | exact q_hC (by assumption) | exact q_h1 (by assumption) | exact q_h3 (by assumption) | exact q_h5 (by assumption) | exact q_hG (by assumption) | exact q_hP | exact q_hB1 | exact q_hB2 | exact q_hT6 | exact q_hT15 | exact q_hT24)) ?_
            intro t118 w118 g118 p118
            obtain ⟨rfl, ⟨z118, rfl⟩, rfl⟩ := p118
            refine Or.inr (Or.inl ⟨rfl, ?_⟩)
            refine r_ic_ne c135_65 rfl (by first | exact q_w32_id (by omega) (by omega) | exact q_w32w _ | exact rfl) (by first | exact q_w32_id (by omega) (by omega) | exact q_w32w _ | exact rfl) ?_ ?_
            · intro b119
              refine r_iconst c135_72 rfl ?_
              refine r_istore c135_73 (lo' := [(4, _), (6, _), (5, _), (3, _), (2, _), (0, _), (1, _)]) rfl rfl rfl ?_
              refine r_iinc c135_75 rfl (show q_w32 (0 + (1)) = 1 from rfl) (lo' := [(5, _), (4, _), (6, _), (3, _), (2, _), (0, _), (1, _)]) rfl rfl rfl ?_
              refine r_goto c135_78 ?_
              refine r_iload c135_18 rfl rfl ?_
              refine r_iconst c135_20 rfl ?_
              refine r_ic_ge c135_21 rfl (show q_w32 (1) = 1 from rfl) (show q_w32 (3) = 3 from rfl) ?_ ?_
              · intro b120
                exact absurd b120.1 (by decide)
              · intro b120
                refine r_iload_n c135_24 rfl rfl ?_
                refine r_if_le c135_25 rfl (by first | exact q_w32_id (by omega) (by omega) | exact q_w32w _ | exact rfl) ?_ ?_
                · intro b121
                  refine r_aload_n c135_40 rfl rfl ?_
                  refine r_iload c135_41 rfl rfl ?_
                  refine r_vcG c135_43 (by first | assumption | omega) (by decide) (by first | assumption | rfl) rfl rfl rfl (k125 hG hZ (by first | assumption | exact q_hC (by assumption) | exact q_h1 (by assumption) | exact q_h3 (by assumption) | exact q_h5 (by assumption) | exact q_hG (by assumption) | exact q_hP | exact q_hB1 | exact q_hB2 | exact q_hT6 | exact q_hT15 | exact q_hT24)) ?_
                  intro t122 w122 g122 p122
                  obtain ⟨rfl, ⟨r122, rfl, ha122, hr122⟩, rfl⟩ := p122
                  obtain ⟨fr1220, fr1221, fr1222, fr1223⟩ := q_fA ha122
                  refine Or.inr (Or.inl ⟨rfl, ?_⟩)
                  refine r_geti c135_46 (by first | assumption | omega) (by decide) (by first | assumption | rfl) rfl rfl ?_
                  refine r_istore c135_49 (lo' := [(6, _), (5, _), (4, _), (3, _), (2, _), (0, _), (1, _)]) rfl rfl rfl ?_
                  refine r_iload c135_51 rfl rfl ?_
                  refine r_if_eq c135_53 rfl (show q_w32 (0) = 0 from rfl) ?_ ?_
                  · intro b123
                    refine r_iconst c135_72 rfl ?_
                    refine r_istore c135_73 (lo' := [(4, _), (6, _), (5, _), (3, _), (2, _), (0, _), (1, _)]) rfl rfl rfl ?_
                    refine r_iinc c135_75 rfl (show q_w32 (1 + (1)) = 2 from rfl) (lo' := [(5, _), (4, _), (6, _), (3, _), (2, _), (0, _), (1, _)]) rfl rfl rfl ?_
                    refine r_goto c135_78 ?_
                    refine r_iload c135_18 rfl rfl ?_
                    refine r_iconst c135_20 rfl ?_
                    refine r_ic_ge c135_21 rfl (show q_w32 (2) = 2 from rfl) (show q_w32 (3) = 3 from rfl) ?_ ?_
                    · intro b124
                      exact absurd b124.1 (by decide)
                    · intro b124
                      refine r_iload_n c135_24 rfl rfl ?_
                      refine r_if_le c135_25 rfl (by first | exact q_w32_id (by omega) (by omega) | exact q_w32w _ | exact rfl) ?_ ?_
                      · intro b125
                        refine r_aload_n c135_40 rfl rfl ?_
                        refine r_iload c135_41 rfl rfl ?_
                        refine r_vcG c135_43 (by first | assumption | omega) (by decide) (by first | assumption | rfl) rfl rfl rfl (k125 hG hZ (by first | assumption | exact q_hC (by assumption) | exact q_h1 (by assumption) | exact q_h3 (by assumption) | exact q_h5 (by assumption) | exact q_hG (by assumption) | exact q_hP | exact q_hB1 | exact q_hB2 | exact q_hT6 | exact q_hT15 | exact q_hT24)) ?_
                        intro t126 w126 g126 p126
                        obtain ⟨rfl, ⟨r126, rfl, ha126, hr126⟩, rfl⟩ := p126
                        obtain ⟨fr1260, fr1261, fr1262, fr1263⟩ := q_fA ha126
                        refine Or.inr (Or.inl ⟨rfl, ?_⟩)
                        refine r_geti c135_46 (by first | assumption | omega) (by decide) (by first | assumption | rfl) rfl rfl ?_
                        refine r_istore c135_49 (lo' := [(6, _), (5, _), (4, _), (3, _), (2, _), (0, _), (1, _)]) rfl rfl rfl ?_
                        refine r_iload c135_51 rfl rfl ?_
                        refine r_if_eq c135_53 rfl (show q_w32 (0) = 0 from rfl) ?_ ?_
                        · intro b127
                          refine r_iconst c135_72 rfl ?_
                          refine r_istore c135_73 (lo' := [(4, _), (6, _), (5, _), (3, _), (2, _), (0, _), (1, _)]) rfl rfl rfl ?_
                          refine r_iinc c135_75 rfl (show q_w32 (2 + (1)) = 3 from rfl) (lo' := [(5, _), (4, _), (6, _), (3, _), (2, _), (0, _), (1, _)]) rfl rfl rfl ?_
                          refine r_goto c135_78 ?_
                          refine r_iload c135_18 rfl rfl ?_
                          refine r_iconst c135_20 rfl ?_
                          refine r_ic_ge c135_21 rfl (show q_w32 (3) = 3 from rfl) (show q_w32 (3) = 3 from rfl) ?_ ?_
                          · intro b128
                            refine r_iload_n c135_81 rfl rfl ?_
                            refine r_if_ne c135_82 rfl (by first | exact q_w32_id (by omega) (by omega) | exact q_w32w _ | exact rfl) ?_ ?_
                            · intro b129
                              refine r_iconst c135_90 rfl ?_
                              refine r_goto c135_91 ?_
                              refine r_istore_n c135_95 (lo' := [(2, _), (5, _), (4, _), (6, _), (3, _), (0, _), (1, _)]) rfl rfl rfl ?_
                              refine r_iinc c135_96 rfl (by first | exact q_w32_id (by omega) (by omega) | exact q_w32w _ | exact rfl) (lo' := [(3, _), (2, _), (5, _), (4, _), (6, _), (0, _), (1, _)]) rfl rfl rfl ?_
                              refine r_goto c135_99 ?_
                              refine q_R.wk (ks := [3, 2, 0, 1]) (lo' := [(3, _), (2, _), (0, _), (1, _)]) rfl ?_
                              exact ih (by first | omega | exact ⟨q_rg1 _, q_rg2 _⟩) rfl (by omega) (by first | assumption | decide | omega)
                            · intro b129
                              refine r_iload c135_85 rfl rfl ?_
                              refine r_if_eq c135_87 rfl (show q_w32 (0) = 0 from rfl) ?_ ?_
                              · intro b130
                                refine r_iconst c135_94 rfl ?_
                                refine r_istore_n c135_95 (lo' := [(2, _), (5, _), (4, _), (6, _), (3, _), (0, _), (1, _)]) rfl rfl rfl ?_
                                refine r_iinc c135_96 rfl (by first | exact q_w32_id (by omega) (by omega) | exact q_w32w _ | exact rfl) (lo' := [(3, _), (2, _), (5, _), (4, _), (6, _), (0, _), (1, _)]) rfl rfl rfl ?_
                                refine r_goto c135_99 ?_
                                refine q_R.wk (ks := [3, 2, 0, 1]) (lo' := [(3, _), (2, _), (0, _), (1, _)]) rfl ?_
                                exact ih (by first | omega | exact ⟨q_rg1 _, q_rg2 _⟩) rfl (by omega) (by first | assumption | decide | omega)
                              · intro b130
                                exact absurd b130.1 (by decide)
                          · intro b128
                            exact absurd b128.1 (by decide)
                        · intro b127
                          exact absurd b127.1 (by decide)
                      · intro b125
                        refine r_aload_n c135_28 rfl rfl ?_
                        refine r_iload_n c135_29 rfl rfl ?_
                        refine r_iconst c135_30 rfl ?_
                        refine r_isub c135_31 (by first | exact q_w32_id (by omega) (by omega) | exact q_w32w _ | exact rfl) rfl ?_
                        refine r_iload c135_32 rfl rfl ?_
                        refine r_vcG c135_34 (by first | assumption | omega) (by decide) (by first | assumption | rfl) rfl rfl rfl (k148 hG hZ (by first | assumption | exact q_hC (by assumption) | exact q_h1 (by assumption) | exact q_h3 (by assumption) | exact q_h5 (by assumption) | exact q_hG (by assumption) | exact q_hP | exact q_hB1 | exact q_hB2 | exact q_hT6 | exact q_hT15 | exact q_hT24)) ?_
                        intro t131 w131 g131 p131
                        obtain ⟨rfl, ⟨z131, rfl⟩, rfl⟩ := p131
                        refine Or.inr (Or.inl ⟨rfl, ?_⟩)
                        refine r_goto c135_37 ?_
                        refine r_istore c135_49 (lo' := [(6, _), (5, _), (4, _), (3, _), (2, _), (0, _), (1, _)]) rfl rfl rfl ?_
                        refine r_iload c135_51 rfl rfl ?_
                        refine r_if_eq c135_53 rfl (show q_w32 (0) = 0 from rfl) ?_ ?_
                        · intro b132
                          refine r_iconst c135_72 rfl ?_
                          refine r_istore c135_73 (lo' := [(4, _), (6, _), (5, _), (3, _), (2, _), (0, _), (1, _)]) rfl rfl rfl ?_
                          refine r_iinc c135_75 rfl (show q_w32 (2 + (1)) = 3 from rfl) (lo' := [(5, _), (4, _), (6, _), (3, _), (2, _), (0, _), (1, _)]) rfl rfl rfl ?_
                          refine r_goto c135_78 ?_
                          refine r_iload c135_18 rfl rfl ?_
                          refine r_iconst c135_20 rfl ?_
                          refine r_ic_ge c135_21 rfl (show q_w32 (3) = 3 from rfl) (show q_w32 (3) = 3 from rfl) ?_ ?_
                          · intro b133
                            refine r_iload_n c135_81 rfl rfl ?_
                            refine r_if_ne c135_82 rfl (by first | exact q_w32_id (by omega) (by omega) | exact q_w32w _ | exact rfl) ?_ ?_
                            · intro b134
                              refine r_iconst c135_90 rfl ?_
                              refine r_goto c135_91 ?_
                              refine r_istore_n c135_95 (lo' := [(2, _), (5, _), (4, _), (6, _), (3, _), (0, _), (1, _)]) rfl rfl rfl ?_
                              refine r_iinc c135_96 rfl (by first | exact q_w32_id (by omega) (by omega) | exact q_w32w _ | exact rfl) (lo' := [(3, _), (2, _), (5, _), (4, _), (6, _), (0, _), (1, _)]) rfl rfl rfl ?_
                              refine r_goto c135_99 ?_
                              refine q_R.wk (ks := [3, 2, 0, 1]) (lo' := [(3, _), (2, _), (0, _), (1, _)]) rfl ?_
                              exact ih (by first | omega | exact ⟨q_rg1 _, q_rg2 _⟩) rfl (by omega) (by first | assumption | decide | omega)
                            · intro b134
                              refine r_iload c135_85 rfl rfl ?_
                              refine r_if_eq c135_87 rfl (show q_w32 (0) = 0 from rfl) ?_ ?_
                              · intro b135
                                refine r_iconst c135_94 rfl ?_
                                refine r_istore_n c135_95 (lo' := [(2, _), (5, _), (4, _), (6, _), (3, _), (0, _), (1, _)]) rfl rfl rfl ?_
                                refine r_iinc c135_96 rfl (by first | exact q_w32_id (by omega) (by omega) | exact q_w32w _ | exact rfl) (lo' := [(3, _), (2, _), (5, _), (4, _), (6, _), (0, _), (1, _)]) rfl rfl rfl ?_
                                refine r_goto c135_99 ?_
                                refine q_R.wk (ks := [3, 2, 0, 1]) (lo' := [(3, _), (2, _), (0, _), (1, _)]) rfl ?_
                                exact ih (by first | omega | exact ⟨q_rg1 _, q_rg2 _⟩) rfl (by omega) (by first | assumption | decide | omega)
                              · intro b135
                                exact absurd b135.1 (by decide)
                          · intro b133
                            exact absurd b133.1 (by decide)
                        · intro b132
                          exact absurd b132.1 (by decide)
                  · intro b123
                    exact absurd b123.1 (by decide)
                · intro b121
                  refine r_aload_n c135_28 rfl rfl ?_
                  refine r_iload_n c135_29 rfl rfl ?_
                  refine r_iconst c135_30 rfl ?_
                  refine r_isub c135_31 (by first | exact q_w32_id (by omega) (by omega) | exact q_w32w _ | exact rfl) rfl ?_
                  refine r_iload c135_32 rfl rfl ?_
                  refine r_vcG c135_34 (by first | assumption | omega) (by decide) (by first | assumption | rfl) rfl rfl rfl (k148 hG hZ (by first | assumption | exact q_hC (by assumption) | exact q_h1 (by assumption) | exact q_h3 (by assumption) | exact q_h5 (by assumption) | exact q_hG (by assumption) | exact q_hP | exact q_hB1 | exact q_hB2 | exact q_hT6 | exact q_hT15 | exact q_hT24)) ?_
                  intro t136 w136 g136 p136
                  obtain ⟨rfl, ⟨z136, rfl⟩, rfl⟩ := p136
                  refine Or.inr (Or.inl ⟨rfl, ?_⟩)
                  refine r_goto c135_37 ?_
                  refine r_istore c135_49 (lo' := [(6, _), (5, _), (4, _), (3, _), (2, _), (0, _), (1, _)]) rfl rfl rfl ?_
                  refine r_iload c135_51 rfl rfl ?_
                  refine r_if_eq c135_53 rfl (show q_w32 (0) = 0 from rfl) ?_ ?_
                  · intro b137
                    refine r_iconst c135_72 rfl ?_
                    refine r_istore c135_73 (lo' := [(4, _), (6, _), (5, _), (3, _), (2, _), (0, _), (1, _)]) rfl rfl rfl ?_
                    refine r_iinc c135_75 rfl (show q_w32 (1 + (1)) = 2 from rfl) (lo' := [(5, _), (4, _), (6, _), (3, _), (2, _), (0, _), (1, _)]) rfl rfl rfl ?_
                    refine r_goto c135_78 ?_
                    refine r_iload c135_18 rfl rfl ?_
                    refine r_iconst c135_20 rfl ?_
                    refine r_ic_ge c135_21 rfl (show q_w32 (2) = 2 from rfl) (show q_w32 (3) = 3 from rfl) ?_ ?_
                    · intro b138
                      exact absurd b138.1 (by decide)
                    · intro b138
                      refine r_iload_n c135_24 rfl rfl ?_
                      refine r_if_le c135_25 rfl (by first | exact q_w32_id (by omega) (by omega) | exact q_w32w _ | exact rfl) ?_ ?_
                      · intro b139
                        refine r_aload_n c135_40 rfl rfl ?_
                        refine r_iload c135_41 rfl rfl ?_
                        refine r_vcG c135_43 (by first | assumption | omega) (by decide) (by first | assumption | rfl) rfl rfl rfl (k125 hG hZ (by first | assumption | exact q_hC (by assumption) | exact q_h1 (by assumption) | exact q_h3 (by assumption) | exact q_h5 (by assumption) | exact q_hG (by assumption) | exact q_hP | exact q_hB1 | exact q_hB2 | exact q_hT6 | exact q_hT15 | exact q_hT24)) ?_
                        intro t140 w140 g140 p140
                        obtain ⟨rfl, ⟨r140, rfl, ha140, hr140⟩, rfl⟩ := p140
                        obtain ⟨fr1400, fr1401, fr1402, fr1403⟩ := q_fA ha140
                        refine Or.inr (Or.inl ⟨rfl, ?_⟩)
                        refine r_geti c135_46 (by first | assumption | omega) (by decide) (by first | assumption | rfl) rfl rfl ?_
                        refine r_istore c135_49 (lo' := [(6, _), (5, _), (4, _), (3, _), (2, _), (0, _), (1, _)]) rfl rfl rfl ?_
                        refine r_iload c135_51 rfl rfl ?_
                        refine r_if_eq c135_53 rfl (show q_w32 (0) = 0 from rfl) ?_ ?_
                        · intro b141
                          refine r_iconst c135_72 rfl ?_
                          refine r_istore c135_73 (lo' := [(4, _), (6, _), (5, _), (3, _), (2, _), (0, _), (1, _)]) rfl rfl rfl ?_
                          refine r_iinc c135_75 rfl (show q_w32 (2 + (1)) = 3 from rfl) (lo' := [(5, _), (4, _), (6, _), (3, _), (2, _), (0, _), (1, _)]) rfl rfl rfl ?_
                          refine r_goto c135_78 ?_
                          refine r_iload c135_18 rfl rfl ?_
                          refine r_iconst c135_20 rfl ?_
                          refine r_ic_ge c135_21 rfl (show q_w32 (3) = 3 from rfl) (show q_w32 (3) = 3 from rfl) ?_ ?_
                          · intro b142
                            refine r_iload_n c135_81 rfl rfl ?_
                            refine r_if_ne c135_82 rfl (by first | exact q_w32_id (by omega) (by omega) | exact q_w32w _ | exact rfl) ?_ ?_
                            · intro b143
                              refine r_iconst c135_90 rfl ?_
                              refine r_goto c135_91 ?_
                              refine r_istore_n c135_95 (lo' := [(2, _), (5, _), (4, _), (6, _), (3, _), (0, _), (1, _)]) rfl rfl rfl ?_
                              refine r_iinc c135_96 rfl (by first | exact q_w32_id (by omega) (by omega) | exact q_w32w _ | exact rfl) (lo' := [(3, _), (2, _), (5, _), (4, _), (6, _), (0, _), (1, _)]) rfl rfl rfl ?_
                              refine r_goto c135_99 ?_
                              refine q_R.wk (ks := [3, 2, 0, 1]) (lo' := [(3, _), (2, _), (0, _), (1, _)]) rfl ?_
                              exact ih (by first | omega | exact ⟨q_rg1 _, q_rg2 _⟩) rfl (by omega) (by first | assumption | decide | omega)
                            · intro b143
                              refine r_iload c135_85 rfl rfl ?_
                              refine r_if_eq c135_87 rfl (show q_w32 (0) = 0 from rfl) ?_ ?_
                              · intro b144
                                refine r_iconst c135_94 rfl ?_
                                refine r_istore_n c135_95 (lo' := [(2, _), (5, _), (4, _), (6, _), (3, _), (0, _), (1, _)]) rfl rfl rfl ?_
                                refine r_iinc c135_96 rfl (by first | exact q_w32_id (by omega) (by omega) | exact q_w32w _ | exact rfl) (lo' := [(3, _), (2, _), (5, _), (4, _), (6, _), (0, _), (1, _)]) rfl rfl rfl ?_
                                refine r_goto c135_99 ?_
                                refine q_R.wk (ks := [3, 2, 0, 1]) (lo' := [(3, _), (2, _), (0, _), (1, _)]) rfl ?_
                                exact ih (by first | omega | exact ⟨q_rg1 _, q_rg2 _⟩) rfl (by omega) (by first | assumption | decide | omega)
                              · intro b144
                                exact absurd b144.1 (by decide)
                          · intro b142
                            exact absurd b142.1 (by decide)
                        · intro b141
                          exact absurd b141.1 (by decide)
                      · intro b139
                        refine r_aload_n c135_28 rfl rfl ?_
                        refine r_iload_n c135_29 rfl rfl ?_
                        refine r_iconst c135_30 rfl ?_
                        refine r_isub c135_31 (by first | exact q_w32_id (by omega) (by omega) | exact q_w32w _ | exact rfl) rfl ?_
                        refine r_iload c135_32 rfl rfl ?_
                        refine r_vcG c135_34 (by first | assumption | omega) (by decide) (by first | assumption | rfl) rfl rfl rfl (k148 hG hZ (by first | assumption | exact q_hC (by assumption) | exact q_h1 (by assumption) | exact q_h3 (by assumption) | exact q_h5 (by assumption) | exact q_hG (by assumption) | exact q_hP | exact q_hB1 | exact q_hB2 | exact q_hT6 | exact q_hT15 | exact q_hT24)) ?_
                        intro t145 w145 g145 p145
                        obtain ⟨rfl, ⟨z145, rfl⟩, rfl⟩ := p145
                        refine Or.inr (Or.inl ⟨rfl, ?_⟩)
                        refine r_goto c135_37 ?_
                        refine r_istore c135_49 (lo' := [(6, _), (5, _), (4, _), (3, _), (2, _), (0, _), (1, _)]) rfl rfl rfl ?_
                        refine r_iload c135_51 rfl rfl ?_
                        refine r_if_eq c135_53 rfl (show q_w32 (0) = 0 from rfl) ?_ ?_
                        · intro b146
                          refine r_iconst c135_72 rfl ?_
                          refine r_istore c135_73 (lo' := [(4, _), (6, _), (5, _), (3, _), (2, _), (0, _), (1, _)]) rfl rfl rfl ?_
                          refine r_iinc c135_75 rfl (show q_w32 (2 + (1)) = 3 from rfl) (lo' := [(5, _), (4, _), (6, _), (3, _), (2, _), (0, _), (1, _)]) rfl rfl rfl ?_
                          refine r_goto c135_78 ?_
                          refine r_iload c135_18 rfl rfl ?_
                          refine r_iconst c135_20 rfl ?_
                          refine r_ic_ge c135_21 rfl (show q_w32 (3) = 3 from rfl) (show q_w32 (3) = 3 from rfl) ?_ ?_
                          · intro b147
                            refine r_iload_n c135_81 rfl rfl ?_
                            refine r_if_ne c135_82 rfl (by first | exact q_w32_id (by omega) (by omega) | exact q_w32w _ | exact rfl) ?_ ?_
                            · intro b148
                              refine r_iconst c135_90 rfl ?_
                              refine r_goto c135_91 ?_
                              refine r_istore_n c135_95 (lo' := [(2, _), (5, _), (4, _), (6, _), (3, _), (0, _), (1, _)]) rfl rfl rfl ?_
                              refine r_iinc c135_96 rfl (by first | exact q_w32_id (by omega) (by omega) | exact q_w32w _ | exact rfl) (lo' := [(3, _), (2, _), (5, _), (4, _), (6, _), (0, _), (1, _)]) rfl rfl rfl ?_
                              refine r_goto c135_99 ?_
                              refine q_R.wk (ks := [3, 2, 0, 1]) (lo' := [(3, _), (2, _), (0, _), (1, _)]) rfl ?_
                              exact ih (by first | omega | exact ⟨q_rg1 _, q_rg2 _⟩) rfl (by omega) (by first | assumption | decide | omega)
                            · intro b148
                              refine r_iload c135_85 rfl rfl ?_
                              refine r_if_eq c135_87 rfl (show q_w32 (0) = 0 from rfl) ?_ ?_
                              · intro b149
                                refine r_iconst c135_94 rfl ?_
                                refine r_istore_n c135_95 (lo' := [(2, _), (5, _), (4, _), (6, _), (3, _), (0, _), (1, _)]) rfl rfl rfl ?_
                                refine r_iinc c135_96 rfl (by first | exact q_w32_id (by omega) (by omega) | exact q_w32w _ | exact rfl) (lo' := [(3, _), (2, _), (5, _), (4, _), (6, _), (0, _), (1, _)]) rfl rfl rfl ?_
                                refine r_goto c135_99 ?_
                                refine q_R.wk (ks := [3, 2, 0, 1]) (lo' := [(3, _), (2, _), (0, _), (1, _)]) rfl ?_
                                exact ih (by first | omega | exact ⟨q_rg1 _, q_rg2 _⟩) rfl (by omega) (by first | assumption | decide | omega)
                              · intro b149
                                exact absurd b149.1 (by decide)
                          · intro b147
                            exact absurd b147.1 (by decide)
                        · intro b146
                          exact absurd b146.1 (by decide)
                  · intro b137
                    exact absurd b137.1 (by decide)
            · intro b119
              refine r_iconst c135_68 rfl ?_
              refine r_goto c135_69 ?_
              refine r_istore c135_73 (lo' := [(4, _), (6, _), (5, _), (3, _), (2, _), (0, _), (1, _)]) rfl rfl rfl ?_
              refine r_iinc c135_75 rfl (show q_w32 (0 + (1)) = 1 from rfl) (lo' := [(5, _), (4, _), (6, _), (3, _), (2, _), (0, _), (1, _)]) rfl rfl rfl ?_
              refine r_goto c135_78 ?_
              refine r_iload c135_18 rfl rfl ?_
              refine r_iconst c135_20 rfl ?_
              refine r_ic_ge c135_21 rfl (show q_w32 (1) = 1 from rfl) (show q_w32 (3) = 3 from rfl) ?_ ?_
              · intro b150
                exact absurd b150.1 (by decide)
              · intro b150
                refine r_iload_n c135_24 rfl rfl ?_
                refine r_if_le c135_25 rfl (by first | exact q_w32_id (by omega) (by omega) | exact q_w32w _ | exact rfl) ?_ ?_
                · intro b151
                  refine r_aload_n c135_40 rfl rfl ?_
                  refine r_iload c135_41 rfl rfl ?_
                  refine r_vcG c135_43 (by first | assumption | omega) (by decide) (by first | assumption | rfl) rfl rfl rfl (k125 hG hZ (by first | assumption | exact q_hC (by assumption) | exact q_h1 (by assumption) | exact q_h3 (by assumption) | exact q_h5 (by assumption) | exact q_hG (by assumption) | exact q_hP | exact q_hB1 | exact q_hB2 | exact q_hT6 | exact q_hT15 | exact q_hT24)) ?_
                  intro t152 w152 g152 p152
                  obtain ⟨rfl, ⟨r152, rfl, ha152, hr152⟩, rfl⟩ := p152
                  obtain ⟨fr1520, fr1521, fr1522, fr1523⟩ := q_fA ha152
                  refine Or.inr (Or.inl ⟨rfl, ?_⟩)
                  refine r_geti c135_46 (by first | assumption | omega) (by decide) (by first | assumption | rfl) rfl rfl ?_
                  refine r_istore c135_49 (lo' := [(6, _), (5, _), (4, _), (3, _), (2, _), (0, _), (1, _)]) rfl rfl rfl ?_
                  refine r_iload c135_51 rfl rfl ?_
                  refine r_if_eq c135_53 rfl (show q_w32 (1) = 1 from rfl) ?_ ?_
                  · intro b153
                    exact absurd b153.1 (by decide)
                  · intro b153
                    refine r_iload c135_56 rfl rfl ?_
                    refine r_aload_n c135_58 rfl rfl ?_
                    refine r_iload_n c135_59 rfl rfl ?_
                    refine r_iload c135_60 rfl rfl ?_
                    refine r_vcG c135_62 (by first | assumption | omega) (by decide) (by first | assumption | rfl) rfl rfl rfl (k148 hG hZ (by first | assumption | exact q_hC (by assumption) | exact q_h1 (by assumption) | exact q_h3 (by assumption) | exact q_h5 (by assumption) | exact q_hG (by assumption) | exact q_hP | exact q_hB1 | exact q_hB2 | exact q_hT6 | exact q_hT15 | exact q_hT24)) ?_
                    intro t154 w154 g154 p154
                    obtain ⟨rfl, ⟨z154, rfl⟩, rfl⟩ := p154
                    refine Or.inr (Or.inl ⟨rfl, ?_⟩)
                    refine r_ic_ne c135_65 rfl (by first | exact q_w32_id (by omega) (by omega) | exact q_w32w _ | exact rfl) (by first | exact q_w32_id (by omega) (by omega) | exact q_w32w _ | exact rfl) ?_ ?_
                    · intro b155
                      refine r_iconst c135_72 rfl ?_
                      refine r_istore c135_73 (lo' := [(4, _), (6, _), (5, _), (3, _), (2, _), (0, _), (1, _)]) rfl rfl rfl ?_
                      refine r_iinc c135_75 rfl (show q_w32 (1 + (1)) = 2 from rfl) (lo' := [(5, _), (4, _), (6, _), (3, _), (2, _), (0, _), (1, _)]) rfl rfl rfl ?_
                      refine r_goto c135_78 ?_
                      refine r_iload c135_18 rfl rfl ?_
                      refine r_iconst c135_20 rfl ?_
                      refine r_ic_ge c135_21 rfl (show q_w32 (2) = 2 from rfl) (show q_w32 (3) = 3 from rfl) ?_ ?_
                      · intro b156
                        exact absurd b156.1 (by decide)
                      · intro b156
                        refine r_iload_n c135_24 rfl rfl ?_
                        refine r_if_le c135_25 rfl (by first | exact q_w32_id (by omega) (by omega) | exact q_w32w _ | exact rfl) ?_ ?_
                        · intro b157
                          refine r_aload_n c135_40 rfl rfl ?_
                          refine r_iload c135_41 rfl rfl ?_
                          refine r_vcG c135_43 (by first | assumption | omega) (by decide) (by first | assumption | rfl) rfl rfl rfl (k125 hG hZ (by first | assumption | exact q_hC (by assumption) | exact q_h1 (by assumption) | exact q_h3 (by assumption) | exact q_h5 (by assumption) | exact q_hG (by assumption) | exact q_hP | exact q_hB1 | exact q_hB2 | exact q_hT6 | exact q_hT15 | exact q_hT24)) ?_
                          intro t158 w158 g158 p158
                          obtain ⟨rfl, ⟨r158, rfl, ha158, hr158⟩, rfl⟩ := p158
                          obtain ⟨fr1580, fr1581, fr1582, fr1583⟩ := q_fA ha158
                          refine Or.inr (Or.inl ⟨rfl, ?_⟩)
                          refine r_geti c135_46 (by first | assumption | omega) (by decide) (by first | assumption | rfl) rfl rfl ?_
                          refine r_istore c135_49 (lo' := [(6, _), (5, _), (4, _), (3, _), (2, _), (0, _), (1, _)]) rfl rfl rfl ?_
                          refine r_iload c135_51 rfl rfl ?_
                          refine r_if_eq c135_53 rfl (show q_w32 (0) = 0 from rfl) ?_ ?_
                          · intro b159
                            refine r_iconst c135_72 rfl ?_
                            refine r_istore c135_73 (lo' := [(4, _), (6, _), (5, _), (3, _), (2, _), (0, _), (1, _)]) rfl rfl rfl ?_
                            refine r_iinc c135_75 rfl (show q_w32 (2 + (1)) = 3 from rfl) (lo' := [(5, _), (4, _), (6, _), (3, _), (2, _), (0, _), (1, _)]) rfl rfl rfl ?_
                            refine r_goto c135_78 ?_
                            refine r_iload c135_18 rfl rfl ?_
                            refine r_iconst c135_20 rfl ?_
                            refine r_ic_ge c135_21 rfl (show q_w32 (3) = 3 from rfl) (show q_w32 (3) = 3 from rfl) ?_ ?_
                            · intro b160
                              refine r_iload_n c135_81 rfl rfl ?_
                              refine r_if_ne c135_82 rfl (by first | exact q_w32_id (by omega) (by omega) | exact q_w32w _ | exact rfl) ?_ ?_
                              · intro b161
                                refine r_iconst c135_90 rfl ?_
                                refine r_goto c135_91 ?_
                                refine r_istore_n c135_95 (lo' := [(2, _), (5, _), (4, _), (6, _), (3, _), (0, _), (1, _)]) rfl rfl rfl ?_
                                refine r_iinc c135_96 rfl (by first | exact q_w32_id (by omega) (by omega) | exact q_w32w _ | exact rfl) (lo' := [(3, _), (2, _), (5, _), (4, _), (6, _), (0, _), (1, _)]) rfl rfl rfl ?_
                                refine r_goto c135_99 ?_
                                refine q_R.wk (ks := [3, 2, 0, 1]) (lo' := [(3, _), (2, _), (0, _), (1, _)]) rfl ?_
                                exact ih (by first | omega | exact ⟨q_rg1 _, q_rg2 _⟩) rfl (by omega) (by first | assumption | decide | omega)
                              · intro b161
                                refine r_iload c135_85 rfl rfl ?_
                                refine r_if_eq c135_87 rfl (show q_w32 (0) = 0 from rfl) ?_ ?_
                                · intro b162
                                  refine r_iconst c135_94 rfl ?_
                                  refine r_istore_n c135_95 (lo' := [(2, _), (5, _), (4, _), (6, _), (3, _), (0, _), (1, _)]) rfl rfl rfl ?_
                                  refine r_iinc c135_96 rfl (by first | exact q_w32_id (by omega) (by omega) | exact q_w32w _ | exact rfl) (lo' := [(3, _), (2, _), (5, _), (4, _), (6, _), (0, _), (1, _)]) rfl rfl rfl ?_
                                  refine r_goto c135_99 ?_
                                  refine q_R.wk (ks := [3, 2, 0, 1]) (lo' := [(3, _), (2, _), (0, _), (1, _)]) rfl ?_
                                  exact ih (by first | omega | exact ⟨q_rg1 _, q_rg2 _⟩) rfl (by omega) (by first | assumption | decide | omega)
                                · intro b162
                                  exact absurd b162.1 (by decide)
                            · intro b160
                              exact absurd b160.1 (by decide)
                          · intro b159
                            exact absurd b159.1 (by decide)
                        · intro b157
                          refine r_aload_n c135_28 rfl rfl ?_
                          refine r_iload_n c135_29 rfl rfl ?_
                          refine r_iconst c135_30 rfl ?_
                          refine r_isub c135_31 (by first | exact q_w32_id (by omega) (by omega) | exact q_w32w _ | exact rfl) rfl ?_
                          refine r_iload c135_32 rfl rfl ?_
                          refine r_vcG c135_34 (by first | assumption | omega) (by decide) (by first | assumption | rfl) rfl rfl rfl (k148 hG hZ (by first | assumption | exact q_hC (by assumption) | exact q_h1 (by assumption) | exact q_h3 (by assumption) | exact q_h5 (by assumption) | exact q_hG (by assumption) | exact q_hP | exact q_hB1 | exact q_hB2 | exact q_hT6 | exact q_hT15 | exact q_hT24)) ?_
                          intro t163 w163 g163 p163
                          obtain ⟨rfl, ⟨z163, rfl⟩, rfl⟩ := p163
                          refine Or.inr (Or.inl ⟨rfl, ?_⟩)
                          refine r_goto c135_37 ?_
                          refine r_istore c135_49 (lo' := [(6, _), (5, _), (4, _), (3, _), (2, _), (0, _), (1, _)]) rfl rfl rfl ?_
                          refine r_iload c135_51 rfl rfl ?_
                          refine r_if_eq c135_53 rfl (show q_w32 (0) = 0 from rfl) ?_ ?_
                          · intro b164
                            refine r_iconst c135_72 rfl ?_
                            refine r_istore c135_73 (lo' := [(4, _), (6, _), (5, _), (3, _), (2, _), (0, _), (1, _)]) rfl rfl rfl ?_
                            refine r_iinc c135_75 rfl (show q_w32 (2 + (1)) = 3 from rfl) (lo' := [(5, _), (4, _), (6, _), (3, _), (2, _), (0, _), (1, _)]) rfl rfl rfl ?_
                            refine r_goto c135_78 ?_
                            refine r_iload c135_18 rfl rfl ?_
                            refine r_iconst c135_20 rfl ?_
                            refine r_ic_ge c135_21 rfl (show q_w32 (3) = 3 from rfl) (show q_w32 (3) = 3 from rfl) ?_ ?_
                            · intro b165
                              refine r_iload_n c135_81 rfl rfl ?_
                              refine r_if_ne c135_82 rfl (by first | exact q_w32_id (by omega) (by omega) | exact q_w32w _ | exact rfl) ?_ ?_
                              · intro b166
                                refine r_iconst c135_90 rfl ?_
                                refine r_goto c135_91 ?_
                                refine r_istore_n c135_95 (lo' := [(2, _), (5, _), (4, _), (6, _), (3, _), (0, _), (1, _)]) rfl rfl rfl ?_
                                refine r_iinc c135_96 rfl (by first | exact q_w32_id (by omega) (by omega) | exact q_w32w _ | exact rfl) (lo' := [(3, _), (2, _), (5, _), (4, _), (6, _), (0, _), (1, _)]) rfl rfl rfl ?_
                                refine r_goto c135_99 ?_
                                refine q_R.wk (ks := [3, 2, 0, 1]) (lo' := [(3, _), (2, _), (0, _), (1, _)]) rfl ?_
                                exact ih (by first | omega | exact ⟨q_rg1 _, q_rg2 _⟩) rfl (by omega) (by first | assumption | decide | omega)
                              · intro b166
                                refine r_iload c135_85 rfl rfl ?_
                                refine r_if_eq c135_87 rfl (show q_w32 (0) = 0 from rfl) ?_ ?_
                                · intro b167
                                  refine r_iconst c135_94 rfl ?_
                                  refine r_istore_n c135_95 (lo' := [(2, _), (5, _), (4, _), (6, _), (3, _), (0, _), (1, _)]) rfl rfl rfl ?_
                                  refine r_iinc c135_96 rfl (by first | exact q_w32_id (by omega) (by omega) | exact q_w32w _ | exact rfl) (lo' := [(3, _), (2, _), (5, _), (4, _), (6, _), (0, _), (1, _)]) rfl rfl rfl ?_
                                  refine r_goto c135_99 ?_
                                  refine q_R.wk (ks := [3, 2, 0, 1]) (lo' := [(3, _), (2, _), (0, _), (1, _)]) rfl ?_
                                  exact ih (by first | omega | exact ⟨q_rg1 _, q_rg2 _⟩) rfl (by omega) (by first | assumption | decide | omega)
                                · intro b167
                                  exact absurd b167.1 (by decide)
                            · intro b165
                              exact absurd b165.1 (by decide)
                          · intro b164
                            exact absurd b164.1 (by decide)
                    · intro b155
                      refine r_iconst c135_68 rfl ?_
                      refine r_goto c135_69 ?_
                      refine r_istore c135_73 (lo' := [(4, _), (6, _), (5, _), (3, _), (2, _), (0, _), (1, _)]) rfl rfl rfl ?_
                      refine r_iinc c135_75 rfl (show q_w32 (1 + (1)) = 2 from rfl) (lo' := [(5, _), (4, _), (6, _), (3, _), (2, _), (0, _), (1, _)]) rfl rfl rfl ?_
                      refine r_goto c135_78 ?_
                      refine r_iload c135_18 rfl rfl ?_
                      refine r_iconst c135_20 rfl ?_
                      refine r_ic_ge c135_21 rfl (show q_w32 (2) = 2 from rfl) (show q_w32 (3) = 3 from rfl) ?_ ?_
                      · intro b168
                        exact absurd b168.1 (by decide)
                      · intro b168
                        refine r_iload_n c135_24 rfl rfl ?_
                        refine r_if_le c135_25 rfl (by first | exact q_w32_id (by omega) (by omega) | exact q_w32w _ | exact rfl) ?_ ?_
                        · intro b169
                          refine r_aload_n c135_40 rfl rfl ?_
                          refine r_iload c135_41 rfl rfl ?_
                          refine r_vcG c135_43 (by first | assumption | omega) (by decide) (by first | assumption | rfl) rfl rfl rfl (k125 hG hZ (by first | assumption | exact q_hC (by assumption) | exact q_h1 (by assumption) | exact q_h3 (by assumption) | exact q_h5 (by assumption) | exact q_hG (by assumption) | exact q_hP | exact q_hB1 | exact q_hB2 | exact q_hT6 | exact q_hT15 | exact q_hT24)) ?_
                          intro t170 w170 g170 p170
                          obtain ⟨rfl, ⟨r170, rfl, ha170, hr170⟩, rfl⟩ := p170
                          obtain ⟨fr1700, fr1701, fr1702, fr1703⟩ := q_fA ha170
                          refine Or.inr (Or.inl ⟨rfl, ?_⟩)
                          refine r_geti c135_46 (by first | assumption | omega) (by decide) (by first | assumption | rfl) rfl rfl ?_
                          refine r_istore c135_49 (lo' := [(6, _), (5, _), (4, _), (3, _), (2, _), (0, _), (1, _)]) rfl rfl rfl ?_
                          refine r_iload c135_51 rfl rfl ?_
                          refine r_if_eq c135_53 rfl (show q_w32 (1) = 1 from rfl) ?_ ?_
                          · intro b171
                            exact absurd b171.1 (by decide)
                          · intro b171
                            refine r_iload c135_56 rfl rfl ?_
                            refine r_aload_n c135_58 rfl rfl ?_
                            refine r_iload_n c135_59 rfl rfl ?_
                            refine r_iload c135_60 rfl rfl ?_
                            refine r_vcG c135_62 (by first | assumption | omega) (by decide) (by first | assumption | rfl) rfl rfl rfl (k148 hG hZ (by first | assumption | exact q_hC (by assumption) | exact q_h1 (by assumption) | exact q_h3 (by assumption) | exact q_h5 (by assumption) | exact q_hG (by assumption) | exact q_hP | exact q_hB1 | exact q_hB2 | exact q_hT6 | exact q_hT15 | exact q_hT24)) ?_
                            intro t172 w172 g172 p172
                            obtain ⟨rfl, ⟨z172, rfl⟩, rfl⟩ := p172
                            refine Or.inr (Or.inl ⟨rfl, ?_⟩)
                            refine r_ic_ne c135_65 rfl (by first | exact q_w32_id (by omega) (by omega) | exact q_w32w _ | exact rfl) (by first | exact q_w32_id (by omega) (by omega) | exact q_w32w _ | exact rfl) ?_ ?_
                            · intro b173
                              refine r_iconst c135_72 rfl ?_
                              refine r_istore c135_73 (lo' := [(4, _), (6, _), (5, _), (3, _), (2, _), (0, _), (1, _)]) rfl rfl rfl ?_
                              refine r_iinc c135_75 rfl (show q_w32 (2 + (1)) = 3 from rfl) (lo' := [(5, _), (4, _), (6, _), (3, _), (2, _), (0, _), (1, _)]) rfl rfl rfl ?_
                              refine r_goto c135_78 ?_
                              refine r_iload c135_18 rfl rfl ?_
                              refine r_iconst c135_20 rfl ?_
                              refine r_ic_ge c135_21 rfl (show q_w32 (3) = 3 from rfl) (show q_w32 (3) = 3 from rfl) ?_ ?_
                              · intro b174
                                refine r_iload_n c135_81 rfl rfl ?_
                                refine r_if_ne c135_82 rfl (by first | exact q_w32_id (by omega) (by omega) | exact q_w32w _ | exact rfl) ?_ ?_
                                · intro b175
                                  refine r_iconst c135_90 rfl ?_
                                  refine r_goto c135_91 ?_
                                  refine r_istore_n c135_95 (lo' := [(2, _), (5, _), (4, _), (6, _), (3, _), (0, _), (1, _)]) rfl rfl rfl ?_
                                  refine r_iinc c135_96 rfl (by first | exact q_w32_id (by omega) (by omega) | exact q_w32w _ | exact rfl) (lo' := [(3, _), (2, _), (5, _), (4, _), (6, _), (0, _), (1, _)]) rfl rfl rfl ?_
                                  refine r_goto c135_99 ?_
                                  refine q_R.wk (ks := [3, 2, 0, 1]) (lo' := [(3, _), (2, _), (0, _), (1, _)]) rfl ?_
                                  exact ih (by first | omega | exact ⟨q_rg1 _, q_rg2 _⟩) rfl (by omega) (by first | assumption | decide | omega)
                                · intro b175
                                  refine r_iload c135_85 rfl rfl ?_
                                  refine r_if_eq c135_87 rfl (show q_w32 (0) = 0 from rfl) ?_ ?_
                                  · intro b176
                                    refine r_iconst c135_94 rfl ?_
                                    refine r_istore_n c135_95 (lo' := [(2, _), (5, _), (4, _), (6, _), (3, _), (0, _), (1, _)]) rfl rfl rfl ?_
                                    refine r_iinc c135_96 rfl (by first | exact q_w32_id (by omega) (by omega) | exact q_w32w _ | exact rfl) (lo' := [(3, _), (2, _), (5, _), (4, _), (6, _), (0, _), (1, _)]) rfl rfl rfl ?_
                                    refine r_goto c135_99 ?_
                                    refine q_R.wk (ks := [3, 2, 0, 1]) (lo' := [(3, _), (2, _), (0, _), (1, _)]) rfl ?_
                                    exact ih (by first | omega | exact ⟨q_rg1 _, q_rg2 _⟩) rfl (by omega) (by first | assumption | decide | omega)
                                  · intro b176
                                    exact absurd b176.1 (by decide)
                              · intro b174
                                exact absurd b174.1 (by decide)
                            · intro b173
                              refine r_iconst c135_68 rfl ?_
                              refine r_goto c135_69 ?_
                              refine r_istore c135_73 (lo' := [(4, _), (6, _), (5, _), (3, _), (2, _), (0, _), (1, _)]) rfl rfl rfl ?_
                              refine r_iinc c135_75 rfl (show q_w32 (2 + (1)) = 3 from rfl) (lo' := [(5, _), (4, _), (6, _), (3, _), (2, _), (0, _), (1, _)]) rfl rfl rfl ?_
                              refine r_goto c135_78 ?_
                              refine r_iload c135_18 rfl rfl ?_
                              refine r_iconst c135_20 rfl ?_
                              refine r_ic_ge c135_21 rfl (show q_w32 (3) = 3 from rfl) (show q_w32 (3) = 3 from rfl) ?_ ?_
                              · intro b177
                                refine r_iload_n c135_81 rfl rfl ?_
                                refine r_if_ne c135_82 rfl (by first | exact q_w32_id (by omega) (by omega) | exact q_w32w _ | exact rfl) ?_ ?_
                                · intro b178
                                  refine r_iconst c135_90 rfl ?_
                                  refine r_goto c135_91 ?_
                                  refine r_istore_n c135_95 (lo' := [(2, _), (5, _), (4, _), (6, _), (3, _), (0, _), (1, _)]) rfl rfl rfl ?_
                                  refine r_iinc c135_96 rfl (by first | exact q_w32_id (by omega) (by omega) | exact q_w32w _ | exact rfl) (lo' := [(3, _), (2, _), (5, _), (4, _), (6, _), (0, _), (1, _)]) rfl rfl rfl ?_
                                  refine r_goto c135_99 ?_
                                  refine q_R.wk (ks := [3, 2, 0, 1]) (lo' := [(3, _), (2, _), (0, _), (1, _)]) rfl ?_
                                  exact ih (by first | omega | exact ⟨q_rg1 _, q_rg2 _⟩) rfl (by omega) (by first | assumption | decide | omega)
                                · intro b178
                                  refine r_iload c135_85 rfl rfl ?_
                                  refine r_if_eq c135_87 rfl (show q_w32 (1) = 1 from rfl) ?_ ?_
                                  · intro b179
                                    exact absurd b179.1 (by decide)
                                  · intro b179
                                    refine r_iconst c135_90 rfl ?_
                                    refine r_goto c135_91 ?_
                                    refine r_istore_n c135_95 (lo' := [(2, _), (5, _), (4, _), (6, _), (3, _), (0, _), (1, _)]) rfl rfl rfl ?_
                                    refine r_iinc c135_96 rfl (by first | exact q_w32_id (by omega) (by omega) | exact q_w32w _ | exact rfl) (lo' := [(3, _), (2, _), (5, _), (4, _), (6, _), (0, _), (1, _)]) rfl rfl rfl ?_
                                    refine r_goto c135_99 ?_
                                    refine q_R.wk (ks := [3, 2, 0, 1]) (lo' := [(3, _), (2, _), (0, _), (1, _)]) rfl ?_
                                    exact ih (by first | omega | exact ⟨q_rg1 _, q_rg2 _⟩) rfl (by omega) (by first | assumption | decide | omega)
                              · intro b177
                                exact absurd b177.1 (by decide)
                        · intro b169
                          refine r_aload_n c135_28 rfl rfl ?_
                          refine r_iload_n c135_29 rfl rfl ?_
                          refine r_iconst c135_30 rfl ?_
                          refine r_isub c135_31 (by first | exact q_w32_id (by omega) (by omega) | exact q_w32w _ | exact rfl) rfl ?_
                          refine r_iload c135_32 rfl rfl ?_
                          refine r_vcG c135_34 (by first | assumption | omega) (by decide) (by first | assumption | rfl) rfl rfl rfl (k148 hG hZ (by first | assumption | exact q_hC (by assumption) | exact q_h1 (by assumption) | exact q_h3 (by assumption) | exact q_h5 (by assumption) | exact q_hG (by assumption) | exact q_hP | exact q_hB1 | exact q_hB2 | exact q_hT6 | exact q_hT15 | exact q_hT24)) ?_
                          intro t180 w180 g180 p180
                          obtain ⟨rfl, ⟨z180, rfl⟩, rfl⟩ := p180
                          refine Or.inr (Or.inl ⟨rfl, ?_⟩)
                          refine r_goto c135_37 ?_
                          refine r_istore c135_49 (lo' := [(6, _), (5, _), (4, _), (3, _), (2, _), (0, _), (1, _)]) rfl rfl rfl ?_
                          refine r_iload c135_51 rfl rfl ?_
                          refine r_if_eq c135_53 rfl (show q_w32 (1) = 1 from rfl) ?_ ?_
                          · intro b181
                            exact absurd b181.1 (by decide)
                          · intro b181
                            refine r_iload c135_56 rfl rfl ?_
                            refine r_aload_n c135_58 rfl rfl ?_
                            refine r_iload_n c135_59 rfl rfl ?_
                            refine r_iload c135_60 rfl rfl ?_
                            refine r_vcG c135_62 (by first | assumption | omega) (by decide) (by first | assumption | rfl) rfl rfl rfl (k148 hG hZ (by first | assumption | exact q_hC (by assumption) | exact q_h1 (by assumption) | exact q_h3 (by assumption) | exact q_h5 (by assumption) | exact q_hG (by assumption) | exact q_hP | exact q_hB1 | exact q_hB2 | exact q_hT6 | exact q_hT15 | exact q_hT24)) ?_
                            intro t182 w182 g182 p182
                            obtain ⟨rfl, ⟨z182, rfl⟩, rfl⟩ := p182
                            refine Or.inr (Or.inl ⟨rfl, ?_⟩)
                            refine r_ic_ne c135_65 rfl (by first | exact q_w32_id (by omega) (by omega) | exact q_w32w _ | exact rfl) (by first | exact q_w32_id (by omega) (by omega) | exact q_w32w _ | exact rfl) ?_ ?_
                            · intro b183
                              refine r_iconst c135_72 rfl ?_
                              refine r_istore c135_73 (lo' := [(4, _), (6, _), (5, _), (3, _), (2, _), (0, _), (1, _)]) rfl rfl rfl ?_
                              refine r_iinc c135_75 rfl (show q_w32 (2 + (1)) = 3 from rfl) (lo' := [(5, _), (4, _), (6, _), (3, _), (2, _), (0, _), (1, _)]) rfl rfl rfl ?_
                              refine r_goto c135_78 ?_
                              refine r_iload c135_18 rfl rfl ?_
                              refine r_iconst c135_20 rfl ?_
                              refine r_ic_ge c135_21 rfl (show q_w32 (3) = 3 from rfl) (show q_w32 (3) = 3 from rfl) ?_ ?_
                              · intro b184
                                refine r_iload_n c135_81 rfl rfl ?_
                                refine r_if_ne c135_82 rfl (by first | exact q_w32_id (by omega) (by omega) | exact q_w32w _ | exact rfl) ?_ ?_
                                · intro b185
                                  refine r_iconst c135_90 rfl ?_
                                  refine r_goto c135_91 ?_
                                  refine r_istore_n c135_95 (lo' := [(2, _), (5, _), (4, _), (6, _), (3, _), (0, _), (1, _)]) rfl rfl rfl ?_
                                  refine r_iinc c135_96 rfl (by first | exact q_w32_id (by omega) (by omega) | exact q_w32w _ | exact rfl) (lo' := [(3, _), (2, _), (5, _), (4, _), (6, _), (0, _), (1, _)]) rfl rfl rfl ?_
                                  refine r_goto c135_99 ?_
                                  refine q_R.wk (ks := [3, 2, 0, 1]) (lo' := [(3, _), (2, _), (0, _), (1, _)]) rfl ?_
                                  exact ih (by first | omega | exact ⟨q_rg1 _, q_rg2 _⟩) rfl (by omega) (by first | assumption | decide | omega)
                                · intro b185
                                  refine r_iload c135_85 rfl rfl ?_
                                  refine r_if_eq c135_87 rfl (show q_w32 (0) = 0 from rfl) ?_ ?_
                                  · intro b186
                                    refine r_iconst c135_94 rfl ?_
                                    refine r_istore_n c135_95 (lo' := [(2, _), (5, _), (4, _), (6, _), (3, _), (0, _), (1, _)]) rfl rfl rfl ?_
                                    refine r_iinc c135_96 rfl (by first | exact q_w32_id (by omega) (by omega) | exact q_w32w _ | exact rfl) (lo' := [(3, _), (2, _), (5, _), (4, _), (6, _), (0, _), (1, _)]) rfl rfl rfl ?_
                                    refine r_goto c135_99 ?_
                                    refine q_R.wk (ks := [3, 2, 0, 1]) (lo' := [(3, _), (2, _), (0, _), (1, _)]) rfl ?_
                                    exact ih (by first | omega | exact ⟨q_rg1 _, q_rg2 _⟩) rfl (by omega) (by first | assumption | decide | omega)
                                  · intro b186
                                    exact absurd b186.1 (by decide)
                              · intro b184
                                exact absurd b184.1 (by decide)
                            · intro b183
                              refine r_iconst c135_68 rfl ?_
                              refine r_goto c135_69 ?_
                              refine r_istore c135_73 (lo' := [(4, _), (6, _), (5, _), (3, _), (2, _), (0, _), (1, _)]) rfl rfl rfl ?_
                              refine r_iinc c135_75 rfl (show q_w32 (2 + (1)) = 3 from rfl) (lo' := [(5, _), (4, _), (6, _), (3, _), (2, _), (0, _), (1, _)]) rfl rfl rfl ?_
                              refine r_goto c135_78 ?_
                              refine r_iload c135_18 rfl rfl ?_
                              refine r_iconst c135_20 rfl ?_
                              refine r_ic_ge c135_21 rfl (show q_w32 (3) = 3 from rfl) (show q_w32 (3) = 3 from rfl) ?_ ?_
                              · intro b187
                                refine r_iload_n c135_81 rfl rfl ?_
                                refine r_if_ne c135_82 rfl (by first | exact q_w32_id (by omega) (by omega) | exact q_w32w _ | exact rfl) ?_ ?_
                                · intro b188
                                  refine r_iconst c135_90 rfl ?_
                                  refine r_goto c135_91 ?_
                                  refine r_istore_n c135_95 (lo' := [(2, _), (5, _), (4, _), (6, _), (3, _), (0, _), (1, _)]) rfl rfl rfl ?_
                                  refine r_iinc c135_96 rfl (by first | exact q_w32_id (by omega) (by omega) | exact q_w32w _ | exact rfl) (lo' := [(3, _), (2, _), (5, _), (4, _), (6, _), (0, _), (1, _)]) rfl rfl rfl ?_
                                  refine r_goto c135_99 ?_
                                  refine q_R.wk (ks := [3, 2, 0, 1]) (lo' := [(3, _), (2, _), (0, _), (1, _)]) rfl ?_
                                  exact ih (by first | omega | exact ⟨q_rg1 _, q_rg2 _⟩) rfl (by omega) (by first | assumption | decide | omega)
                                · intro b188
                                  refine r_iload c135_85 rfl rfl ?_
                                  refine r_if_eq c135_87 rfl (show q_w32 (1) = 1 from rfl) ?_ ?_
                                  · intro b189
                                    exact absurd b189.1 (by decide)
                                  · intro b189
                                    refine r_iconst c135_90 rfl ?_
                                    refine r_goto c135_91 ?_
                                    refine r_istore_n c135_95 (lo' := [(2, _), (5, _), (4, _), (6, _), (3, _), (0, _), (1, _)]) rfl rfl rfl ?_
                                    refine r_iinc c135_96 rfl (by first | exact q_w32_id (by omega) (by omega) | exact q_w32w _ | exact rfl) (lo' := [(3, _), (2, _), (5, _), (4, _), (6, _), (0, _), (1, _)]) rfl rfl rfl ?_
                                    refine r_goto c135_99 ?_
                                    refine q_R.wk (ks := [3, 2, 0, 1]) (lo' := [(3, _), (2, _), (0, _), (1, _)]) rfl ?_
                                    exact ih (by first | omega | exact ⟨q_rg1 _, q_rg2 _⟩) rfl (by omega) (by first | assumption | decide | omega)
                              · intro b187
                                exact absurd b187.1 (by decide)
                · intro b151
                  refine r_aload_n c135_28 rfl rfl ?_
                  refine r_iload_n c135_29 rfl rfl ?_
                  refine r_iconst c135_30 rfl ?_
                  refine r_isub c135_31 (by first | exact q_w32_id (by omega) (by omega) | exact q_w32w _ | exact rfl) rfl ?_
                  refine r_iload c135_32 rfl rfl ?_
                  refine r_vcG c135_34 (by first | assumption | omega) (by decide) (by first | assumption | rfl) rfl rfl rfl (k148 hG hZ (by first | assumption | exact q_hC (by assumption) | exact q_h1 (by assumption) | exact q_h3 (by assumption) | exact q_h5 (by assumption) | exact q_hG (by assumption) | exact q_hP | exact q_hB1 | exact q_hB2 | exact q_hT6 | exact q_hT15 | exact q_hT24)) ?_
                  intro t190 w190 g190 p190
                  obtain ⟨rfl, ⟨z190, rfl⟩, rfl⟩ := p190
                  refine Or.inr (Or.inl ⟨rfl, ?_⟩)
                  refine r_goto c135_37 ?_
                  refine r_istore c135_49 (lo' := [(6, _), (5, _), (4, _), (3, _), (2, _), (0, _), (1, _)]) rfl rfl rfl ?_
                  refine r_iload c135_51 rfl rfl ?_
                  refine r_if_eq c135_53 rfl (show q_w32 (1) = 1 from rfl) ?_ ?_
                  · intro b191
                    exact absurd b191.1 (by decide)
                  · intro b191
                    refine r_iload c135_56 rfl rfl ?_
                    refine r_aload_n c135_58 rfl rfl ?_
                    refine r_iload_n c135_59 rfl rfl ?_
                    refine r_iload c135_60 rfl rfl ?_
                    refine r_vcG c135_62 (by first | assumption | omega) (by decide) (by first | assumption | rfl) rfl rfl rfl (k148 hG hZ (by first | assumption | exact q_hC (by assumption) | exact q_h1 (by assumption) | exact q_h3 (by assumption) | exact q_h5 (by assumption) | exact q_hG (by assumption) | exact q_hP | exact q_hB1 | exact q_hB2 | exact q_hT6 | exact q_hT15 | exact q_hT24)) ?_
                    intro t192 w192 g192 p192
                    obtain ⟨rfl, ⟨z192, rfl⟩, rfl⟩ := p192
                    refine Or.inr (Or.inl ⟨rfl, ?_⟩)
                    refine r_ic_ne c135_65 rfl (by first | exact q_w32_id (by omega) (by omega) | exact q_w32w _ | exact rfl) (by first | exact q_w32_id (by omega) (by omega) | exact q_w32w _ | exact rfl) ?_ ?_
                    · intro b193
                      refine r_iconst c135_72 rfl ?_
                      refine r_istore c135_73 (lo' := [(4, _), (6, _), (5, _), (3, _), (2, _), (0, _), (1, _)]) rfl rfl rfl ?_
                      refine r_iinc c135_75 rfl (show q_w32 (1 + (1)) = 2 from rfl) (lo' := [(5, _), (4, _), (6, _), (3, _), (2, _), (0, _), (1, _)]) rfl rfl rfl ?_
                      refine r_goto c135_78 ?_
                      refine r_iload c135_18 rfl rfl ?_
                      refine r_iconst c135_20 rfl ?_
                      refine r_ic_ge c135_21 rfl (show q_w32 (2) = 2 from rfl) (show q_w32 (3) = 3 from rfl) ?_ ?_
                      · intro b194
                        exact absurd b194.1 (by decide)
                      · intro b194
                        refine r_iload_n c135_24 rfl rfl ?_
                        refine r_if_le c135_25 rfl (by first | exact q_w32_id (by omega) (by omega) | exact q_w32w _ | exact rfl) ?_ ?_
                        · intro b195
                          refine r_aload_n c135_40 rfl rfl ?_
                          refine r_iload c135_41 rfl rfl ?_
                          refine r_vcG c135_43 (by first | assumption | omega) (by decide) (by first | assumption | rfl) rfl rfl rfl (k125 hG hZ (by first | assumption | exact q_hC (by assumption) | exact q_h1 (by assumption) | exact q_h3 (by assumption) | exact q_h5 (by assumption) | exact q_hG (by assumption) | exact q_hP | exact q_hB1 | exact q_hB2 | exact q_hT6 | exact q_hT15 | exact q_hT24)) ?_
                          intro t196 w196 g196 p196
                          obtain ⟨rfl, ⟨r196, rfl, ha196, hr196⟩, rfl⟩ := p196
                          obtain ⟨fr1960, fr1961, fr1962, fr1963⟩ := q_fA ha196
                          refine Or.inr (Or.inl ⟨rfl, ?_⟩)
                          refine r_geti c135_46 (by first | assumption | omega) (by decide) (by first | assumption | rfl) rfl rfl ?_
                          refine r_istore c135_49 (lo' := [(6, _), (5, _), (4, _), (3, _), (2, _), (0, _), (1, _)]) rfl rfl rfl ?_
                          refine r_iload c135_51 rfl rfl ?_
                          refine r_if_eq c135_53 rfl (show q_w32 (0) = 0 from rfl) ?_ ?_
                          · intro b197
                            refine r_iconst c135_72 rfl ?_
                            refine r_istore c135_73 (lo' := [(4, _), (6, _), (5, _), (3, _), (2, _), (0, _), (1, _)]) rfl rfl rfl ?_
                            refine r_iinc c135_75 rfl (show q_w32 (2 + (1)) = 3 from rfl) (lo' := [(5, _), (4, _), (6, _), (3, _), (2, _), (0, _), (1, _)]) rfl rfl rfl ?_
                            refine r_goto c135_78 ?_
                            refine r_iload c135_18 rfl rfl ?_
                            refine r_iconst c135_20 rfl ?_
                            refine r_ic_ge c135_21 rfl (show q_w32 (3) = 3 from rfl) (show q_w32 (3) = 3 from rfl) ?_ ?_
                            · intro b198
                              refine r_iload_n c135_81 rfl rfl ?_
                              refine r_if_ne c135_82 rfl (by first | exact q_w32_id (by omega) (by omega) | exact q_w32w _ | exact rfl) ?_ ?_
                              · intro b199
                                refine r_iconst c135_90 rfl ?_
                                refine r_goto c135_91 ?_
                                refine r_istore_n c135_95 (lo' := [(2, _), (5, _), (4, _), (6, _), (3, _), (0, _), (1, _)]) rfl rfl rfl ?_
                                refine r_iinc c135_96 rfl (by first | exact q_w32_id (by omega) (by omega) | exact q_w32w _ | exact rfl) (lo' := [(3, _), (2, _), (5, _), (4, _), (6, _), (0, _), (1, _)]) rfl rfl rfl ?_
                                refine r_goto c135_99 ?_
                                refine q_R.wk (ks := [3, 2, 0, 1]) (lo' := [(3, _), (2, _), (0, _), (1, _)]) rfl ?_
                                exact ih (by first | omega | exact ⟨q_rg1 _, q_rg2 _⟩) rfl (by omega) (by first | assumption | decide | omega)
                              · intro b199
                                refine r_iload c135_85 rfl rfl ?_
                                refine r_if_eq c135_87 rfl (show q_w32 (0) = 0 from rfl) ?_ ?_
                                · intro b200
                                  refine r_iconst c135_94 rfl ?_
                                  refine r_istore_n c135_95 (lo' := [(2, _), (5, _), (4, _), (6, _), (3, _), (0, _), (1, _)]) rfl rfl rfl ?_
                                  refine r_iinc c135_96 rfl (by first | exact q_w32_id (by omega) (by omega) | exact q_w32w _ | exact rfl) (lo' := [(3, _), (2, _), (5, _), (4, _), (6, _), (0, _), (1, _)]) rfl rfl rfl ?_
                                  refine r_goto c135_99 ?_
                                  refine q_R.wk (ks := [3, 2, 0, 1]) (lo' := [(3, _), (2, _), (0, _), (1, _)]) rfl ?_
                                  exact ih (by first | omega | exact ⟨q_rg1 _, q_rg2 _⟩) rfl (by omega) (by first | assumption | decide | omega)
                                · intro b200
                                  exact absurd b200.1 (by decide)
                            · intro b198
                              exact absurd b198.1 (by decide)
                          · intro b197
                            exact absurd b197.1 (by decide)
                        · intro b195
                          refine r_aload_n c135_28 rfl rfl ?_
                          refine r_iload_n c135_29 rfl rfl ?_
                          refine r_iconst c135_30 rfl ?_
                          refine r_isub c135_31 (by first | exact q_w32_id (by omega) (by omega) | exact q_w32w _ | exact rfl) rfl ?_
                          refine r_iload c135_32 rfl rfl ?_
                          refine r_vcG c135_34 (by first | assumption | omega) (by decide) (by first | assumption | rfl) rfl rfl rfl (k148 hG hZ (by first | assumption | exact q_hC (by assumption) | exact q_h1 (by assumption) | exact q_h3 (by assumption) | exact q_h5 (by assumption) | exact q_hG (by assumption) | exact q_hP | exact q_hB1 | exact q_hB2 | exact q_hT6 | exact q_hT15 | exact q_hT24)) ?_
                          intro t201 w201 g201 p201
                          obtain ⟨rfl, ⟨z201, rfl⟩, rfl⟩ := p201
                          refine Or.inr (Or.inl ⟨rfl, ?_⟩)
                          refine r_goto c135_37 ?_
                          refine r_istore c135_49 (lo' := [(6, _), (5, _), (4, _), (3, _), (2, _), (0, _), (1, _)]) rfl rfl rfl ?_
                          refine r_iload c135_51 rfl rfl ?_
                          refine r_if_eq c135_53 rfl (show q_w32 (0) = 0 from rfl) ?_ ?_
                          · intro b202
                            refine r_iconst c135_72 rfl ?_
                            refine r_istore c135_73 (lo' := [(4, _), (6, _), (5, _), (3, _), (2, _), (0, _), (1, _)]) rfl rfl rfl ?_
                            refine r_iinc c135_75 rfl (show q_w32 (2 + (1)) = 3 from rfl) (lo' := [(5, _), (4, _), (6, _), (3, _), (2, _), (0, _), (1, _)]) rfl rfl rfl ?_
                            refine r_goto c135_78 ?_
                            refine r_iload c135_18 rfl rfl ?_
                            refine r_iconst c135_20 rfl ?_
                            refine r_ic_ge c135_21 rfl (show q_w32 (3) = 3 from rfl) (show q_w32 (3) = 3 from rfl) ?_ ?_
                            · intro b203
                              refine r_iload_n c135_81 rfl rfl ?_
                              refine r_if_ne c135_82 rfl (by first | exact q_w32_id (by omega) (by omega) | exact q_w32w _ | exact rfl) ?_ ?_
                              · intro b204
                                refine r_iconst c135_90 rfl ?_
                                refine r_goto c135_91 ?_
                                refine r_istore_n c135_95 (lo' := [(2, _), (5, _), (4, _), (6, _), (3, _), (0, _), (1, _)]) rfl rfl rfl ?_
                                refine r_iinc c135_96 rfl (by first | exact q_w32_id (by omega) (by omega) | exact q_w32w _ | exact rfl) (lo' := [(3, _), (2, _), (5, _), (4, _), (6, _), (0, _), (1, _)]) rfl rfl rfl ?_
                                refine r_goto c135_99 ?_
                                refine q_R.wk (ks := [3, 2, 0, 1]) (lo' := [(3, _), (2, _), (0, _), (1, _)]) rfl ?_
                                exact ih (by first | omega | exact ⟨q_rg1 _, q_rg2 _⟩) rfl (by omega) (by first | assumption | decide | omega)
                              · intro b204
                                refine r_iload c135_85 rfl rfl ?_
                                refine r_if_eq c135_87 rfl (show q_w32 (0) = 0 from rfl) ?_ ?_
                                · intro b205
                                  refine r_iconst c135_94 rfl ?_
                                  refine r_istore_n c135_95 (lo' := [(2, _), (5, _), (4, _), (6, _), (3, _), (0, _), (1, _)]) rfl rfl rfl ?_
                                  refine r_iinc c135_96 rfl (by first | exact q_w32_id (by omega) (by omega) | exact q_w32w _ | exact rfl) (lo' := [(3, _), (2, _), (5, _), (4, _), (6, _), (0, _), (1, _)]) rfl rfl rfl ?_
                                  refine r_goto c135_99 ?_
                                  refine q_R.wk (ks := [3, 2, 0, 1]) (lo' := [(3, _), (2, _), (0, _), (1, _)]) rfl ?_
                                  exact ih (by first | omega | exact ⟨q_rg1 _, q_rg2 _⟩) rfl (by omega) (by first | assumption | decide | omega)
                                · intro b205
                                  exact absurd b205.1 (by decide)
                            · intro b203
                              exact absurd b203.1 (by decide)
                          · intro b202
                            exact absurd b202.1 (by decide)
                    · intro b193
                      refine r_iconst c135_68 rfl ?_
                      refine r_goto c135_69 ?_
                      refine r_istore c135_73 (lo' := [(4, _), (6, _), (5, _), (3, _), (2, _), (0, _), (1, _)]) rfl rfl rfl ?_
                      refine r_iinc c135_75 rfl (show q_w32 (1 + (1)) = 2 from rfl) (lo' := [(5, _), (4, _), (6, _), (3, _), (2, _), (0, _), (1, _)]) rfl rfl rfl ?_
                      refine r_goto c135_78 ?_
                      refine r_iload c135_18 rfl rfl ?_
                      refine r_iconst c135_20 rfl ?_
                      refine r_ic_ge c135_21 rfl (show q_w32 (2) = 2 from rfl) (show q_w32 (3) = 3 from rfl) ?_ ?_
                      · intro b206
                        exact absurd b206.1 (by decide)
                      · intro b206
                        refine r_iload_n c135_24 rfl rfl ?_
                        refine r_if_le c135_25 rfl (by first | exact q_w32_id (by omega) (by omega) | exact q_w32w _ | exact rfl) ?_ ?_
                        · intro b207
                          refine r_aload_n c135_40 rfl rfl ?_
                          refine r_iload c135_41 rfl rfl ?_
                          refine r_vcG c135_43 (by first | assumption | omega) (by decide) (by first | assumption | rfl) rfl rfl rfl (k125 hG hZ (by first | assumption | exact q_hC (by assumption) | exact q_h1 (by assumption) | exact q_h3 (by assumption) | exact q_h5 (by assumption) | exact q_hG (by assumption) | exact q_hP | exact q_hB1 | exact q_hB2 | exact q_hT6 | exact q_hT15 | exact q_hT24)) ?_
                          intro t208 w208 g208 p208
                          obtain ⟨rfl, ⟨r208, rfl, ha208, hr208⟩, rfl⟩ := p208
                          obtain ⟨fr2080, fr2081, fr2082, fr2083⟩ := q_fA ha208
                          refine Or.inr (Or.inl ⟨rfl, ?_⟩)
                          refine r_geti c135_46 (by first | assumption | omega) (by decide) (by first | assumption | rfl) rfl rfl ?_
                          refine r_istore c135_49 (lo' := [(6, _), (5, _), (4, _), (3, _), (2, _), (0, _), (1, _)]) rfl rfl rfl ?_
                          refine r_iload c135_51 rfl rfl ?_
                          refine r_if_eq c135_53 rfl (show q_w32 (1) = 1 from rfl) ?_ ?_
                          · intro b209
                            exact absurd b209.1 (by decide)
                          · intro b209
                            refine r_iload c135_56 rfl rfl ?_
                            refine r_aload_n c135_58 rfl rfl ?_
                            refine r_iload_n c135_59 rfl rfl ?_
                            refine r_iload c135_60 rfl rfl ?_
                            refine r_vcG c135_62 (by first | assumption | omega) (by decide) (by first | assumption | rfl) rfl rfl rfl (k148 hG hZ (by first | assumption | exact q_hC (by assumption) | exact q_h1 (by assumption) | exact q_h3 (by assumption) | exact q_h5 (by assumption) | exact q_hG (by assumption) | exact q_hP | exact q_hB1 | exact q_hB2 | exact q_hT6 | exact q_hT15 | exact q_hT24)) ?_
                            intro t210 w210 g210 p210
                            obtain ⟨rfl, ⟨z210, rfl⟩, rfl⟩ := p210
                            refine Or.inr (Or.inl ⟨rfl, ?_⟩)
                            refine r_ic_ne c135_65 rfl (by first | exact q_w32_id (by omega) (by omega) | exact q_w32w _ | exact rfl) (by first | exact q_w32_id (by omega) (by omega) | exact q_w32w _ | exact rfl) ?_ ?_
                            · intro b211
                              refine r_iconst c135_72 rfl ?_
                              refine r_istore c135_73 (lo' := [(4, _), (6, _), (5, _), (3, _), (2, _), (0, _), (1, _)]) rfl rfl rfl ?_
                              refine r_iinc c135_75 rfl (show q_w32 (2 + (1)) = 3 from rfl) (lo' := [(5, _), (4, _), (6, _), (3, _), (2, _), (0, _), (1, _)]) rfl rfl rfl ?_
                              refine r_goto c135_78 ?_
                              refine r_iload c135_18 rfl rfl ?_
                              refine r_iconst c135_20 rfl ?_
                              refine r_ic_ge c135_21 rfl (show q_w32 (3) = 3 from rfl) (show q_w32 (3) = 3 from rfl) ?_ ?_
                              · intro b212
                                refine r_iload_n c135_81 rfl rfl ?_
                                refine r_if_ne c135_82 rfl (by first | exact q_w32_id (by omega) (by omega) | exact q_w32w _ | exact rfl) ?_ ?_
                                · intro b213
                                  refine r_iconst c135_90 rfl ?_
                                  refine r_goto c135_91 ?_
                                  refine r_istore_n c135_95 (lo' := [(2, _), (5, _), (4, _), (6, _), (3, _), (0, _), (1, _)]) rfl rfl rfl ?_
                                  refine r_iinc c135_96 rfl (by first | exact q_w32_id (by omega) (by omega) | exact q_w32w _ | exact rfl) (lo' := [(3, _), (2, _), (5, _), (4, _), (6, _), (0, _), (1, _)]) rfl rfl rfl ?_
                                  refine r_goto c135_99 ?_
                                  refine q_R.wk (ks := [3, 2, 0, 1]) (lo' := [(3, _), (2, _), (0, _), (1, _)]) rfl ?_
                                  exact ih (by first | omega | exact ⟨q_rg1 _, q_rg2 _⟩) rfl (by omega) (by first | assumption | decide | omega)
                                · intro b213
                                  refine r_iload c135_85 rfl rfl ?_
                                  refine r_if_eq c135_87 rfl (show q_w32 (0) = 0 from rfl) ?_ ?_
                                  · intro b214
                                    refine r_iconst c135_94 rfl ?_
                                    refine r_istore_n c135_95 (lo' := [(2, _), (5, _), (4, _), (6, _), (3, _), (0, _), (1, _)]) rfl rfl rfl ?_
                                    refine r_iinc c135_96 rfl (by first | exact q_w32_id (by omega) (by omega) | exact q_w32w _ | exact rfl) (lo' := [(3, _), (2, _), (5, _), (4, _), (6, _), (0, _), (1, _)]) rfl rfl rfl ?_
                                    refine r_goto c135_99 ?_
                                    refine q_R.wk (ks := [3, 2, 0, 1]) (lo' := [(3, _), (2, _), (0, _), (1, _)]) rfl ?_
                                    exact ih (by first | omega | exact ⟨q_rg1 _, q_rg2 _⟩) rfl (by omega) (by first | assumption | decide | omega)
                                  · intro b214
                                    exact absurd b214.1 (by decide)
                              · intro b212
                                exact absurd b212.1 (by decide)
                            · intro b211
                              refine r_iconst c135_68 rfl ?_
                              refine r_goto c135_69 ?_
                              refine r_istore c135_73 (lo' := [(4, _), (6, _), (5, _), (3, _), (2, _), (0, _), (1, _)]) rfl rfl rfl ?_
                              refine r_iinc c135_75 rfl (show q_w32 (2 + (1)) = 3 from rfl) (lo' := [(5, _), (4, _), (6, _), (3, _), (2, _), (0, _), (1, _)]) rfl rfl rfl ?_
                              refine r_goto c135_78 ?_
                              refine r_iload c135_18 rfl rfl ?_
                              refine r_iconst c135_20 rfl ?_
                              refine r_ic_ge c135_21 rfl (show q_w32 (3) = 3 from rfl) (show q_w32 (3) = 3 from rfl) ?_ ?_
                              · intro b215
                                refine r_iload_n c135_81 rfl rfl ?_
                                refine r_if_ne c135_82 rfl (by first | exact q_w32_id (by omega) (by omega) | exact q_w32w _ | exact rfl) ?_ ?_
                                · intro b216
                                  refine r_iconst c135_90 rfl ?_
                                  refine r_goto c135_91 ?_
                                  refine r_istore_n c135_95 (lo' := [(2, _), (5, _), (4, _), (6, _), (3, _), (0, _), (1, _)]) rfl rfl rfl ?_
                                  refine r_iinc c135_96 rfl (by first | exact q_w32_id (by omega) (by omega) | exact q_w32w _ | exact rfl) (lo' := [(3, _), (2, _), (5, _), (4, _), (6, _), (0, _), (1, _)]) rfl rfl rfl ?_
                                  refine r_goto c135_99 ?_
                                  refine q_R.wk (ks := [3, 2, 0, 1]) (lo' := [(3, _), (2, _), (0, _), (1, _)]) rfl ?_
                                  exact ih (by first | omega | exact ⟨q_rg1 _, q_rg2 _⟩) rfl (by omega) (by first | assumption | decide | omega)
                                · intro b216
                                  refine r_iload c135_85 rfl rfl ?_
                                  refine r_if_eq c135_87 rfl (show q_w32 (1) = 1 from rfl) ?_ ?_
                                  · intro b217
                                    exact absurd b217.1 (by decide)
                                  · intro b217
                                    refine r_iconst c135_90 rfl ?_
                                    refine r_goto c135_91 ?_
                                    refine r_istore_n c135_95 (lo' := [(2, _), (5, _), (4, _), (6, _), (3, _), (0, _), (1, _)]) rfl rfl rfl ?_
                                    refine r_iinc c135_96 rfl (by first | exact q_w32_id (by omega) (by omega) | exact q_w32w _ | exact rfl) (lo' := [(3, _), (2, _), (5, _), (4, _), (6, _), (0, _), (1, _)]) rfl rfl rfl ?_
                                    refine r_goto c135_99 ?_
                                    refine q_R.wk (ks := [3, 2, 0, 1]) (lo' := [(3, _), (2, _), (0, _), (1, _)]) rfl ?_
                                    exact ih (by first | omega | exact ⟨q_rg1 _, q_rg2 _⟩) rfl (by omega) (by first | assumption | decide | omega)
                              · intro b215
                                exact absurd b215.1 (by decide)
                        · intro b207
                          refine r_aload_n c135_28 rfl rfl ?_
                          refine r_iload_n c135_29 rfl rfl ?_
                          refine r_iconst c135_30 rfl ?_
                          refine r_isub c135_31 (by first | exact q_w32_id (by omega) (by omega) | exact q_w32w _ | exact rfl) rfl ?_
                          refine r_iload c135_32 rfl rfl ?_
                          refine r_vcG c135_34 (by first | assumption | omega) (by decide) (by first | assumption | rfl) rfl rfl rfl (k148 hG hZ (by first | assumption | exact q_hC (by assumption) | exact q_h1 (by assumption) | exact q_h3 (by assumption) | exact q_h5 (by assumption) | exact q_hG (by assumption) | exact q_hP | exact q_hB1 | exact q_hB2 | exact q_hT6 | exact q_hT15 | exact q_hT24)) ?_
                          intro t218 w218 g218 p218
                          obtain ⟨rfl, ⟨z218, rfl⟩, rfl⟩ := p218
                          refine Or.inr (Or.inl ⟨rfl, ?_⟩)
                          refine r_goto c135_37 ?_
                          refine r_istore c135_49 (lo' := [(6, _), (5, _), (4, _), (3, _), (2, _), (0, _), (1, _)]) rfl rfl rfl ?_
                          refine r_iload c135_51 rfl rfl ?_
                          refine r_if_eq c135_53 rfl (show q_w32 (1) = 1 from rfl) ?_ ?_
                          · intro b219
                            exact absurd b219.1 (by decide)
                          · intro b219
                            refine r_iload c135_56 rfl rfl ?_
                            refine r_aload_n c135_58 rfl rfl ?_
                            refine r_iload_n c135_59 rfl rfl ?_
                            refine r_iload c135_60 rfl rfl ?_
                            refine r_vcG c135_62 (by first | assumption | omega) (by decide) (by first | assumption | rfl) rfl rfl rfl (k148 hG hZ (by first | assumption | exact q_hC (by assumption) | exact q_h1 (by assumption) | exact q_h3 (by assumption) | exact q_h5 (by assumption) | exact q_hG (by assumption) | exact q_hP | exact q_hB1 | exact q_hB2 | exact q_hT6 | exact q_hT15 | exact q_hT24)) ?_
                            intro t220 w220 g220 p220
                            obtain ⟨rfl, ⟨z220, rfl⟩, rfl⟩ := p220
                            refine Or.inr (Or.inl ⟨rfl, ?_⟩)
                            refine r_ic_ne c135_65 rfl (by first | exact q_w32_id (by omega) (by omega) | exact q_w32w _ | exact rfl) (by first | exact q_w32_id (by omega) (by omega) | exact q_w32w _ | exact rfl) ?_ ?_
                            · intro b221
                              refine r_iconst c135_72 rfl ?_
                              refine r_istore c135_73 (lo' := [(4, _), (6, _), (5, _), (3, _), (2, _), (0, _), (1, _)]) rfl rfl rfl ?_
                              refine r_iinc c135_75 rfl (show q_w32 (2 + (1)) = 3 from rfl) (lo' := [(5, _), (4, _), (6, _), (3, _), (2, _), (0, _), (1, _)]) rfl rfl rfl ?_
                              refine r_goto c135_78 ?_
                              refine r_iload c135_18 rfl rfl ?_
                              refine r_iconst c135_20 rfl ?_
                              refine r_ic_ge c135_21 rfl (show q_w32 (3) = 3 from rfl) (show q_w32 (3) = 3 from rfl) ?_ ?_
                              · intro b222
                                refine r_iload_n c135_81 rfl rfl ?_
                                refine r_if_ne c135_82 rfl (by first | exact q_w32_id (by omega) (by omega) | exact q_w32w _ | exact rfl) ?_ ?_
                                · intro b223
                                  refine r_iconst c135_90 rfl ?_
                                  refine r_goto c135_91 ?_
                                  refine r_istore_n c135_95 (lo' := [(2, _), (5, _), (4, _), (6, _), (3, _), (0, _), (1, _)]) rfl rfl rfl ?_
                                  refine r_iinc c135_96 rfl (by first | exact q_w32_id (by omega) (by omega) | exact q_w32w _ | exact rfl) (lo' := [(3, _), (2, _), (5, _), (4, _), (6, _), (0, _), (1, _)]) rfl rfl rfl ?_
                                  refine r_goto c135_99 ?_
                                  refine q_R.wk (ks := [3, 2, 0, 1]) (lo' := [(3, _), (2, _), (0, _), (1, _)]) rfl ?_
                                  exact ih (by first | omega | exact ⟨q_rg1 _, q_rg2 _⟩) rfl (by omega) (by first | assumption | decide | omega)
                                · intro b223
                                  refine r_iload c135_85 rfl rfl ?_
                                  refine r_if_eq c135_87 rfl (show q_w32 (0) = 0 from rfl) ?_ ?_
                                  · intro b224
                                    refine r_iconst c135_94 rfl ?_
                                    refine r_istore_n c135_95 (lo' := [(2, _), (5, _), (4, _), (6, _), (3, _), (0, _), (1, _)]) rfl rfl rfl ?_
                                    refine r_iinc c135_96 rfl (by first | exact q_w32_id (by omega) (by omega) | exact q_w32w _ | exact rfl) (lo' := [(3, _), (2, _), (5, _), (4, _), (6, _), (0, _), (1, _)]) rfl rfl rfl ?_
                                    refine r_goto c135_99 ?_
                                    refine q_R.wk (ks := [3, 2, 0, 1]) (lo' := [(3, _), (2, _), (0, _), (1, _)]) rfl ?_
                                    exact ih (by first | omega | exact ⟨q_rg1 _, q_rg2 _⟩) rfl (by omega) (by first | assumption | decide | omega)
                                  · intro b224
                                    exact absurd b224.1 (by decide)
                              · intro b222
                                exact absurd b222.1 (by decide)
                            · intro b221
                              refine r_iconst c135_68 rfl ?_
                              refine r_goto c135_69 ?_
                              refine r_istore c135_73 (lo' := [(4, _), (6, _), (5, _), (3, _), (2, _), (0, _), (1, _)]) rfl rfl rfl ?_
                              refine r_iinc c135_75 rfl (show q_w32 (2 + (1)) = 3 from rfl) (lo' := [(5, _), (4, _), (6, _), (3, _), (2, _), (0, _), (1, _)]) rfl rfl rfl ?_
                              refine r_goto c135_78 ?_
                              refine r_iload c135_18 rfl rfl ?_
                              refine r_iconst c135_20 rfl ?_
                              refine r_ic_ge c135_21 rfl (show q_w32 (3) = 3 from rfl) (show q_w32 (3) = 3 from rfl) ?_ ?_
                              · intro b225
                                refine r_iload_n c135_81 rfl rfl ?_
                                refine r_if_ne c135_82 rfl (by first | exact q_w32_id (by omega) (by omega) | exact q_w32w _ | exact rfl) ?_ ?_
                                · intro b226
                                  refine r_iconst c135_90 rfl ?_
                                  refine r_goto c135_91 ?_
                                  refine r_istore_n c135_95 (lo' := [(2, _), (5, _), (4, _), (6, _), (3, _), (0, _), (1, _)]) rfl rfl rfl ?_
                                  refine r_iinc c135_96 rfl (by first | exact q_w32_id (by omega) (by omega) | exact q_w32w _ | exact rfl) (lo' := [(3, _), (2, _), (5, _), (4, _), (6, _), (0, _), (1, _)]) rfl rfl rfl ?_
                                  refine r_goto c135_99 ?_
                                  refine q_R.wk (ks := [3, 2, 0, 1]) (lo' := [(3, _), (2, _), (0, _), (1, _)]) rfl ?_
                                  exact ih (by first | omega | exact ⟨q_rg1 _, q_rg2 _⟩) rfl (by omega) (by first | assumption | decide | omega)
                                · intro b226
                                  refine r_iload c135_85 rfl rfl ?_
                                  refine r_if_eq c135_87 rfl (show q_w32 (1) = 1 from rfl) ?_ ?_
                                  · intro b227
                                    exact absurd b227.1 (by decide)
                                  · intro b227
                                    refine r_iconst c135_90 rfl ?_
                                    refine r_goto c135_91 ?_
                                    refine r_istore_n c135_95 (lo' := [(2, _), (5, _), (4, _), (6, _), (3, _), (0, _), (1, _)]) rfl rfl rfl ?_
                                    refine r_iinc c135_96 rfl (by first | exact q_w32_id (by omega) (by omega) | exact q_w32w _ | exact rfl) (lo' := [(3, _), (2, _), (5, _), (4, _), (6, _), (0, _), (1, _)]) rfl rfl rfl ?_
                                    refine r_goto c135_99 ?_
                                    refine q_R.wk (ks := [3, 2, 0, 1]) (lo' := [(3, _), (2, _), (0, _), (1, _)]) rfl ?_
                                    exact ih (by first | omega | exact ⟨q_rg1 _, q_rg2 _⟩) rfl (by omega) (by first | assumption | decide | omega)
                              · intro b225
                                exact absurd b225.1 (by decide)

theorem k135 {Γ : q_Γ} (hG : q_GG Γ) {h : q_F} (hZ : q_Bz h) {o0 : Nat} {o1 : Nat} (ho0 : q_isT o0) (ho1 : q_isG o1) :
    q_M Γ q_K 155 135 [(2, Int.ofNat o0), (2, Int.ofNat o1)] h (fun t w h' => (t = 1 ∧ (∃ z, w = ((0, z) : q_V) ∧ (z = 0 ∨ z = 1)) ∧ h' = h)) := by
  obtain ⟨fo00, fo01, fo02, fo03, fo04, fo05, fo06, fo07, fo08, fo09, fo010⟩ := q_fT ho0
  obtain ⟨fo10, fo11, fo12, fo13⟩ := q_fG ho1
  refine q_M.of (by decide) (Nat.le_of_ble_eq_true rfl) hG ?_
  refine r_iconst c135_0 rfl ?_
  refine r_istore_n c135_1 (lo' := [(2, _), (0, _), (1, _)]) rfl rfl rfl ?_
  refine r_iconst c135_2 rfl ?_
  refine r_istore_n c135_3 (lo' := [(3, _), (2, _), (0, _), (1, _)]) rfl rfl rfl ?_
  refine q_R.wk (ks := [3, 2, 0, 1]) (lo' := [(3, _), (2, _), (0, _), (1, _)]) rfl ?_
  refine l135_4 (o0 := o0) (o1 := o1) hG hZ ho0 ho1 ?_ 4294967298 (by first | omega | exact ⟨q_rg1 _, q_rg2 _⟩) rfl (q_mu (by first | omega | exact ⟨q_rg1 _, q_rg2 _⟩)) (by first | assumption | decide | omega)
  · intro u3_1 u2_1 g1 f1 z2_1
    subst f1
    refine r_iload_n c135_102 rfl rfl ?_
    exact r_zret c135_103 ⟨rfl, rfl, rfl⟩ (by first | assumption | omega) ⟨rfl, ⟨_, rfl, (by first | assumption | omega)⟩, rfl⟩
theorem c123_0 : q_cat 123 0 (.iconst 1) 1 0 0 (0) := ⟨rfl, rfl⟩
theorem c123_1 : q_cat 123 1 (.istore_n 3) 1 3 0 (0) := ⟨rfl, rfl⟩
theorem c123_2 : q_cat 123 2 (.iconst 0) 1 0 0 (0) := ⟨rfl, rfl⟩
theorem c123_3 : q_cat 123 3 (.istore 4) 2 4 0 (0) := ⟨rfl, rfl⟩
theorem c123_5 : q_cat 123 5 (.iload 4) 2 4 0 (0) := ⟨rfl, rfl⟩
theorem c123_7 : q_cat 123 7 (.iconst 3) 1 0 0 (0) := ⟨rfl, rfl⟩
theorem c123_8 : q_cat 123 8 (.if_icmp .ge 39) 3 47 0 (0) := ⟨rfl, rfl⟩
theorem c123_11 : q_cat 123 11 (.iload_n 3) 1 3 0 (0) := ⟨rfl, rfl⟩
theorem c123_12 : q_cat 123 12 (.ifCond .eq 27) 3 39 0 (0) := ⟨rfl, rfl⟩
theorem c123_15 : q_cat 123 15 (.aload_n 0) 1 0 0 (0) := ⟨rfl, rfl⟩
theorem c123_16 : q_cat 123 16 (.aload_n 1) 1 1 0 (0) := ⟨rfl, rfl⟩
theorem c123_17 : q_cat 123 17 (.iload 4) 2 4 0 (0) := ⟨rfl, rfl⟩
theorem c123_19 : q_cat 123 19 (.invokevirtual 106) 3 129 0 (0) := ⟨rfl, rfl⟩
theorem c123_22 : q_cat 123 22 (.aload_n 0) 1 0 0 (0) := ⟨rfl, rfl⟩
theorem c123_23 : q_cat 123 23 (.getfield 27) 3 6 3 (3) := ⟨rfl, rfl⟩
theorem c123_26 : q_cat 123 26 (.iload_n 2) 1 2 0 (0) := ⟨rfl, rfl⟩
theorem c123_27 : q_cat 123 27 (.iload 4) 2 4 0 (0) := ⟨rfl, rfl⟩
theorem c123_29 : q_cat 123 29 (.invokevirtual 91) 3 148 0 (0) := ⟨rfl, rfl⟩
theorem c123_32 : q_cat 123 32 (.if_icmp .ne 7) 3 39 0 (0) := ⟨rfl, rfl⟩
theorem c123_35 : q_cat 123 35 (.iconst 1) 1 0 0 (0) := ⟨rfl, rfl⟩
theorem c123_36 : q_cat 123 36 (.goto 4) 3 40 0 (0) := ⟨rfl, rfl⟩
theorem c123_39 : q_cat 123 39 (.iconst 0) 1 0 0 (0) := ⟨rfl, rfl⟩
theorem c123_40 : q_cat 123 40 (.istore_n 3) 1 3 0 (0) := ⟨rfl, rfl⟩
theorem c123_41 : q_cat 123 41 (.iinc 4 1) 3 4 0 (0) := ⟨rfl, rfl⟩
theorem c123_44 : q_cat 123 44 (.goto (-39)) 3 5 0 (0) := ⟨rfl, rfl⟩
theorem c123_47 : q_cat 123 47 (.iload_n 3) 1 3 0 (0) := ⟨rfl, rfl⟩
theorem c123_48 : q_cat 123 48 (.ifCond .ne 38) 3 86 0 (0) := ⟨rfl, rfl⟩
theorem c123_51 : q_cat 123 51 (.aload_n 1) 1 1 0 (0) := ⟨rfl, rfl⟩
theorem c123_52 : q_cat 123 52 (.aload_n 1) 1 1 0 (0) := ⟨rfl, rfl⟩
theorem c123_53 : q_cat 123 53 (.getfield 88) 3 7 1 (0) := ⟨rfl, rfl⟩
theorem c123_56 : q_cat 123 56 (.aload_n 0) 1 0 0 (0) := ⟨rfl, rfl⟩
theorem c123_57 : q_cat 123 57 (.getfield 27) 3 6 3 (3) := ⟨rfl, rfl⟩
theorem c123_60 : q_cat 123 60 (.iload_n 2) 1 2 0 (0) := ⟨rfl, rfl⟩
theorem c123_61 : q_cat 123 61 (.iconst 0) 1 0 0 (0) := ⟨rfl, rfl⟩
theorem c123_62 : q_cat 123 62 (.invokevirtual 91) 3 148 0 (0) := ⟨rfl, rfl⟩
theorem c123_65 : q_cat 123 65 (.aload_n 0) 1 0 0 (0) := ⟨rfl, rfl⟩
theorem c123_66 : q_cat 123 66 (.getfield 27) 3 6 3 (3) := ⟨rfl, rfl⟩
theorem c123_69 : q_cat 123 69 (.iload_n 2) 1 2 0 (0) := ⟨rfl, rfl⟩
theorem c123_70 : q_cat 123 70 (.iconst 1) 1 0 0 (0) := ⟨rfl, rfl⟩
theorem c123_71 : q_cat 123 71 (.invokevirtual 91) 3 148 0 (0) := ⟨rfl, rfl⟩
theorem c123_74 : q_cat 123 74 (.aload_n 0) 1 0 0 (0) := ⟨rfl, rfl⟩
theorem c123_75 : q_cat 123 75 (.getfield 27) 3 6 3 (3) := ⟨rfl, rfl⟩
theorem c123_78 : q_cat 123 78 (.iload_n 2) 1 2 0 (0) := ⟨rfl, rfl⟩
theorem c123_79 : q_cat 123 79 (.iconst 2) 1 0 0 (0) := ⟨rfl, rfl⟩
theorem c123_80 : q_cat 123 80 (.invokevirtual 91) 3 148 0 (0) := ⟨rfl, rfl⟩
theorem c123_83 : q_cat 123 83 (.invokevirtual 110) 3 150 0 (0) := ⟨rfl, rfl⟩
theorem c123_86 : q_cat 123 86 (.return_) 1 0 0 (0) := ⟨rfl, rfl⟩
theorem l123_5 {Γ : q_Γ} (hG : q_GG Γ) {h0 : q_F} (hZ : q_Bz h0) {o0 : Nat} {o1 : Nat} {v2 : Int} {u2 : Int} (ho0 : q_isT o0) (ho1 : q_isG o1)
    (hx47 : ∀ {u4 u3 : Int} {h : q_F}, q_Fr (fun k => (o0 ≤ k ∧ k ≤ o0 + 8) ∨ k = o1 ∨ k = o1 + 1) h0 h → q_R Γ q_K 155 123 (fun t w h' => (t = 0 ∧ q_Fr (fun k => (o0 ≤ k ∧ k ≤ o0 + 8) ∨ k = o1 ∨ k = o1 + 1) h0 h')) (47, [(4, (0, u4)), (3, (0, u3)), (0, (2, Int.ofNat o0)), (1, (2, Int.ofNat o1)), (2, (0, u2))], [], q_hp q_K 155 h, [], 0, 0))
    : ∀ (m : Nat) {u4 u3 : Int} {h : q_F}, (-2147483648 ≤ u4 ∧ u4 < 2147483648) → q_Fr (fun k => (o0 ≤ k ∧ k ≤ o0 + 8) ∨ k = o1 ∨ k = o1 + 1) h0 h → 2147483648 - u4 < (m : Int) → q_R Γ q_K 155 123 (fun t w h' => (t = 0 ∧ q_Fr (fun k => (o0 ≤ k ∧ k ≤ o0 + 8) ∨ k = o1 ∨ k = o1 + 1) h0 h')) (5, [(4, (0, u4)), (3, (0, u3)), (0, (2, Int.ofNat o0)), (1, (2, Int.ofNat o1)), (2, (0, u2))], [], q_hp q_K 155 h, [], 0, 0)   := by
  obtain ⟨fo00, fo01, fo02, fo03, fo04, fo05, fo06, fo07, fo08, fo09, fo010⟩ := q_fT ho0
  obtain ⟨fo10, fo11, fo12, fo13⟩ := q_fG ho1
  intro m
  induction m with
  | zero =>
    intro u4 u3 h hinv hf hmu
    exact absurd hmu (by omega)
  | succ m ih =>
    intro u4 u3 h hinv hf hmu
    refine r_iload c123_5 rfl rfl ?_
    refine r_iconst c123_7 rfl ?_
    refine r_ic_ge c123_8 rfl (by first | exact q_w32_id (by omega) (by omega) | exact q_w32w _ | exact rfl) (show q_w32 (3) = 3 from rfl) ?_ ?_
    · intro b1
      refine q_R.wk (ks := [4, 3, 0, 1, 2]) (lo' := [(4, _), (3, _), (0, _), (1, _), (2, _)]) rfl ?_
      exact hx47 (by repeat (first | exact q_Fr.rf | refine q_Fr.ud ?_ (by omega) (by first | assumption | rfl) rfl | refine q_Fr.udz ?_ (by omega) (by first | assumption | decide | omega) | refine q_Fr.tr ?_ (by assumption) (by intro k9 hk9; omega)))
    · intro b1
      refine r_iload_n c123_11 rfl rfl ?_
      refine r_if_eq c123_12 rfl (by first | exact q_w32_id (by omega) (by omega) | exact q_w32w _ | exact rfl) ?_ ?_
      · intro b2
        refine r_iconst c123_39 rfl ?_
        refine r_istore_n c123_40 (lo' := [(3, _), (4, _), (0, _), (1, _), (2, _)]) rfl rfl rfl ?_
        refine r_iinc c123_41 rfl (by first | exact q_w32_id (by omega) (by omega) | exact q_w32w _ | exact rfl) (lo' := [(4, _), (3, _), (0, _), (1, _), (2, _)]) rfl rfl rfl ?_
        refine r_goto c123_44 ?_
        refine q_R.wk (ks := [4, 3, 0, 1, 2]) (lo' := [(4, _), (3, _), (0, _), (1, _), (2, _)]) rfl ?_
        exact ih (by first | omega | exact ⟨q_rg1 _, q_rg2 _⟩) (by repeat (first | exact q_Fr.rf | refine q_Fr.ud ?_ (by omega) (by first | assumption | rfl) rfl | refine q_Fr.udz ?_ (by omega) (by first | assumption | decide | omega) | refine q_Fr.tr ?_ (by assumption) (by intro k9 hk9; omega))) (by omega)
      · intro b2
        refine r_aload_n c123_15 rfl rfl ?_
        refine r_aload_n c123_16 rfl rfl ?_
        refine r_iload c123_17 rfl rfl ?_
        refine r_vcG c123_19 (by first | assumption | omega) (by decide) (by first | assumption | rfl) rfl rfl rfl (k129 hG (q_Fr.bz (S := fun k => (o0 ≤ k ∧ k ≤ o0 + 8) ∨ k = o1 ∨ k = o1 + 1) hZ (by repeat (first | exact q_Fr.rf | refine q_Fr.ud ?_ (by omega) (by first | assumption | rfl) rfl | refine q_Fr.udz ?_ (by omega) (by first | assumption | decide | omega) | refine q_Fr.tr ?_ (by assumption) (by intro k9 hk9; omega)))) (by first | assumption | exact q_hC (by assumption) | exact q_h1 (by assumption) | exact q_h3 (by assumption) | exact q_h5 (by assumption) | exact q_hG (by assumption) | exact q_hP | exact q_hB1 | exact q_hB2 | exact q_hT6 | exact q_hT15 | exact q_hT24) (by first | assumption | exact q_hC (by assumption) | exact q_h1 (by assumption) | exact q_h3 (by assumption) | exact q_h5 (by assumption) | exact q_hG (by assumption) | exact q_hP | exact q_hB1 | exact q_hB2 | exact q_hT6 | exact q_hT15 | exact q_hT24)) ?_
        intro t3 w3 g3 p3
        obtain ⟨rfl, ⟨z3, rfl⟩, rfl⟩ := p3
        refine Or.inr (Or.inl ⟨rfl, ?_⟩)
        refine r_aload_n c123_22 rfl rfl ?_
        refine r_getr c123_23 (by first | assumption | omega) (by decide) (by first | assumption | rfl) rfl rfl ?_
        refine r_iload_n c123_26 rfl rfl ?_
        refine r_iload c123_27 rfl rfl ?_
        refine r_vcG c123_29 (by first | assumption | omega) (by decide) (by first | assumption | rfl) rfl rfl rfl (k148 hG (q_Fr.bz (S := fun k => (o0 ≤ k ∧ k ≤ o0 + 8) ∨ k = o1 ∨ k = o1 + 1) hZ (by repeat (first | exact q_Fr.rf | refine q_Fr.ud ?_ (by omega) (by first | assumption | rfl) rfl | refine q_Fr.udz ?_ (by omega) (by first | assumption | decide | omega) | refine q_Fr.tr ?_ (by assumption) (by intro k9 hk9; omega)))) (by first | assumption | exact q_hC (by assumption) | exact q_h1 (by assumption) | exact q_h3 (by assumption) | exact q_h5 (by assumption) | exact q_hG (by assumption) | exact q_hP | exact q_hB1 | exact q_hB2 | exact q_hT6 | exact q_hT15 | exact q_hT24)) ?_
        intro t4 w4 g4 p4
        obtain ⟨rfl, ⟨z4, rfl⟩, rfl⟩ := p4
        refine Or.inr (Or.inl ⟨rfl, ?_⟩)
        refine r_ic_ne c123_32 rfl (by first | exact q_w32_id (by omega) (by omega) | exact q_w32w _ | exact rfl) (by first | exact q_w32_id (by omega) (by omega) | exact q_w32w _ | exact rfl) ?_ ?_
        · intro b5
          refine r_iconst c123_39 rfl ?_
          refine r_istore_n c123_40 (lo' := [(3, _), (4, _), (0, _), (1, _), (2, _)]) rfl rfl rfl ?_
          refine r_iinc c123_41 rfl (by first | exact q_w32_id (by omega) (by omega) | exact q_w32w _ | exact rfl) (lo' := [(4, _), (3, _), (0, _), (1, _), (2, _)]) rfl rfl rfl ?_
          refine r_goto c123_44 ?_
          refine q_R.wk (ks := [4, 3, 0, 1, 2]) (lo' := [(4, _), (3, _), (0, _), (1, _), (2, _)]) rfl ?_
          exact ih (by first | omega | exact ⟨q_rg1 _, q_rg2 _⟩) (by repeat (first | exact q_Fr.rf | refine q_Fr.ud ?_ (by omega) (by first | assumption | rfl) rfl | refine q_Fr.udz ?_ (by omega) (by first | assumption | decide | omega) | refine q_Fr.tr ?_ (by assumption) (by intro k9 hk9; omega))) (by omega)
        · intro b5
          refine r_iconst c123_35 rfl ?_
          refine r_goto c123_36 ?_
          refine r_istore_n c123_40 (lo' := [(3, _), (4, _), (0, _), (1, _), (2, _)]) rfl rfl rfl ?_
          refine r_iinc c123_41 rfl (by first | exact q_w32_id (by omega) (by omega) | exact q_w32w _ | exact rfl) (lo' := [(4, _), (3, _), (0, _), (1, _), (2, _)]) rfl rfl rfl ?_
          refine r_goto c123_44 ?_
          refine q_R.wk (ks := [4, 3, 0, 1, 2]) (lo' := [(4, _), (3, _), (0, _), (1, _), (2, _)]) rfl ?_
          exact ih (by first | omega | exact ⟨q_rg1 _, q_rg2 _⟩) (by repeat (first | exact q_Fr.rf | refine q_Fr.ud ?_ (by omega) (by first | assumption | rfl) rfl | refine q_Fr.udz ?_ (by omega) (by first | assumption | decide | omega) | refine q_Fr.tr ?_ (by assumption) (by intro k9 hk9; omega))) (by omega)

theorem k123 {Γ : q_Γ} (hG : q_GG Γ) {h : q_F} (hZ : q_Bz h) {o0 : Nat} {o1 : Nat} {v2 : Int} (ho0 : q_isT o0) (ho1 : q_isG o1) :
    q_M Γ q_K 155 123 [(2, Int.ofNat o0), (2, Int.ofNat o1), (0, v2)] h (fun t w h' => (t = 0 ∧ q_Fr (fun k => (o0 ≤ k ∧ k ≤ o0 + 8) ∨ k = o1 ∨ k = o1 + 1) h h')) := by
  obtain ⟨fo00, fo01, fo02, fo03, fo04, fo05, fo06, fo07, fo08, fo09, fo010⟩ := q_fT ho0
  obtain ⟨fo10, fo11, fo12, fo13⟩ := q_fG ho1
  refine q_M.of (by decide) (Nat.le_of_ble_eq_true rfl) hG ?_
  refine r_iconst c123_0 rfl ?_
  refine r_istore_n c123_1 (lo' := [(3, _), (0, _), (1, _), (2, _)]) rfl rfl rfl ?_
  refine r_iconst c123_2 rfl ?_
  refine r_istore c123_3 (lo' := [(4, _), (3, _), (0, _), (1, _), (2, _)]) rfl rfl rfl ?_
  refine q_R.wk (ks := [4, 3, 0, 1, 2]) (lo' := [(4, _), (3, _), (0, _), (1, _), (2, _)]) rfl ?_
  refine l123_5 (o0 := o0) (o1 := o1) (v2 := v2) hG hZ ho0 ho1 ?_ 4294967298 (by first | omega | exact ⟨q_rg1 _, q_rg2 _⟩) (by repeat (first | exact q_Fr.rf | refine q_Fr.ud ?_ (by omega) (by first | assumption | rfl) rfl | refine q_Fr.udz ?_ (by omega) (by first | assumption | decide | omega) | refine q_Fr.tr ?_ (by assumption) (by intro k9 hk9; omega))) (q_mu (by first | omega | exact ⟨q_rg1 _, q_rg2 _⟩))
  · intro u4_1 u3_1 g1 f1
    refine r_iload_n c123_47 rfl rfl ?_
    refine r_if_ne c123_48 rfl (by first | exact q_w32_id (by omega) (by omega) | exact q_w32w _ | exact rfl) ?_ ?_
    · intro b2
      exact r_vret c123_86 ⟨rfl, rfl, rfl⟩ ⟨rfl, (by repeat (first | exact q_Fr.rf | refine q_Fr.ud ?_ (by omega) (by first | assumption | rfl) rfl | refine q_Fr.udz ?_ (by omega) (by first | assumption | decide | omega) | refine q_Fr.tr ?_ (by assumption) (by intro k9 hk9; omega)))⟩
    · intro b2
      refine r_aload_n c123_51 rfl rfl ?_
      refine r_aload_n c123_52 rfl rfl ?_
      refine r_geti c123_53 (by first | assumption | omega) (by decide) (by first | assumption | rfl) rfl rfl ?_
      refine r_aload_n c123_56 rfl rfl ?_
      refine r_getr c123_57 (by first | assumption | omega) (by decide) (by first | assumption | rfl) rfl rfl ?_
      refine r_iload_n c123_60 rfl rfl ?_
      refine r_iconst c123_61 rfl ?_
      refine r_vcG c123_62 (by first | assumption | omega) (by decide) (by first | assumption | rfl) rfl rfl rfl (k148 hG (q_Fr.bz (S := fun k => (o0 ≤ k ∧ k ≤ o0 + 8) ∨ k = o1 ∨ k = o1 + 1) hZ (by repeat (first | exact q_Fr.rf | refine q_Fr.ud ?_ (by omega) (by first | assumption | rfl) rfl | refine q_Fr.udz ?_ (by omega) (by first | assumption | decide | omega) | refine q_Fr.tr ?_ (by assumption) (by intro k9 hk9; omega)))) (by first | assumption | exact q_hC (by assumption) | exact q_h1 (by assumption) | exact q_h3 (by assumption) | exact q_h5 (by assumption) | exact q_hG (by assumption) | exact q_hP | exact q_hB1 | exact q_hB2 | exact q_hT6 | exact q_hT15 | exact q_hT24)) ?_
      intro t3 w3 g3 p3
      obtain ⟨rfl, ⟨z3, rfl⟩, rfl⟩ := p3
      refine Or.inr (Or.inl ⟨rfl, ?_⟩)
      refine r_aload_n c123_65 rfl rfl ?_
      refine r_getr c123_66 (by first | assumption | omega) (by decide) (by first | assumption | rfl) rfl rfl ?_
      refine r_iload_n c123_69 rfl rfl ?_
      refine r_iconst c123_70 rfl ?_
      refine r_vcG c123_71 (by first | assumption | omega) (by decide) (by first | assumption | rfl) rfl rfl rfl (k148 hG (q_Fr.bz (S := fun k => (o0 ≤ k ∧ k ≤ o0 + 8) ∨ k = o1 ∨ k = o1 + 1) hZ (by repeat (first | exact q_Fr.rf | refine q_Fr.ud ?_ (by omega) (by first | assumption | rfl) rfl | refine q_Fr.udz ?_ (by omega) (by first | assumption | decide | omega) | refine q_Fr.tr ?_ (by assumption) (by intro k9 hk9; omega)))) (by first | assumption | exact q_hC (by assumption) | exact q_h1 (by assumption) | exact q_h3 (by assumption) | exact q_h5 (by assumption) | exact q_hG (by assumption) | exact q_hP | exact q_hB1 | exact q_hB2 | exact q_hT6 | exact q_hT15 | exact q_hT24)) ?_
      intro t4 w4 g4 p4
      obtain ⟨rfl, ⟨z4, rfl⟩, rfl⟩ := p4
      refine Or.inr (Or.inl ⟨rfl, ?_⟩)
      refine r_aload_n c123_74 rfl rfl ?_
      refine r_getr c123_75 (by first | assumption | omega) (by decide) (by first | assumption | rfl) rfl rfl ?_
      refine r_iload_n c123_78 rfl rfl ?_
      refine r_iconst c123_79 rfl ?_
      refine r_vcG c123_80 (by first | assumption | omega) (by decide) (by first | assumption | rfl) rfl rfl rfl (k148 hG (q_Fr.bz (S := fun k => (o0 ≤ k ∧ k ≤ o0 + 8) ∨ k = o1 ∨ k = o1 + 1) hZ (by repeat (first | exact q_Fr.rf | refine q_Fr.ud ?_ (by omega) (by first | assumption | rfl) rfl | refine q_Fr.udz ?_ (by omega) (by first | assumption | decide | omega) | refine q_Fr.tr ?_ (by assumption) (by intro k9 hk9; omega)))) (by first | assumption | exact q_hC (by assumption) | exact q_h1 (by assumption) | exact q_h3 (by assumption) | exact q_h5 (by assumption) | exact q_hG (by assumption) | exact q_hP | exact q_hB1 | exact q_hB2 | exact q_hT6 | exact q_hT15 | exact q_hT24)) ?_
      intro t5 w5 g5 p5
      obtain ⟨rfl, ⟨z5, rfl⟩, rfl⟩ := p5
      refine Or.inr (Or.inl ⟨rfl, ?_⟩)
      refine r_vcG c123_83 (by first | assumption | omega) (by decide) (by first | assumption | rfl) rfl rfl rfl (k150 hG (q_Fr.bz (S := fun k => (o0 ≤ k ∧ k ≤ o0 + 8) ∨ k = o1 ∨ k = o1 + 1) hZ (by repeat (first | exact q_Fr.rf | refine q_Fr.ud ?_ (by omega) (by first | assumption | rfl) rfl | refine q_Fr.udz ?_ (by omega) (by first | assumption | decide | omega) | refine q_Fr.tr ?_ (by assumption) (by intro k9 hk9; omega)))) (by first | assumption | exact q_hC (by assumption) | exact q_h1 (by assumption) | exact q_h3 (by assumption) | exact q_h5 (by assumption) | exact q_hG (by assumption) | exact q_hP | exact q_hB1 | exact q_hB2 | exact q_hT6 | exact q_hT15 | exact q_hT24)) ?_
      intro t6 w6 g6 p6
      obtain ⟨rfl, e6⟩ := p6
      refine Or.inl ⟨rfl, ?_⟩
      exact r_vret c123_86 ⟨rfl, rfl, rfl⟩ ⟨rfl, (by repeat (first | exact q_Fr.rf | refine q_Fr.ud ?_ (by omega) (by first | assumption | rfl) rfl | refine q_Fr.udz ?_ (by omega) (by first | assumption | decide | omega) | refine q_Fr.tr ?_ (by assumption) (by intro k9 hk9; omega)))⟩
theorem c124_0 : q_cat 124 0 (.aload_n 1) 1 1 0 (0) := ⟨rfl, rfl⟩
theorem c124_1 : q_cat 124 1 (.invokevirtual 39) 3 143 0 (0) := ⟨rfl, rfl⟩
theorem c124_4 : q_cat 124 4 (.aload_n 0) 1 0 0 (0) := ⟨rfl, rfl⟩
theorem c124_5 : q_cat 124 5 (.aload_n 1) 1 1 0 (0) := ⟨rfl, rfl⟩
theorem c124_6 : q_cat 124 6 (.iload_n 2) 1 2 0 (0) := ⟨rfl, rfl⟩
theorem c124_7 : q_cat 124 7 (.invokevirtual 102) 3 123 0 (0) := ⟨rfl, rfl⟩
theorem c124_10 : q_cat 124 10 (.iconst 0) 1 0 0 (0) := ⟨rfl, rfl⟩
theorem c124_11 : q_cat 124 11 (.istore_n 3) 1 3 0 (0) := ⟨rfl, rfl⟩
theorem c124_12 : q_cat 124 12 (.iload_n 3) 1 3 0 (0) := ⟨rfl, rfl⟩
theorem c124_13 : q_cat 124 13 (.aload_n 0) 1 0 0 (0) := ⟨rfl, rfl⟩
theorem c124_14 : q_cat 124 14 (.getfield 27) 3 6 3 (3) := ⟨rfl, rfl⟩
theorem c124_17 : q_cat 124 17 (.getfield 88) 3 7 1 (0) := ⟨rfl, rfl⟩
theorem c124_20 : q_cat 124 20 (.if_icmp .ge 20) 3 40 0 (0) := ⟨rfl, rfl⟩
theorem c124_23 : q_cat 124 23 (.iload_n 3) 1 3 0 (0) := ⟨rfl, rfl⟩
theorem c124_24 : q_cat 124 24 (.iload_n 2) 1 2 0 (0) := ⟨rfl, rfl⟩
theorem c124_25 : q_cat 124 25 (.if_icmp .eq 9) 3 34 0 (0) := ⟨rfl, rfl⟩
theorem c124_28 : q_cat 124 28 (.aload_n 0) 1 0 0 (0) := ⟨rfl, rfl⟩
theorem c124_29 : q_cat 124 29 (.aload_n 1) 1 1 0 (0) := ⟨rfl, rfl⟩
theorem c124_30 : q_cat 124 30 (.iload_n 3) 1 3 0 (0) := ⟨rfl, rfl⟩
theorem c124_31 : q_cat 124 31 (.invokevirtual 102) 3 123 0 (0) := ⟨rfl, rfl⟩
theorem c124_34 : q_cat 124 34 (.iinc 3 1) 3 3 0 (0) := ⟨rfl, rfl⟩
theorem c124_37 : q_cat 124 37 (.goto (-25)) 3 12 0 (0) := ⟨rfl, rfl⟩
theorem c124_40 : q_cat 124 40 (.return_) 1 0 0 (0) := ⟨rfl, rfl⟩
theorem l124_12 {Γ : q_Γ} (hG : q_GG Γ) {h0 : q_F} (hZ : q_Bz h0) {o0 : Nat} {o1 : Nat} {v2 : Int} {u2 : Int} (ho0 : q_isT o0) (ho1 : q_isG o1)
    (hx40 : ∀ {u3 : Int} {h : q_F}, q_Fr (fun k => (o0 ≤ k ∧ k ≤ o0 + 8) ∨ k = o1 ∨ k = o1 + 1) h0 h → q_R Γ q_K 155 124 (fun t w h' => (t = 0 ∧ q_Fr (fun k => (o0 ≤ k ∧ k ≤ o0 + 8) ∨ k = o1 ∨ k = o1 + 1) h0 h')) (40, [(3, (0, u3)), (0, (2, Int.ofNat o0)), (1, (2, Int.ofNat o1)), (2, (0, u2))], [], q_hp q_K 155 h, [], 0, 0))
    : ∀ (m : Nat) {u3 : Int} {h : q_F}, (-2147483648 ≤ u3 ∧ u3 < 2147483648) → q_Fr (fun k => (o0 ≤ k ∧ k ≤ o0 + 8) ∨ k = o1 ∨ k = o1 + 1) h0 h → 2147483648 - u3 < (m : Int) → q_R Γ q_K 155 124 (fun t w h' => (t = 0 ∧ q_Fr (fun k => (o0 ≤ k ∧ k ≤ o0 + 8) ∨ k = o1 ∨ k = o1 + 1) h0 h')) (12, [(3, (0, u3)), (0, (2, Int.ofNat o0)), (1, (2, Int.ofNat o1)), (2, (0, u2))], [], q_hp q_K 155 h, [], 0, 0)   := by
  obtain ⟨fo00, fo01, fo02, fo03, fo04, fo05, fo06, fo07, fo08, fo09, fo010⟩ := q_fT ho0
  obtain ⟨fo10, fo11, fo12, fo13⟩ := q_fG ho1
  intro m
  induction m with
  | zero =>
    intro u3 h hinv hf hmu
    exact absurd hmu (by omega)
  | succ m ih =>
    intro u3 h hinv hf hmu
    refine r_iload_n c124_12 rfl rfl ?_
    refine r_aload_n c124_13 rfl rfl ?_
    refine r_getr c124_14 (by first | assumption | omega) (by decide) (by first | assumption | rfl) rfl rfl ?_
    refine r_geti c124_17 (by first | assumption | omega) (by decide) (by first | assumption | rfl) rfl rfl ?_
    refine r_ic_ge c124_20 rfl (by first | exact q_w32_id (by omega) (by omega) | exact q_w32w _ | exact rfl) (by first | exact q_w32_id (by omega) (by omega) | exact q_w32w _ | exact rfl) ?_ ?_
    · intro b3
      refine q_R.wk (ks := [3, 0, 1, 2]) (lo' := [(3, _), (0, _), (1, _), (2, _)]) rfl ?_
      exact hx40 (by repeat (first | exact q_Fr.rf | refine q_Fr.ud ?_ (by omega) (by first | assumption | rfl) rfl | refine q_Fr.udz ?_ (by omega) (by first | assumption | decide | omega) | refine q_Fr.tr ?_ (by assumption) (by intro k9 hk9; omega)))
    · intro b3
      refine r_iload_n c124_23 rfl rfl ?_
      refine r_iload_n c124_24 rfl rfl ?_
      refine r_ic_eq c124_25 rfl (by first | exact q_w32_id (by omega) (by omega) | exact q_w32w _ | exact rfl) (by first | exact q_w32_id (by omega) (by omega) | exact q_w32w _ | exact rfl) ?_ ?_
      · intro b4
        refine r_iinc c124_34 rfl (by first | exact q_w32_id (by omega) (by omega) | exact q_w32w _ | exact rfl) (lo' := [(3, _), (0, _), (1, _), (2, _)]) rfl rfl rfl ?_
        refine r_goto c124_37 ?_
        refine q_R.wk (ks := [3, 0, 1, 2]) (lo' := [(3, _), (0, _), (1, _), (2, _)]) rfl ?_
        exact ih (by first | omega | exact ⟨q_rg1 _, q_rg2 _⟩) (by repeat (first | exact q_Fr.rf | refine q_Fr.ud ?_ (by omega) (by first | assumption | rfl) rfl | refine q_Fr.udz ?_ (by omega) (by first | assumption | decide | omega) | refine q_Fr.tr ?_ (by assumption) (by intro k9 hk9; omega))) (by omega)
      · intro b4
        refine r_aload_n c124_28 rfl rfl ?_
        refine r_aload_n c124_29 rfl rfl ?_
        refine r_iload_n c124_30 rfl rfl ?_
        refine r_vcG c124_31 (by first | assumption | omega) (by decide) (by first | assumption | rfl) rfl rfl rfl (k123 hG (q_Fr.bz (S := fun k => (o0 ≤ k ∧ k ≤ o0 + 8) ∨ k = o1 ∨ k = o1 + 1) hZ (by repeat (first | exact q_Fr.rf | refine q_Fr.ud ?_ (by omega) (by first | assumption | rfl) rfl | refine q_Fr.udz ?_ (by omega) (by first | assumption | decide | omega) | refine q_Fr.tr ?_ (by assumption) (by intro k9 hk9; omega)))) (by first | assumption | exact q_hC (by assumption) | exact q_h1 (by assumption) | exact q_h3 (by assumption) | exact q_h5 (by assumption) | exact q_hG (by assumption) | exact q_hP | exact q_hB1 | exact q_hB2 | exact q_hT6 | exact q_hT15 | exact q_hT24) (by first | assumption | exact q_hC (by assumption) | exact q_h1 (by assumption) | exact q_h3 (by assumption) | exact q_h5 (by assumption) | exact q_hG (by assumption) | exact q_hP | exact q_hB1 | exact q_hB2 | exact q_hT6 | exact q_hT15 | exact q_hT24)) ?_
        intro t5 w5 g5 p5
        obtain ⟨rfl, e5⟩ := p5
        refine Or.inl ⟨rfl, ?_⟩
        refine r_iinc c124_34 rfl (by first | exact q_w32_id (by omega) (by omega) | exact q_w32w _ | exact rfl) (lo' := [(3, _), (0, _), (1, _), (2, _)]) rfl rfl rfl ?_
        refine r_goto c124_37 ?_
        refine q_R.wk (ks := [3, 0, 1, 2]) (lo' := [(3, _), (0, _), (1, _), (2, _)]) rfl ?_
        exact ih (by first | omega | exact ⟨q_rg1 _, q_rg2 _⟩) (by repeat (first | exact q_Fr.rf | refine q_Fr.ud ?_ (by omega) (by first | assumption | rfl) rfl | refine q_Fr.udz ?_ (by omega) (by first | assumption | decide | omega) | refine q_Fr.tr ?_ (by assumption) (by intro k9 hk9; omega))) (by omega)

theorem k124 {Γ : q_Γ} (hG : q_GG Γ) {h : q_F} (hZ : q_Bz h) {o0 : Nat} {o1 : Nat} {v2 : Int} (ho0 : q_isT o0) (ho1 : q_isG o1) :
    q_M Γ q_K 155 124 [(2, Int.ofNat o0), (2, Int.ofNat o1), (0, v2)] h (fun t w h' => (t = 0 ∧ q_Fr (fun k => (o0 ≤ k ∧ k ≤ o0 + 8) ∨ k = o1 ∨ k = o1 + 1) h h')) := by
  obtain ⟨fo00, fo01, fo02, fo03, fo04, fo05, fo06, fo07, fo08, fo09, fo010⟩ := q_fT ho0
  obtain ⟨fo10, fo11, fo12, fo13⟩ := q_fG ho1
  refine q_M.of (by decide) (Nat.le_of_ble_eq_true rfl) hG ?_
  refine r_aload_n c124_0 rfl rfl ?_
  refine r_vcG c124_1 (by first | assumption | omega) (by decide) (by first | assumption | rfl) rfl rfl rfl (k143 hG (q_Fr.bz (S := fun k => (o0 ≤ k ∧ k ≤ o0 + 8) ∨ k = o1 ∨ k = o1 + 1) hZ (by repeat (first | exact q_Fr.rf | refine q_Fr.ud ?_ (by omega) (by first | assumption | rfl) rfl | refine q_Fr.udz ?_ (by omega) (by first | assumption | decide | omega) | refine q_Fr.tr ?_ (by assumption) (by intro k9 hk9; omega)))) (by first | assumption | exact q_hC (by assumption) | exact q_h1 (by assumption) | exact q_h3 (by assumption) | exact q_h5 (by assumption) | exact q_hG (by assumption) | exact q_hP | exact q_hB1 | exact q_hB2 | exact q_hT6 | exact q_hT15 | exact q_hT24)) ?_
  intro t1 w1 g1 p1
  obtain ⟨rfl, e1⟩ := p1
  refine Or.inl ⟨rfl, ?_⟩
  refine r_aload_n c124_4 rfl rfl ?_
  refine r_aload_n c124_5 rfl rfl ?_
  refine r_iload_n c124_6 rfl rfl ?_
  refine r_vcG c124_7 (by first | assumption | omega) (by decide) (by first | assumption | rfl) rfl rfl rfl (k123 hG (q_Fr.bz (S := fun k => (o0 ≤ k ∧ k ≤ o0 + 8) ∨ k = o1 ∨ k = o1 + 1) hZ (by repeat (first | exact q_Fr.rf | refine q_Fr.ud ?_ (by omega) (by first | assumption | rfl) rfl | refine q_Fr.udz ?_ (by omega) (by first | assumption | decide | omega) | refine q_Fr.tr ?_ (by assumption) (by intro k9 hk9; omega)))) (by first | assumption | exact q_hC (by assumption) | exact q_h1 (by assumption) | exact q_h3 (by assumption) | exact q_h5 (by assumption) | exact q_hG (by assumption) | exact q_hP | exact q_hB1 | exact q_hB2 | exact q_hT6 | exact q_hT15 | exact q_hT24) (by first | assumption | exact q_hC (by assumption) | exact q_h1 (by assumption) | exact q_h3 (by assumption) | exact q_h5 (by assumption) | exact q_hG (by assumption) | exact q_hP | exact q_hB1 | exact q_hB2 | exact q_hT6 | exact q_hT15 | exact q_hT24)) ?_
  intro t2 w2 g2 p2
  obtain ⟨rfl, e2⟩ := p2
  refine Or.inl ⟨rfl, ?_⟩
  refine r_iconst c124_10 rfl ?_
  refine r_istore_n c124_11 (lo' := [(3, _), (0, _), (1, _), (2, _)]) rfl rfl rfl ?_
  refine q_R.wk (ks := [3, 0, 1, 2]) (lo' := [(3, _), (0, _), (1, _), (2, _)]) rfl ?_
  refine l124_12 (o0 := o0) (o1 := o1) (v2 := v2) hG hZ ho0 ho1 ?_ 4294967298 (by first | omega | exact ⟨q_rg1 _, q_rg2 _⟩) (by repeat (first | exact q_Fr.rf | refine q_Fr.ud ?_ (by omega) (by first | assumption | rfl) rfl | refine q_Fr.udz ?_ (by omega) (by first | assumption | decide | omega) | refine q_Fr.tr ?_ (by assumption) (by intro k9 hk9; omega))) (q_mu (by first | omega | exact ⟨q_rg1 _, q_rg2 _⟩))
  · intro u3_3 g3 f3
    exact r_vret c124_40 ⟨rfl, rfl, rfl⟩ ⟨rfl, (by repeat (first | exact q_Fr.rf | refine q_Fr.ud ?_ (by omega) (by first | assumption | rfl) rfl | refine q_Fr.udz ?_ (by omega) (by first | assumption | decide | omega) | refine q_Fr.tr ?_ (by assumption) (by intro k9 hk9; omega)))⟩
theorem c140_0 : q_cat 140 0 (.ldc 114) 2 0 0 (1000000) := ⟨rfl, rfl⟩
theorem c140_2 : q_cat 140 2 (.aload_n 0) 1 0 0 (0) := ⟨rfl, rfl⟩
theorem c140_3 : q_cat 140 3 (.getfield 31) 3 6 4 (0) := ⟨rfl, rfl⟩
theorem c140_6 : q_cat 140 6 (.invokestatic 115) 3 201 3 (0) := ⟨rfl, rfl⟩
theorem c140_9 : q_cat 140 9 (.ireturn) 1 0 0 (0) := ⟨rfl, rfl⟩
theorem k140 {Γ : q_Γ} (hG : q_GG Γ) {h : q_F} (hZ : q_Bz h) {o0 : Nat} (ho0 : q_isT o0) :
    q_M Γ q_K 155 140 [(2, Int.ofNat o0)] h (fun t w h' => (t = 1 ∧ (∃ z, w = ((0, z) : q_V)) ∧ h' = h)) := by
  obtain ⟨fo00, fo01, fo02, fo03, fo04, fo05, fo06, fo07, fo08, fo09, fo010⟩ := q_fT ho0
  refine q_M.of (by decide) (Nat.le_of_ble_eq_true rfl) hG ?_
  refine r_ldc c140_0 rfl rfl ?_
  refine r_aload_n c140_2 rfl rfl ?_
  refine r_geti c140_3 (by first | assumption | omega) (by decide) (by first | assumption | rfl) rfl rfl ?_
  refine r_callG c140_6 (fun _ => rfl) rfl rfl rfl (k201 hG hZ) ?_
  intro t1 w1 g1 p1
  obtain ⟨rfl, ⟨z1, rfl⟩, rfl⟩ := p1
  refine Or.inr (Or.inl ⟨rfl, ?_⟩)
  exact r_iret c140_9 ⟨rfl, rfl, rfl⟩ ⟨rfl, ⟨_, rfl⟩, rfl⟩
theorem c142_0 : q_cat 142 0 (.aload_n 0) 1 0 0 (0) := ⟨rfl, rfl⟩
theorem c142_1 : q_cat 142 1 (.iload_n 1) 1 1 0 (0) := ⟨rfl, rfl⟩
theorem c142_2 : q_cat 142 2 (.putfield 56) 3 6 7 (0) := ⟨rfl, rfl⟩
theorem c142_5 : q_cat 142 5 (.aload_n 0) 1 0 0 (0) := ⟨rfl, rfl⟩
theorem c142_6 : q_cat 142 6 (.getfield 27) 3 6 3 (3) := ⟨rfl, rfl⟩
theorem c142_9 : q_cat 142 9 (.invokevirtual 39) 3 143 0 (0) := ⟨rfl, rfl⟩
theorem c142_12 : q_cat 142 12 (.aload_n 0) 1 0 0 (0) := ⟨rfl, rfl⟩
theorem c142_13 : q_cat 142 13 (.getfield 12) 3 6 0 (3) := ⟨rfl, rfl⟩
theorem c142_16 : q_cat 142 16 (.iconst 0) 1 0 0 (0) := ⟨rfl, rfl⟩
theorem c142_17 : q_cat 142 17 (.putfield 76) 3 1 11 (1) := ⟨rfl, rfl⟩
theorem c142_20 : q_cat 142 20 (.aload_n 0) 1 0 0 (0) := ⟨rfl, rfl⟩
theorem c142_21 : q_cat 142 21 (.getfield 18) 3 6 1 (3) := ⟨rfl, rfl⟩
theorem c142_24 : q_cat 142 24 (.iconst 0) 1 0 0 (0) := ⟨rfl, rfl⟩
theorem c142_25 : q_cat 142 25 (.putfield 76) 3 1 11 (1) := ⟨rfl, rfl⟩
theorem c142_28 : q_cat 142 28 (.aload_n 0) 1 0 0 (0) := ⟨rfl, rfl⟩
theorem c142_29 : q_cat 142 29 (.getfield 21) 3 6 2 (3) := ⟨rfl, rfl⟩
theorem c142_32 : q_cat 142 32 (.iconst 0) 1 0 0 (0) := ⟨rfl, rfl⟩
theorem c142_33 : q_cat 142 33 (.putfield 76) 3 1 11 (1) := ⟨rfl, rfl⟩
theorem c142_36 : q_cat 142 36 (.return_) 1 0 0 (0) := ⟨rfl, rfl⟩
theorem k142 {Γ : q_Γ} (hG : q_GG Γ) {h : q_F} (hZ : q_Bz h) {o0 : Nat} {v1 : Int} (ho0 : q_isT o0) :
    q_M Γ q_K 155 142 [(2, Int.ofNat o0), (0, v1)] h (fun t w h' => (t = 0 ∧ q_Fr (fun k => o0 ≤ k ∧ k ≤ o0 + 8) h h')) := by
  obtain ⟨fo00, fo01, fo02, fo03, fo04, fo05, fo06, fo07, fo08, fo09, fo010⟩ := q_fT ho0
  refine q_M.of (by decide) (Nat.le_of_ble_eq_true rfl) hG ?_
  refine r_aload_n c142_0 rfl rfl ?_
  refine r_iload_n c142_1 rfl rfl ?_
  refine r_puti c142_2 (by first | assumption | omega) (by decide) (by first | assumption | rfl) rfl rfl rfl ?_
  refine r_aload_n c142_5 rfl rfl ?_
  refine r_getr c142_6 (by first | assumption | omega) (by decide) (by first | assumption | rfl) rfl rfl ?_
  refine r_vcG c142_9 (by first | assumption | omega) (by decide) (by first | assumption | rfl) rfl rfl rfl (k143 hG (q_Fr.bz (S := fun k => o0 ≤ k ∧ k ≤ o0 + 8) hZ (by repeat (first | exact q_Fr.rf | refine q_Fr.ud ?_ (by omega) (by first | assumption | rfl) rfl | refine q_Fr.udz ?_ (by omega) (by first | assumption | decide | omega) | refine q_Fr.tr ?_ (by assumption) (by intro k9 hk9; omega)))) (by first | assumption | exact q_hC (by assumption) | exact q_h1 (by assumption) | exact q_h3 (by assumption) | exact q_h5 (by assumption) | exact q_hG (by assumption) | exact q_hP | exact q_hB1 | exact q_hB2 | exact q_hT6 | exact q_hT15 | exact q_hT24)) ?_
  intro t1 w1 g1 p1
  obtain ⟨rfl, e1⟩ := p1
  refine Or.inl ⟨rfl, ?_⟩
  refine r_aload_n c142_12 rfl rfl ?_
  refine r_getr c142_13 (by first | assumption | omega) (by decide) (by first | assumption | rfl) rfl rfl ?_
  refine r_iconst c142_16 rfl ?_
  refine r_puti c142_17 (by first | assumption | omega) (by decide) (by first | assumption | rfl) rfl rfl rfl ?_
  refine r_aload_n c142_20 rfl rfl ?_
  refine r_getr c142_21 (by first | assumption | omega) (by decide) (by first | assumption | rfl) rfl rfl ?_
  refine r_iconst c142_24 rfl ?_
  refine r_puti c142_25 (by first | assumption | omega) (by decide) (by first | assumption | rfl) rfl rfl rfl ?_
  refine r_aload_n c142_28 rfl rfl ?_
  refine r_getr c142_29 (by first | assumption | omega) (by decide) (by first | assumption | rfl) rfl rfl ?_
  refine r_iconst c142_32 rfl ?_
  refine r_puti c142_33 (by first | assumption | omega) (by decide) (by first | assumption | rfl) rfl rfl rfl ?_
  exact r_vret c142_36 ⟨rfl, rfl, rfl⟩ ⟨rfl, (by repeat (first | exact q_Fr.rf | refine q_Fr.ud ?_ (by omega) (by first | assumption | rfl) rfl | refine q_Fr.udz ?_ (by omega) (by first | assumption | decide | omega) | refine q_Fr.tr ?_ (by assumption) (by intro k9 hk9; omega)))⟩
theorem c130_0 : q_cat 130 0 (.aload_n 0) 1 0 0 (0) := ⟨rfl, rfl⟩
theorem c130_1 : q_cat 130 1 (.iload_n 2) 1 2 0 (0) := ⟨rfl, rfl⟩
theorem c130_2 : q_cat 130 2 (.putfield 56) 3 6 7 (0) := ⟨rfl, rfl⟩
theorem c130_5 : q_cat 130 5 (.aload_n 1) 1 1 0 (0) := ⟨rfl, rfl⟩
theorem c130_6 : q_cat 130 6 (.iconst 0) 1 0 0 (0) := ⟨rfl, rfl⟩
theorem c130_7 : q_cat 130 7 (.putfield 76) 3 1 11 (1) := ⟨rfl, rfl⟩
theorem c130_10 : q_cat 130 10 (.aload_n 1) 1 1 0 (0) := ⟨rfl, rfl⟩
theorem c130_11 : q_cat 130 11 (.getfield 79) 3 1 14 (3) := ⟨rfl, rfl⟩
theorem c130_14 : q_cat 130 14 (.dup) 1 0 0 (0) := ⟨rfl, rfl⟩
theorem c130_15 : q_cat 130 15 (.getfield 142) 3 0 5 (0) := ⟨rfl, rfl⟩
theorem c130_18 : q_cat 130 18 (.iconst 1) 1 0 0 (0) := ⟨rfl, rfl⟩
theorem c130_19 : q_cat 130 19 (.iadd) 1 0 0 (0) := ⟨rfl, rfl⟩
theorem c130_20 : q_cat 130 20 (.putfield 142) 3 0 5 (0) := ⟨rfl, rfl⟩
theorem c130_23 : q_cat 130 23 (.iconst (-1)) 1 0 0 (0) := ⟨rfl, rfl⟩
theorem c130_24 : q_cat 130 24 (.ireturn) 1 0 0 (0) := ⟨rfl, rfl⟩
theorem k130 {Γ : q_Γ} (hG : q_GG Γ) {h : q_F} (hZ : q_Bz h) {o0 : Nat} {o1 : Nat} {v2 : Int} (ho0 : q_isT o0) (ho1 : q_isA o1) :
    q_M Γ q_K 155 130 [(2, Int.ofNat o0), (2, Int.ofNat o1), (0, v2)] h (fun t w h' => (t = 1 ∧ (∃ z, w = ((0, z) : q_V)) ∧ q_Fr (fun k => (o0 ≤ k ∧ k ≤ o0 + 8) ∨ k = o1 ∨ k = o1 + 1) h h')) := by
  obtain ⟨fo00, fo01, fo02, fo03, fo04, fo05, fo06, fo07, fo08, fo09, fo010⟩ := q_fT ho0
  obtain ⟨fo10, fo11, fo12, fo13⟩ := q_fA ho1
  refine q_M.of (by decide) (Nat.le_of_ble_eq_true rfl) hG ?_
  refine r_aload_n c130_0 rfl rfl ?_
  refine r_iload_n c130_1 rfl rfl ?_
  refine r_puti c130_2 (by first | assumption | omega) (by decide) (by first | assumption | rfl) rfl rfl rfl ?_
  refine r_aload_n c130_5 rfl rfl ?_
  refine r_iconst c130_6 rfl ?_
  refine r_puti c130_7 (by first | assumption | omega) (by decide) (by first | assumption | rfl) rfl rfl rfl ?_
  refine r_aload_n c130_10 rfl rfl ?_
  refine r_getr c130_11 (by first | assumption | omega) (by decide) (by first | assumption | rfl) rfl rfl ?_
  refine r_dup c130_14 rfl rfl ?_
  refine r_geti c130_15 (by first | assumption | omega) (by decide) (by first | assumption | rfl) rfl rfl ?_
  refine r_iconst c130_18 rfl ?_
  refine r_iadd c130_19 (by first | exact q_w32_id (by omega) (by omega) | exact q_w32w _ | exact rfl) rfl ?_
  refine r_puti c130_20 (by first | assumption | omega) (by decide) (by first | assumption | rfl) rfl rfl rfl ?_
  refine r_iconst c130_23 rfl ?_
  exact r_iret c130_24 ⟨rfl, rfl, rfl⟩ ⟨rfl, ⟨_, rfl⟩, (by repeat (first | exact q_Fr.rf | refine q_Fr.ud ?_ (by omega) (by first | assumption | rfl) rfl | refine q_Fr.udz ?_ (by omega) (by first | assumption | decide | omega) | refine q_Fr.tr ?_ (by assumption) (by intro k9 hk9; omega)))⟩
theorem c131_0 : q_cat 131 0 (.aload_n 0) 1 0 0 (0) := ⟨rfl, rfl⟩
theorem c131_1 : q_cat 131 1 (.iload_n 1) 1 1 0 (0) := ⟨rfl, rfl⟩
theorem c131_2 : q_cat 131 2 (.invokevirtual 95) 3 125 0 (0) := ⟨rfl, rfl⟩
theorem c131_5 : q_cat 131 5 (.astore_n 2) 1 2 0 (0) := ⟨rfl, rfl⟩
theorem c131_6 : q_cat 131 6 (.aload_n 2) 1 2 0 (0) := ⟨rfl, rfl⟩
theorem c131_7 : q_cat 131 7 (.iconst 1) 1 0 0 (0) := ⟨rfl, rfl⟩
theorem c131_8 : q_cat 131 8 (.invokevirtual 118) 3 55 0 (0) := ⟨rfl, rfl⟩
theorem c131_11 : q_cat 131 11 (.istore_n 3) 1 3 0 (0) := ⟨rfl, rfl⟩
theorem c131_12 : q_cat 131 12 (.aload_n 0) 1 0 0 (0) := ⟨rfl, rfl⟩
theorem c131_13 : q_cat 131 13 (.dup) 1 0 0 (0) := ⟨rfl, rfl⟩
theorem c131_14 : q_cat 131 14 (.getfield 59) 3 6 8 (2) := ⟨rfl, rfl⟩
theorem c131_17 : q_cat 131 17 (.iload_n 3) 1 3 0 (0) := ⟨rfl, rfl⟩
theorem c131_18 : q_cat 131 18 (.i2l) 1 0 0 (0) := ⟨rfl, rfl⟩
theorem c131_19 : q_cat 131 19 (.aload_n 0) 1 0 0 (0) := ⟨rfl, rfl⟩
theorem c131_20 : q_cat 131 20 (.invokevirtual 122) 3 140 0 (0) := ⟨rfl, rfl⟩
theorem c131_23 : q_cat 131 23 (.i2l) 1 0 0 (0) := ⟨rfl, rfl⟩
theorem c131_24 : q_cat 131 24 (.lmul) 1 0 0 (0) := ⟨rfl, rfl⟩
theorem c131_25 : q_cat 131 25 (.ladd) 1 0 0 (0) := ⟨rfl, rfl⟩
theorem c131_26 : q_cat 131 26 (.putfield 59) 3 6 8 (2) := ⟨rfl, rfl⟩
theorem c131_29 : q_cat 131 29 (.aload_n 2) 1 2 0 (0) := ⟨rfl, rfl⟩
theorem c131_30 : q_cat 131 30 (.invokevirtual 126) 3 54 0 (0) := ⟨rfl, rfl⟩
theorem c131_33 : q_cat 131 33 (.ifCond .ne 10) 3 43 0 (0) := ⟨rfl, rfl⟩
theorem c131_36 : q_cat 131 36 (.aload_n 0) 1 0 0 (0) := ⟨rfl, rfl⟩
theorem c131_37 : q_cat 131 37 (.aload_n 2) 1 2 0 (0) := ⟨rfl, rfl⟩
theorem c131_38 : q_cat 131 38 (.iconst 1) 1 0 0 (0) := ⟨rfl, rfl⟩
theorem c131_39 : q_cat 131 39 (.invokevirtual 130) 3 130 0 (0) := ⟨rfl, rfl⟩
theorem c131_42 : q_cat 131 42 (.ireturn) 1 0 0 (0) := ⟨rfl, rfl⟩
theorem c131_43 : q_cat 131 43 (.aload_n 2) 1 2 0 (0) := ⟨rfl, rfl⟩
theorem c131_44 : q_cat 131 44 (.iconst 0) 1 0 0 (0) := ⟨rfl, rfl⟩
theorem c131_45 : q_cat 131 45 (.invokevirtual 118) 3 55 0 (0) := ⟨rfl, rfl⟩
theorem c131_48 : q_cat 131 48 (.istore 4) 2 4 0 (0) := ⟨rfl, rfl⟩
theorem c131_50 : q_cat 131 50 (.aload_n 0) 1 0 0 (0) := ⟨rfl, rfl⟩
theorem c131_51 : q_cat 131 51 (.dup) 1 0 0 (0) := ⟨rfl, rfl⟩
theorem c131_52 : q_cat 131 52 (.getfield 59) 3 6 8 (2) := ⟨rfl, rfl⟩
theorem c131_55 : q_cat 131 55 (.ldc2_w 134) 3 0 0 (4) := ⟨rfl, rfl⟩
theorem c131_58 : q_cat 131 58 (.iload 4) 2 4 0 (0) := ⟨rfl, rfl⟩
theorem c131_60 : q_cat 131 60 (.i2l) 1 0 0 (0) := ⟨rfl, rfl⟩
theorem c131_61 : q_cat 131 61 (.lmul) 1 0 0 (0) := ⟨rfl, rfl⟩
theorem c131_62 : q_cat 131 62 (.aload_n 0) 1 0 0 (0) := ⟨rfl, rfl⟩
theorem c131_63 : q_cat 131 63 (.invokevirtual 122) 3 140 0 (0) := ⟨rfl, rfl⟩
theorem c131_66 : q_cat 131 66 (.i2l) 1 0 0 (0) := ⟨rfl, rfl⟩
theorem c131_67 : q_cat 131 67 (.lmul) 1 0 0 (0) := ⟨rfl, rfl⟩
theorem c131_68 : q_cat 131 68 (.ladd) 1 0 0 (0) := ⟨rfl, rfl⟩
theorem c131_69 : q_cat 131 69 (.putfield 59) 3 6 8 (2) := ⟨rfl, rfl⟩
theorem c131_72 : q_cat 131 72 (.aload_n 2) 1 2 0 (0) := ⟨rfl, rfl⟩
theorem c131_73 : q_cat 131 73 (.invokevirtual 126) 3 54 0 (0) := ⟨rfl, rfl⟩
theorem c131_76 : q_cat 131 76 (.ifCond .eq 10) 3 86 0 (0) := ⟨rfl, rfl⟩
theorem c131_79 : q_cat 131 79 (.aload_n 0) 1 0 0 (0) := ⟨rfl, rfl⟩
theorem c131_80 : q_cat 131 80 (.aload_n 2) 1 2 0 (0) := ⟨rfl, rfl⟩
theorem c131_81 : q_cat 131 81 (.iconst 2) 1 0 0 (0) := ⟨rfl, rfl⟩
theorem c131_82 : q_cat 131 82 (.invokevirtual 130) 3 130 0 (0) := ⟨rfl, rfl⟩
theorem c131_85 : q_cat 131 85 (.ireturn) 1 0 0 (0) := ⟨rfl, rfl⟩
theorem c131_86 : q_cat 131 86 (.aload_n 2) 1 2 0 (0) := ⟨rfl, rfl⟩
theorem c131_87 : q_cat 131 87 (.invokevirtual 136) 3 59 0 (0) := ⟨rfl, rfl⟩
theorem c131_90 : q_cat 131 90 (.aload_n 2) 1 2 0 (0) := ⟨rfl, rfl⟩
theorem c131_91 : q_cat 131 91 (.getfield 79) 3 1 14 (3) := ⟨rfl, rfl⟩
theorem c131_94 : q_cat 131 94 (.dup) 1 0 0 (0) := ⟨rfl, rfl⟩
theorem c131_95 : q_cat 131 95 (.getfield 139) 3 0 4 (0) := ⟨rfl, rfl⟩
theorem c131_98 : q_cat 131 98 (.iconst 1) 1 0 0 (0) := ⟨rfl, rfl⟩
theorem c131_99 : q_cat 131 99 (.iadd) 1 0 0 (0) := ⟨rfl, rfl⟩
theorem c131_100 : q_cat 131 100 (.putfield 139) 3 0 4 (0) := ⟨rfl, rfl⟩
theorem c131_103 : q_cat 131 103 (.iload_n 3) 1 3 0 (0) := ⟨rfl, rfl⟩
theorem c131_104 : q_cat 131 104 (.iload 4) 2 4 0 (0) := ⟨rfl, rfl⟩
theorem c131_106 : q_cat 131 106 (.iadd) 1 0 0 (0) := ⟨rfl, rfl⟩
theorem c131_107 : q_cat 131 107 (.ireturn) 1 0 0 (0) := ⟨rfl, rfl⟩
theorem k131 {Γ : q_Γ} (hG : q_GG Γ) {h : q_F} (hZ : q_Bz h) {o0 : Nat} {v1 : Int} (ho0 : q_isT o0) :
    q_M Γ q_K 155 131 [(2, Int.ofNat o0), (0, v1)] h (fun t w h' => (t = 1 ∧ (∃ z, w = ((0, z) : q_V)) ∧ q_Fr (fun k => o0 ≤ k ∧ k ≤ o0 + 8) h h')) := by
  obtain ⟨fo00, fo01, fo02, fo03, fo04, fo05, fo06, fo07, fo08, fo09, fo010⟩ := q_fT ho0
  refine q_M.of (by decide) (Nat.le_of_ble_eq_true rfl) hG ?_
  refine r_aload_n c131_0 rfl rfl ?_
  refine r_iload_n c131_1 rfl rfl ?_
  refine r_vcG c131_2 (by first | assumption | omega) (by decide) (by first | assumption | rfl) rfl rfl rfl (k125 hG (q_Fr.bz (S := fun k => o0 ≤ k ∧ k ≤ o0 + 8) hZ (by repeat (first | exact q_Fr.rf | refine q_Fr.ud ?_ (by omega) (by first | assumption | rfl) rfl | refine q_Fr.udz ?_ (by omega) (by first | assumption | decide | omega) | refine q_Fr.tr ?_ (by assumption) (by intro k9 hk9; omega)))) (by first | assumption | exact q_hC (by assumption) | exact q_h1 (by assumption) | exact q_h3 (by assumption) | exact q_h5 (by assumption) | exact q_hG (by assumption) | exact q_hP | exact q_hB1 | exact q_hB2 | exact q_hT6 | exact q_hT15 | exact q_hT24)) ?_
  intro t1 w1 g1 p1
  obtain ⟨rfl, ⟨r1, rfl, ha1, hr1⟩, rfl⟩ := p1
  obtain ⟨fr10, fr11, fr12, fr13⟩ := q_fA ha1
  refine Or.inr (Or.inl ⟨rfl, ?_⟩)
  refine r_astore_n c131_5 (lo' := [(2, _), (0, _), (1, _)]) rfl rfl rfl ?_
  refine r_aload_n c131_6 rfl rfl ?_
  refine r_iconst c131_7 rfl ?_
  refine r_vcG c131_8 (by first | assumption | omega) (by decide) (by first | assumption | rfl) rfl rfl rfl (k55 hG (q_Fr.bz (S := fun k => o0 ≤ k ∧ k ≤ o0 + 8) hZ (by repeat (first | exact q_Fr.rf | refine q_Fr.ud ?_ (by omega) (by first | assumption | rfl) rfl | refine q_Fr.udz ?_ (by omega) (by first | assumption | decide | omega) | refine q_Fr.tr ?_ (by assumption) (by intro k9 hk9; omega)))) (by first | assumption | exact q_hC (by assumption) | exact q_h1 (by assumption) | exact q_h3 (by assumption) | exact q_h5 (by assumption) | exact q_hG (by assumption) | exact q_hP | exact q_hB1 | exact q_hB2 | exact q_hT6 | exact q_hT15 | exact q_hT24) (by first | assumption | decide | omega)) ?_
  intro t2 w2 g2 p2
  obtain ⟨rfl, ⟨z2, rfl⟩, e2⟩ := p2
  refine Or.inr (Or.inl ⟨rfl, ?_⟩)
  refine r_istore_n c131_11 (lo' := [(3, _), (2, _), (0, _), (1, _)]) rfl rfl rfl ?_
  refine r_aload_n c131_12 rfl rfl ?_
  refine r_dup c131_13 rfl rfl ?_
  refine r_getl c131_14 (by first | assumption | omega) (by decide) (by first | assumption | rfl) rfl rfl ?_
  refine r_iload_n c131_17 rfl rfl ?_
  refine r_i2l c131_18 (by first | exact q_w32_id (by omega) (by omega) | exact q_w32w _ | exact rfl) rfl ?_
  refine r_aload_n c131_19 rfl rfl ?_
  refine r_vcG c131_20 (by first | assumption | omega) (by decide) (by first | assumption | rfl) rfl rfl rfl (k140 hG (q_Fr.bz (S := fun k => o0 ≤ k ∧ k ≤ o0 + 8) hZ (by repeat (first | exact q_Fr.rf | refine q_Fr.ud ?_ (by omega) (by first | assumption | rfl) rfl | refine q_Fr.udz ?_ (by omega) (by first | assumption | decide | omega) | refine q_Fr.tr ?_ (by assumption) (by intro k9 hk9; omega)))) (by first | assumption | exact q_hC (by assumption) | exact q_h1 (by assumption) | exact q_h3 (by assumption) | exact q_h5 (by assumption) | exact q_hG (by assumption) | exact q_hP | exact q_hB1 | exact q_hB2 | exact q_hT6 | exact q_hT15 | exact q_hT24)) ?_
  intro t3 w3 g3 p3
  obtain ⟨rfl, ⟨z3, rfl⟩, rfl⟩ := p3
  refine Or.inr (Or.inl ⟨rfl, ?_⟩)
  refine r_i2l c131_23 (by first | exact q_w32_id (by omega) (by omega) | exact q_w32w _ | exact rfl) rfl ?_
  refine r_lmul c131_24 rfl rfl ?_
  refine r_ladd c131_25 rfl rfl ?_
  refine r_putl c131_26 (by first | assumption | omega) (by decide) (by first | assumption | rfl) rfl rfl rfl ?_
  refine r_aload_n c131_29 rfl rfl ?_
  refine r_vcG c131_30 (by first | assumption | omega) (by decide) (by first | assumption | rfl) rfl rfl rfl (k54 hG (q_Fr.bz (S := fun k => o0 ≤ k ∧ k ≤ o0 + 8) hZ (by repeat (first | exact q_Fr.rf | refine q_Fr.ud ?_ (by omega) (by first | assumption | rfl) rfl | refine q_Fr.udz ?_ (by omega) (by first | assumption | decide | omega) | refine q_Fr.tr ?_ (by assumption) (by intro k9 hk9; omega)))) (by first | assumption | exact q_hC (by assumption) | exact q_h1 (by assumption) | exact q_h3 (by assumption) | exact q_h5 (by assumption) | exact q_hG (by assumption) | exact q_hP | exact q_hB1 | exact q_hB2 | exact q_hT6 | exact q_hT15 | exact q_hT24)) ?_
  intro t4 w4 g4 p4
  obtain ⟨rfl, ⟨z4, rfl, hz4⟩, rfl⟩ := p4
  refine Or.inr (Or.inl ⟨rfl, ?_⟩)
  refine r_if_ne c131_33 rfl (by first | exact q_w32_id (by omega) (by omega) | exact q_w32w _ | exact rfl) ?_ ?_
  · intro b5
    refine r_aload_n c131_43 rfl rfl ?_
    refine r_iconst c131_44 rfl ?_
    refine r_vcG c131_45 (by first | assumption | omega) (by decide) (by first | assumption | rfl) rfl rfl rfl (k55 hG (q_Fr.bz (S := fun k => o0 ≤ k ∧ k ≤ o0 + 8) hZ (by repeat (first | exact q_Fr.rf | refine q_Fr.ud ?_ (by omega) (by first | assumption | rfl) rfl | refine q_Fr.udz ?_ (by omega) (by first | assumption | decide | omega) | refine q_Fr.tr ?_ (by assumption) (by intro k9 hk9; omega)))) (by first | assumption | exact q_hC (by assumption) | exact q_h1 (by assumption) | exact q_h3 (by assumption) | exact q_h5 (by assumption) | exact q_hG (by assumption) | exact q_hP | exact q_hB1 | exact q_hB2 | exact q_hT6 | exact q_hT15 | exact q_hT24) (by first | assumption | decide | omega)) ?_
    intro t6 w6 g6 p6
    obtain ⟨rfl, ⟨z6, rfl⟩, e6⟩ := p6
    refine Or.inr (Or.inl ⟨rfl, ?_⟩)
    refine r_istore c131_48 (lo' := [(4, _), (3, _), (2, _), (0, _), (1, _)]) rfl rfl rfl ?_
    refine r_aload_n c131_50 rfl rfl ?_
    refine r_dup c131_51 rfl rfl ?_
    refine r_getl c131_52 (by first | assumption | omega) (by decide) (by first | assumption | rfl) rfl rfl ?_
    refine r_ldc2 c131_55 rfl rfl ?_
    refine r_iload c131_58 rfl rfl ?_
    refine r_i2l c131_60 (by first | exact q_w32_id (by omega) (by omega) | exact q_w32w _ | exact rfl) rfl ?_
    refine r_lmul c131_61 rfl rfl ?_
    refine r_aload_n c131_62 rfl rfl ?_
    refine r_vcG c131_63 (by first | assumption | omega) (by decide) (by first | assumption | rfl) rfl rfl rfl (k140 hG (q_Fr.bz (S := fun k => o0 ≤ k ∧ k ≤ o0 + 8) hZ (by repeat (first | exact q_Fr.rf | refine q_Fr.ud ?_ (by omega) (by first | assumption | rfl) rfl | refine q_Fr.udz ?_ (by omega) (by first | assumption | decide | omega) | refine q_Fr.tr ?_ (by assumption) (by intro k9 hk9; omega)))) (by first | assumption | exact q_hC (by assumption) | exact q_h1 (by assumption) | exact q_h3 (by assumption) | exact q_h5 (by assumption) | exact q_hG (by assumption) | exact q_hP | exact q_hB1 | exact q_hB2 | exact q_hT6 | exact q_hT15 | exact q_hT24)) ?_
    intro t7 w7 g7 p7
    obtain ⟨rfl, ⟨z7, rfl⟩, rfl⟩ := p7
    refine Or.inr (Or.inl ⟨rfl, ?_⟩)
    refine r_i2l c131_66 (by first | exact q_w32_id (by omega) (by omega) | exact q_w32w _ | exact rfl) rfl ?_
    refine r_lmul c131_67 rfl rfl ?_
    refine r_ladd c131_68 rfl rfl ?_
    refine r_putl c131_69 (by first | assumption | omega) (by decide) (by first | assumption | rfl) rfl rfl rfl ?_
    refine r_aload_n c131_72 rfl rfl ?_
    refine r_vcG c131_73 (by first | assumption | omega) (by decide) (by first | assumption | rfl) rfl rfl rfl (k54 hG (q_Fr.bz (S := fun k => o0 ≤ k ∧ k ≤ o0 + 8) hZ (by repeat (first | exact q_Fr.rf | refine q_Fr.ud ?_ (by omega) (by first | assumption | rfl) rfl | refine q_Fr.udz ?_ (by omega) (by first | assumption | decide | omega) | refine q_Fr.tr ?_ (by assumption) (by intro k9 hk9; omega)))) (by first | assumption | exact q_hC (by assumption) | exact q_h1 (by assumption) | exact q_h3 (by assumption) | exact q_h5 (by assumption) | exact q_hG (by assumption) | exact q_hP | exact q_hB1 | exact q_hB2 | exact q_hT6 | exact q_hT15 | exact q_hT24)) ?_
    intro t8 w8 g8 p8
    obtain ⟨rfl, ⟨z8, rfl, hz8⟩, rfl⟩ := p8
    refine Or.inr (Or.inl ⟨rfl, ?_⟩)
    refine r_if_eq c131_76 rfl (by first | exact q_w32_id (by omega) (by omega) | exact q_w32w _ | exact rfl) ?_ ?_
    · intro b9
      refine r_aload_n c131_86 rfl rfl ?_
      refine r_vcG c131_87 (by first | assumption | omega) (by decide) (by first | assumption | rfl) rfl rfl rfl (k59 hG (q_Fr.bz (S := fun k => o0 ≤ k ∧ k ≤ o0 + 8) hZ (by repeat (first | exact q_Fr.rf | refine q_Fr.ud ?_ (by omega) (by first | assumption | rfl) rfl | refine q_Fr.udz ?_ (by omega) (by first | assumption | decide | omega) | refine q_Fr.tr ?_ (by assumption) (by intro k9 hk9; omega)))) (by first | assumption | exact q_hC (by assumption) | exact q_h1 (by assumption) | exact q_h3 (by assumption) | exact q_h5 (by assumption) | exact q_hG (by assumption) | exact q_hP | exact q_hB1 | exact q_hB2 | exact q_hT6 | exact q_hT15 | exact q_hT24)) ?_
      intro t10 w10 g10 p10
      obtain ⟨rfl, e10⟩ := p10
      refine Or.inl ⟨rfl, ?_⟩
      refine r_aload_n c131_90 rfl rfl ?_
      refine r_getr c131_91 (by first | assumption | omega) (by decide) (by first | assumption | rfl) rfl rfl ?_
      refine r_dup c131_94 rfl rfl ?_
      refine r_geti c131_95 (by first | assumption | omega) (by decide) (by first | assumption | rfl) rfl rfl ?_
      refine r_iconst c131_98 rfl ?_
      refine r_iadd c131_99 (by first | exact q_w32_id (by omega) (by omega) | exact q_w32w _ | exact rfl) rfl ?_
      refine r_puti c131_100 (by first | assumption | omega) (by decide) (by first | assumption | rfl) rfl rfl rfl ?_
      refine r_iload_n c131_103 rfl rfl ?_
      refine r_iload c131_104 rfl rfl ?_
      refine r_iadd c131_106 (by first | exact q_w32_id (by omega) (by omega) | exact q_w32w _ | exact rfl) rfl ?_
      exact r_iret c131_107 ⟨rfl, rfl, rfl⟩ ⟨rfl, ⟨_, rfl⟩, (by repeat (first | exact q_Fr.rf | refine q_Fr.ud ?_ (by omega) (by first | assumption | rfl) rfl | refine q_Fr.udz ?_ (by omega) (by first | assumption | decide | omega) | refine q_Fr.tr ?_ (by assumption) (by intro k9 hk9; omega)))⟩
    · intro b9
      refine r_aload_n c131_79 rfl rfl ?_
      refine r_aload_n c131_80 rfl rfl ?_
      refine r_iconst c131_81 rfl ?_
      refine r_vcG c131_82 (by first | assumption | omega) (by decide) (by first | assumption | rfl) rfl rfl rfl (k130 hG (q_Fr.bz (S := fun k => o0 ≤ k ∧ k ≤ o0 + 8) hZ (by repeat (first | exact q_Fr.rf | refine q_Fr.ud ?_ (by omega) (by first | assumption | rfl) rfl | refine q_Fr.udz ?_ (by omega) (by first | assumption | decide | omega) | refine q_Fr.tr ?_ (by assumption) (by intro k9 hk9; omega)))) (by first | assumption | exact q_hC (by assumption) | exact q_h1 (by assumption) | exact q_h3 (by assumption) | exact q_h5 (by assumption) | exact q_hG (by assumption) | exact q_hP | exact q_hB1 | exact q_hB2 | exact q_hT6 | exact q_hT15 | exact q_hT24) (by first | assumption | exact q_hC (by assumption) | exact q_h1 (by assumption) | exact q_h3 (by assumption) | exact q_h5 (by assumption) | exact q_hG (by assumption) | exact q_hP | exact q_hB1 | exact q_hB2 | exact q_hT6 | exact q_hT15 | exact q_hT24)) ?_
      intro t11 w11 g11 p11
      obtain ⟨rfl, ⟨z11, rfl⟩, e11⟩ := p11
      refine Or.inr (Or.inl ⟨rfl, ?_⟩)
      exact r_iret c131_85 ⟨rfl, rfl, rfl⟩ ⟨rfl, ⟨_, rfl⟩, (by repeat (first | exact q_Fr.rf | refine q_Fr.ud ?_ (by omega) (by first | assumption | rfl) rfl | refine q_Fr.udz ?_ (by omega) (by first | assumption | decide | omega) | refine q_Fr.tr ?_ (by assumption) (by intro k9 hk9; omega)))⟩
  · intro b5
    refine r_aload_n c131_36 rfl rfl ?_
    refine r_aload_n c131_37 rfl rfl ?_
    refine r_iconst c131_38 rfl ?_
    refine r_vcG c131_39 (by first | assumption | omega) (by decide) (by first | assumption | rfl) rfl rfl rfl (k130 hG (q_Fr.bz (S := fun k => o0 ≤ k ∧ k ≤ o0 + 8) hZ (by repeat (first | exact q_Fr.rf | refine q_Fr.ud ?_ (by omega) (by first | assumption | rfl) rfl | refine q_Fr.udz ?_ (by omega) (by first | assumption | decide | omega) | refine q_Fr.tr ?_ (by assumption) (by intro k9 hk9; omega)))) (by first | assumption | exact q_hC (by assumption) | exact q_h1 (by assumption) | exact q_h3 (by assumption) | exact q_h5 (by assumption) | exact q_hG (by assumption) | exact q_hP | exact q_hB1 | exact q_hB2 | exact q_hT6 | exact q_hT15 | exact q_hT24) (by first | assumption | exact q_hC (by assumption) | exact q_h1 (by assumption) | exact q_h3 (by assumption) | exact q_h5 (by assumption) | exact q_hG (by assumption) | exact q_hP | exact q_hB1 | exact q_hB2 | exact q_hT6 | exact q_hT15 | exact q_hT24)) ?_
    intro t12 w12 g12 p12
    obtain ⟨rfl, ⟨z12, rfl⟩, e12⟩ := p12
    refine Or.inr (Or.inl ⟨rfl, ?_⟩)
    exact r_iret c131_42 ⟨rfl, rfl, rfl⟩ ⟨rfl, ⟨_, rfl⟩, (by repeat (first | exact q_Fr.rf | refine q_Fr.ud ?_ (by omega) (by first | assumption | rfl) rfl | refine q_Fr.udz ?_ (by omega) (by first | assumption | decide | omega) | refine q_Fr.tr ?_ (by assumption) (by intro k9 hk9; omega)))⟩
theorem c134_0 : q_cat 134 0 (.aload_n 0) 1 0 0 (0) := ⟨rfl, rfl⟩
theorem c134_1 : q_cat 134 1 (.iload_n 1) 1 1 0 (0) := ⟨rfl, rfl⟩
theorem c134_2 : q_cat 134 2 (.invokevirtual 95) 3 125 0 (0) := ⟨rfl, rfl⟩
theorem c134_5 : q_cat 134 5 (.astore_n 3) 1 3 0 (0) := ⟨rfl, rfl⟩
theorem c134_6 : q_cat 134 6 (.iload_n 2) 1 2 0 (0) := ⟨rfl, rfl⟩
theorem c134_7 : q_cat 134 7 (.invokestatic 145) 3 0 8 (0) := ⟨rfl, rfl⟩
theorem c134_10 : q_cat 134 10 (.istore 4) 2 4 0 (0) := ⟨rfl, rfl⟩
theorem c134_12 : q_cat 134 12 (.iconst 0) 1 0 0 (0) := ⟨rfl, rfl⟩
theorem c134_13 : q_cat 134 13 (.istore 5) 2 5 0 (0) := ⟨rfl, rfl⟩
theorem c134_15 : q_cat 134 15 (.iload 5) 2 5 0 (0) := ⟨rfl, rfl⟩
theorem c134_17 : q_cat 134 17 (.iload 4) 2 4 0 (0) := ⟨rfl, rfl⟩
theorem c134_19 : q_cat 134 19 (.if_icmp .ge 23) 3 42 0 (0) := ⟨rfl, rfl⟩
theorem c134_22 : q_cat 134 22 (.aload_n 3) 1 3 0 (0) := ⟨rfl, rfl⟩
theorem c134_23 : q_cat 134 23 (.iload_n 2) 1 2 0 (0) := ⟨rfl, rfl⟩
theorem c134_24 : q_cat 134 24 (.ifCond .le 7) 3 31 0 (0) := ⟨rfl, rfl⟩
theorem c134_27 : q_cat 134 27 (.iconst 1) 1 0 0 (0) := ⟨rfl, rfl⟩
theorem c134_28 : q_cat 134 28 (.goto 4) 3 32 0 (0) := ⟨rfl, rfl⟩
theorem c134_31 : q_cat 134 31 (.iconst (-1)) 1 0 0 (0) := ⟨rfl, rfl⟩
theorem c134_32 : q_cat 134 32 (.invokevirtual 151) 3 49 0 (0) := ⟨rfl, rfl⟩
theorem c134_35 : q_cat 134 35 (.pop) 1 0 0 (0) := ⟨rfl, rfl⟩
theorem c134_36 : q_cat 134 36 (.iinc 5 1) 3 5 0 (0) := ⟨rfl, rfl⟩
theorem c134_39 : q_cat 134 39 (.goto (-24)) 3 15 0 (0) := ⟨rfl, rfl⟩
theorem c134_42 : q_cat 134 42 (.aload_n 0) 1 0 0 (0) := ⟨rfl, rfl⟩
theorem c134_43 : q_cat 134 43 (.dup) 1 0 0 (0) := ⟨rfl, rfl⟩
theorem c134_44 : q_cat 134 44 (.getfield 59) 3 6 8 (2) := ⟨rfl, rfl⟩
theorem c134_47 : q_cat 134 47 (.iload 4) 2 4 0 (0) := ⟨rfl, rfl⟩
theorem c134_49 : q_cat 134 49 (.i2l) 1 0 0 (0) := ⟨rfl, rfl⟩
theorem c134_50 : q_cat 134 50 (.aload_n 0) 1 0 0 (0) := ⟨rfl, rfl⟩
theorem c134_51 : q_cat 134 51 (.invokevirtual 122) 3 140 0 (0) := ⟨rfl, rfl⟩
theorem c134_54 : q_cat 134 54 (.i2l) 1 0 0 (0) := ⟨rfl, rfl⟩
theorem c134_55 : q_cat 134 55 (.lmul) 1 0 0 (0) := ⟨rfl, rfl⟩
theorem c134_56 : q_cat 134 56 (.ladd) 1 0 0 (0) := ⟨rfl, rfl⟩
theorem c134_57 : q_cat 134 57 (.putfield 59) 3 6 8 (2) := ⟨rfl, rfl⟩
theorem c134_60 : q_cat 134 60 (.aload_n 3) 1 3 0 (0) := ⟨rfl, rfl⟩
theorem c134_61 : q_cat 134 61 (.iconst 0) 1 0 0 (0) := ⟨rfl, rfl⟩
theorem c134_62 : q_cat 134 62 (.putfield 76) 3 1 11 (1) := ⟨rfl, rfl⟩
theorem c134_65 : q_cat 134 65 (.return_) 1 0 0 (0) := ⟨rfl, rfl⟩
theorem l134_15 {Γ : q_Γ} (hG : q_GG Γ) {h0 : q_F} (hZ : q_Bz h0) {o0 : Nat} {v1 : Int} {v2 : Int} {u4 : Int} {u1 : Int} {u2 : Int} (ho0 : q_isT o0) {r1 : Nat} (ha1 : q_isA r1) (hr1 : r1 = o0 + 1 ∨ r1 = o0 + 3 ∨ r1 = o0 + 5)
    (hx42 : ∀ {u5 : Int} {h : q_F}, q_Fr (fun k => o0 ≤ k ∧ k ≤ o0 + 8) h0 h → q_R Γ q_K 155 134 (fun t w h' => (t = 0 ∧ q_Fr (fun k => o0 ≤ k ∧ k ≤ o0 + 8) h0 h')) (42, [(5, (0, u5)), (4, (0, u4)), (3, (2, Int.ofNat r1)), (0, (2, Int.ofNat o0)), (1, (0, u1)), (2, (0, u2))], [], q_hp q_K 155 h, [], 0, 0))
    : ∀ (m : Nat) {u5 : Int} {h : q_F}, (-2147483648 ≤ u5 ∧ u5 < 2147483648) → q_Fr (fun k => o0 ≤ k ∧ k ≤ o0 + 8) h0 h → 2147483648 - u5 < (m : Int) → q_R Γ q_K 155 134 (fun t w h' => (t = 0 ∧ q_Fr (fun k => o0 ≤ k ∧ k ≤ o0 + 8) h0 h')) (15, [(5, (0, u5)), (4, (0, u4)), (3, (2, Int.ofNat r1)), (0, (2, Int.ofNat o0)), (1, (0, u1)), (2, (0, u2))], [], q_hp q_K 155 h, [], 0, 0)   := by
  obtain ⟨fo00, fo01, fo02, fo03, fo04, fo05, fo06, fo07, fo08, fo09, fo010⟩ := q_fT ho0
  obtain ⟨fr10, fr11, fr12, fr13⟩ := q_fA ha1
  intro m
  induction m with
  | zero =>
    intro u5 h hinv hf hmu
    exact absurd hmu (by omega)
  | succ m ih =>
    intro u5 h hinv hf hmu
    refine r_iload c134_15 rfl rfl ?_
    refine r_iload c134_17 rfl rfl ?_
    refine r_ic_ge c134_19 rfl (by first | exact q_w32_id (by omega) (by omega) | exact q_w32w _ | exact rfl) (by first | exact q_w32_id (by omega) (by omega) | exact q_w32w _ | exact rfl) ?_ ?_
    · intro b2
      refine q_R.wk (ks := [5, 4, 3, 0, 1, 2]) (lo' := [(5, _), (4, _), (3, _), (0, _), (1, _), (2, _)]) rfl ?_
      exact hx42 (by repeat (first | exact q_Fr.rf | refine q_Fr.ud ?_ (by omega) (by first | assumption | rfl) rfl | refine q_Fr.udz ?_ (by omega) (by first | assumption | decide | omega) | refine q_Fr.tr ?_ (by assumption) (by intro k9 hk9; omega)))
    · intro b2
      refine r_aload_n c134_22 rfl rfl ?_
      refine r_iload_n c134_23 rfl rfl ?_
      refine r_if_le c134_24 rfl (by first | exact q_w32_id (by omega) (by omega) | exact q_w32w _ | exact rfl) ?_ ?_
      · intro b3
        refine r_iconst c134_31 rfl ?_
        refine r_vcG c134_32 (by first | assumption | omega) (by decide) (by first | assumption | rfl) rfl rfl rfl (k49 hG (q_Fr.bz (S := fun k => o0 ≤ k ∧ k ≤ o0 + 8) hZ (by repeat (first | exact q_Fr.rf | refine q_Fr.ud ?_ (by omega) (by first | assumption | rfl) rfl | refine q_Fr.udz ?_ (by omega) (by first | assumption | decide | omega) | refine q_Fr.tr ?_ (by assumption) (by intro k9 hk9; omega)))) (by first | assumption | exact q_hC (by assumption) | exact q_h1 (by assumption) | exact q_h3 (by assumption) | exact q_h5 (by assumption) | exact q_hG (by assumption) | exact q_hP | exact q_hB1 | exact q_hB2 | exact q_hT6 | exact q_hT15 | exact q_hT24)) ?_
        intro t4 w4 g4 p4
        obtain ⟨rfl, ⟨z4, rfl, hz4⟩, e4⟩ := p4
        refine Or.inr (Or.inl ⟨rfl, ?_⟩)
        refine r_pop c134_35 rfl rfl ?_
        refine r_iinc c134_36 rfl (by first | exact q_w32_id (by omega) (by omega) | exact q_w32w _ | exact rfl) (lo' := [(5, _), (4, _), (3, _), (0, _), (1, _), (2, _)]) rfl rfl rfl ?_
        refine r_goto c134_39 ?_
        refine q_R.wk (ks := [5, 4, 3, 0, 1, 2]) (lo' := [(5, _), (4, _), (3, _), (0, _), (1, _), (2, _)]) rfl ?_
        exact ih (by first | omega | exact ⟨q_rg1 _, q_rg2 _⟩) (by repeat (first | exact q_Fr.rf | refine q_Fr.ud ?_ (by omega) (by first | assumption | rfl) rfl | refine q_Fr.udz ?_ (by omega) (by first | assumption | decide | omega) | refine q_Fr.tr ?_ (by assumption) (by intro k9 hk9; omega))) (by omega)
      · intro b3
        refine r_iconst c134_27 rfl ?_
        refine r_goto c134_28 ?_
        refine r_vcG c134_32 (by first | assumption | omega) (by decide) (by first | assumption | rfl) rfl rfl rfl (k49 hG (q_Fr.bz (S := fun k => o0 ≤ k ∧ k ≤ o0 + 8) hZ (by repeat (first | exact q_Fr.rf | refine q_Fr.ud ?_ (by omega) (by first | assumption | rfl) rfl | refine q_Fr.udz ?_ (by omega) (by first | assumption | decide | omega) | refine q_Fr.tr ?_ (by assumption) (by intro k9 hk9; omega)))) (by first | assumption | exact q_hC (by assumption) | exact q_h1 (by assumption) | exact q_h3 (by assumption) | exact q_h5 (by assumption) | exact q_hG (by assumption) | exact q_hP | exact q_hB1 | exact q_hB2 | exact q_hT6 | exact q_hT15 | exact q_hT24)) ?_
        intro t5 w5 g5 p5
        obtain ⟨rfl, ⟨z5, rfl, hz5⟩, e5⟩ := p5
        refine Or.inr (Or.inl ⟨rfl, ?_⟩)
        refine r_pop c134_35 rfl rfl ?_
        refine r_iinc c134_36 rfl (by first | exact q_w32_id (by omega) (by omega) | exact q_w32w _ | exact rfl) (lo' := [(5, _), (4, _), (3, _), (0, _), (1, _), (2, _)]) rfl rfl rfl ?_
        refine r_goto c134_39 ?_
        refine q_R.wk (ks := [5, 4, 3, 0, 1, 2]) (lo' := [(5, _), (4, _), (3, _), (0, _), (1, _), (2, _)]) rfl ?_
        exact ih (by first | omega | exact ⟨q_rg1 _, q_rg2 _⟩) (by repeat (first | exact q_Fr.rf | refine q_Fr.ud ?_ (by omega) (by first | assumption | rfl) rfl | refine q_Fr.udz ?_ (by omega) (by first | assumption | decide | omega) | refine q_Fr.tr ?_ (by assumption) (by intro k9 hk9; omega))) (by omega)

theorem k134 {Γ : q_Γ} (hG : q_GG Γ) {h : q_F} (hZ : q_Bz h) {o0 : Nat} {v1 : Int} {v2 : Int} (ho0 : q_isT o0) :
    q_M Γ q_K 155 134 [(2, Int.ofNat o0), (0, v1), (0, v2)] h (fun t w h' => (t = 0 ∧ q_Fr (fun k => o0 ≤ k ∧ k ≤ o0 + 8) h h')) := by
  obtain ⟨fo00, fo01, fo02, fo03, fo04, fo05, fo06, fo07, fo08, fo09, fo010⟩ := q_fT ho0
  refine q_M.of (by decide) (Nat.le_of_ble_eq_true rfl) hG ?_
  refine r_aload_n c134_0 rfl rfl ?_
  refine r_iload_n c134_1 rfl rfl ?_
  refine r_vcG c134_2 (by first | assumption | omega) (by decide) (by first | assumption | rfl) rfl rfl rfl (k125 hG (q_Fr.bz (S := fun k => o0 ≤ k ∧ k ≤ o0 + 8) hZ (by repeat (first | exact q_Fr.rf | refine q_Fr.ud ?_ (by omega) (by first | assumption | rfl) rfl | refine q_Fr.udz ?_ (by omega) (by first | assumption | decide | omega) | refine q_Fr.tr ?_ (by assumption) (by intro k9 hk9; omega)))) (by first | assumption | exact q_hC (by assumption) | exact q_h1 (by assumption) | exact q_h3 (by assumption) | exact q_h5 (by assumption) | exact q_hG (by assumption) | exact q_hP | exact q_hB1 | exact q_hB2 | exact q_hT6 | exact q_hT15 | exact q_hT24)) ?_
  intro t1 w1 g1 p1
  obtain ⟨rfl, ⟨r1, rfl, ha1, hr1⟩, rfl⟩ := p1
  obtain ⟨fr10, fr11, fr12, fr13⟩ := q_fA ha1
  refine Or.inr (Or.inl ⟨rfl, ?_⟩)
  refine r_astore_n c134_5 (lo' := [(3, _), (0, _), (1, _), (2, _)]) rfl rfl rfl ?_
  refine r_iload_n c134_6 rfl rfl ?_
  refine r_abs c134_7 rfl rfl ?_
  refine r_istore c134_10 (lo' := [(4, _), (3, _), (0, _), (1, _), (2, _)]) rfl rfl rfl ?_
  refine r_iconst c134_12 rfl ?_
  refine r_istore c134_13 (lo' := [(5, _), (4, _), (3, _), (0, _), (1, _), (2, _)]) rfl rfl rfl ?_
  refine q_R.wk (ks := [5, 4, 3, 0, 1, 2]) (lo' := [(5, _), (4, _), (3, _), (0, _), (1, _), (2, _)]) rfl ?_
  refine l134_15 (o0 := o0) (v1 := v1) (v2 := v2) (r1 := r1) hG hZ ho0 ha1 hr1 ?_ 4294967298 (by first | omega | exact ⟨q_rg1 _, q_rg2 _⟩) (by repeat (first | exact q_Fr.rf | refine q_Fr.ud ?_ (by omega) (by first | assumption | rfl) rfl | refine q_Fr.udz ?_ (by omega) (by first | assumption | decide | omega) | refine q_Fr.tr ?_ (by assumption) (by intro k9 hk9; omega))) (q_mu (by first | omega | exact ⟨q_rg1 _, q_rg2 _⟩))
  · intro u5_2 g2 f2
    refine r_aload_n c134_42 rfl rfl ?_
    refine r_dup c134_43 rfl rfl ?_
    refine r_getl c134_44 (by first | assumption | omega) (by decide) (by first | assumption | rfl) rfl rfl ?_
    refine r_iload c134_47 rfl rfl ?_
    refine r_i2l c134_49 (by first | exact q_w32_id (by omega) (by omega) | exact q_w32w _ | exact rfl) rfl ?_
    refine r_aload_n c134_50 rfl rfl ?_
    refine r_vcG c134_51 (by first | assumption | omega) (by decide) (by first | assumption | rfl) rfl rfl rfl (k140 hG (q_Fr.bz (S := fun k => o0 ≤ k ∧ k ≤ o0 + 8) hZ (by repeat (first | exact q_Fr.rf | refine q_Fr.ud ?_ (by omega) (by first | assumption | rfl) rfl | refine q_Fr.udz ?_ (by omega) (by first | assumption | decide | omega) | refine q_Fr.tr ?_ (by assumption) (by intro k9 hk9; omega)))) (by first | assumption | exact q_hC (by assumption) | exact q_h1 (by assumption) | exact q_h3 (by assumption) | exact q_h5 (by assumption) | exact q_hG (by assumption) | exact q_hP | exact q_hB1 | exact q_hB2 | exact q_hT6 | exact q_hT15 | exact q_hT24)) ?_
    intro t3 w3 g3 p3
    obtain ⟨rfl, ⟨z3, rfl⟩, rfl⟩ := p3
    refine Or.inr (Or.inl ⟨rfl, ?_⟩)
    refine r_i2l c134_54 (by first | exact q_w32_id (by omega) (by omega) | exact q_w32w _ | exact rfl) rfl ?_
    refine r_lmul c134_55 rfl rfl ?_
    refine r_ladd c134_56 rfl rfl ?_
    refine r_putl c134_57 (by first | assumption | omega) (by decide) (by first | assumption | rfl) rfl rfl rfl ?_
    refine r_aload_n c134_60 rfl rfl ?_
    refine r_iconst c134_61 rfl ?_
    refine r_puti c134_62 (by first | assumption | omega) (by decide) (by first | assumption | rfl) rfl rfl rfl ?_
    exact r_vret c134_65 ⟨rfl, rfl, rfl⟩ ⟨rfl, (by repeat (first | exact q_Fr.rf | refine q_Fr.ud ?_ (by omega) (by first | assumption | rfl) rfl | refine q_Fr.udz ?_ (by omega) (by first | assumption | decide | omega) | refine q_Fr.tr ?_ (by assumption) (by intro k9 hk9; omega)))⟩
theorem c72_0 : q_cat 72 0 (.iload_n 0) 1 0 0 (0) := ⟨rfl, rfl⟩
theorem c72_1 : q_cat 72 1 (.ifCond .ne 5) 3 6 0 (0) := ⟨rfl, rfl⟩
theorem c72_4 : q_cat 72 4 (.iload_n 1) 1 1 0 (0) := ⟨rfl, rfl⟩
theorem c72_5 : q_cat 72 5 (.ireturn) 1 0 0 (0) := ⟨rfl, rfl⟩
theorem c72_6 : q_cat 72 6 (.iload_n 0) 1 0 0 (0) := ⟨rfl, rfl⟩
theorem c72_7 : q_cat 72 7 (.ifCond .le 7) 3 14 0 (0) := ⟨rfl, rfl⟩
theorem c72_10 : q_cat 72 10 (.iconst 1) 1 0 0 (0) := ⟨rfl, rfl⟩
theorem c72_11 : q_cat 72 11 (.goto 4) 3 15 0 (0) := ⟨rfl, rfl⟩
theorem c72_14 : q_cat 72 14 (.iconst (-1)) 1 0 0 (0) := ⟨rfl, rfl⟩
theorem c72_15 : q_cat 72 15 (.ireturn) 1 0 0 (0) := ⟨rfl, rfl⟩
theorem k72 {Γ : q_Γ} (hG : q_GG Γ) {h : q_F} (hZ : q_Bz h) {v0 : Int} {v1 : Int}  :
    q_M Γ q_K 155 72 [(0, v0), (0, v1)] h (fun t w h' => (t = 1 ∧ (∃ z, w = ((0, z) : q_V)) ∧ h' = h)) := by
  refine q_M.of (by decide) (Nat.le_of_ble_eq_true rfl) hG ?_
  refine r_iload_n c72_0 rfl rfl ?_
  refine r_if_ne c72_1 rfl (by first | exact q_w32_id (by omega) (by omega) | exact q_w32w _ | exact rfl) ?_ ?_
  · intro b1
    refine r_iload_n c72_6 rfl rfl ?_
    refine r_if_le c72_7 rfl (by first | exact q_w32_id (by omega) (by omega) | exact q_w32w _ | exact rfl) ?_ ?_
    · intro b2
      refine r_iconst c72_14 rfl ?_
      exact r_iret c72_15 ⟨rfl, rfl, rfl⟩ ⟨rfl, ⟨_, rfl⟩, rfl⟩
    · intro b2
      refine r_iconst c72_10 rfl ?_
      refine r_goto c72_11 ?_
      exact r_iret c72_15 ⟨rfl, rfl, rfl⟩ ⟨rfl, ⟨_, rfl⟩, rfl⟩
  · intro b1
    refine r_iload_n c72_4 rfl rfl ?_
    exact r_iret c72_5 ⟨rfl, rfl, rfl⟩ ⟨rfl, ⟨_, rfl⟩, rfl⟩
theorem c73_0 : q_cat 73 0 (.aload_n 0) 1 0 0 (0) := ⟨rfl, rfl⟩
theorem c73_1 : q_cat 73 1 (.getfield 15) 3 4 1 (3) := ⟨rfl, rfl⟩
theorem c73_4 : q_cat 73 4 (.iload_n 1) 1 1 0 (0) := ⟨rfl, rfl⟩
theorem c73_5 : q_cat 73 5 (.iconst 3) 1 0 0 (0) := ⟨rfl, rfl⟩
theorem c73_6 : q_cat 73 6 (.imul) 1 0 0 (0) := ⟨rfl, rfl⟩
theorem c73_7 : q_cat 73 7 (.iload_n 2) 1 2 0 (0) := ⟨rfl, rfl⟩
theorem c73_8 : q_cat 73 8 (.iadd) 1 0 0 (0) := ⟨rfl, rfl⟩
theorem c73_9 : q_cat 73 9 (.invokestatic 63) 3 175 3 (0) := ⟨rfl, rfl⟩
theorem c73_12 : q_cat 73 12 (.ireturn) 1 0 0 (0) := ⟨rfl, rfl⟩
theorem k73 {Γ : q_Γ} (hG : q_GG Γ) {h : q_F} (hZ : q_Bz h) {v1 : Int} {v2 : Int}  :
    q_M Γ q_K 155 73 [(2, Int.ofNat 125), (0, v1), (0, v2)] h (fun t w h' => (t = 1 ∧ (∃ z, w = ((0, z) : q_V)) ∧ h' = h)) := by
  refine q_M.of (by decide) (Nat.le_of_ble_eq_true rfl) hG ?_
  refine r_aload_n c73_0 rfl rfl ?_
  refine r_getr c73_1 (by first | assumption | omega) (by decide) (by first | assumption | rfl) rfl rfl ?_
  refine r_iload_n c73_4 rfl rfl ?_
  refine r_iconst c73_5 rfl ?_
  refine r_imul c73_6 (by first | exact q_w32_id (by omega) (by omega) | exact q_w32w _ | exact rfl) rfl ?_
  refine r_iload_n c73_7 rfl rfl ?_
  refine r_iadd c73_8 (by first | exact q_w32_id (by omega) (by omega) | exact q_w32w _ | exact rfl) rfl ?_
  refine r_callG c73_9 (fun _ => rfl) rfl rfl rfl (k175 hG hZ (by first | assumption | omega) (by first | assumption | rfl) (by first | assumption | decide)) ?_
  intro t1 w1 g1 p1
  obtain ⟨rfl, ⟨z1, rfl⟩, rfl⟩ := p1
  refine Or.inr (Or.inl ⟨rfl, ?_⟩)
  exact r_iret c73_12 ⟨rfl, rfl, rfl⟩ ⟨rfl, ⟨_, rfl⟩, rfl⟩
theorem c79_0 : q_cat 79 0 (.aload_n 0) 1 0 0 (0) := ⟨rfl, rfl⟩
theorem c79_1 : q_cat 79 1 (.getfield 21) 3 4 3 (3) := ⟨rfl, rfl⟩
theorem c79_4 : q_cat 79 4 (.iload_n 1) 1 1 0 (0) := ⟨rfl, rfl⟩
theorem c79_5 : q_cat 79 5 (.invokestatic 63) 3 175 3 (0) := ⟨rfl, rfl⟩
theorem c79_8 : q_cat 79 8 (.ireturn) 1 0 0 (0) := ⟨rfl, rfl⟩
theorem k79 {Γ : q_Γ} (hG : q_GG Γ) {h : q_F} (hZ : q_Bz h) {v1 : Int}  :
    q_M Γ q_K 155 79 [(2, Int.ofNat 125), (0, v1)] h (fun t w h' => (t = 1 ∧ (∃ z, w = ((0, z) : q_V)) ∧ h' = h)) := by
  refine q_M.of (by decide) (Nat.le_of_ble_eq_true rfl) hG ?_
  refine r_aload_n c79_0 rfl rfl ?_
  refine r_getr c79_1 (by first | assumption | omega) (by decide) (by first | assumption | rfl) rfl rfl ?_
  refine r_iload_n c79_4 rfl rfl ?_
  refine r_callG c79_5 (fun _ => rfl) rfl rfl rfl (k175 hG hZ (by first | assumption | omega) (by first | assumption | rfl) (by first | assumption | decide)) ?_
  intro t1 w1 g1 p1
  obtain ⟨rfl, ⟨z1, rfl⟩, rfl⟩ := p1
  refine Or.inr (Or.inl ⟨rfl, ?_⟩)
  exact r_iret c79_8 ⟨rfl, rfl, rfl⟩ ⟨rfl, ⟨_, rfl⟩, rfl⟩
theorem c92_0 : q_cat 92 0 (.aload_n 0) 1 0 0 (0) := ⟨rfl, rfl⟩
theorem c92_1 : q_cat 92 1 (.getfield 36) 3 4 8 (3) := ⟨rfl, rfl⟩
theorem c92_4 : q_cat 92 4 (.iload_n 1) 1 1 0 (0) := ⟨rfl, rfl⟩
theorem c92_5 : q_cat 92 5 (.invokestatic 63) 3 175 3 (0) := ⟨rfl, rfl⟩
theorem c92_8 : q_cat 92 8 (.ireturn) 1 0 0 (0) := ⟨rfl, rfl⟩
theorem k92 {Γ : q_Γ} (hG : q_GG Γ) {h : q_F} (hZ : q_Bz h) {v1 : Int}  :
    q_M Γ q_K 155 92 [(2, Int.ofNat 125), (0, v1)] h (fun t w h' => (t = 1 ∧ (∃ z, w = ((0, z) : q_V)) ∧ h' = h)) := by
  refine q_M.of (by decide) (Nat.le_of_ble_eq_true rfl) hG ?_
  refine r_aload_n c92_0 rfl rfl ?_
  refine r_getr c92_1 (by first | assumption | omega) (by decide) (by first | assumption | rfl) rfl rfl ?_
  refine r_iload_n c92_4 rfl rfl ?_
  refine r_callG c92_5 (fun _ => rfl) rfl rfl rfl (k175 hG hZ (by first | assumption | omega) (by first | assumption | rfl) (by first | assumption | decide)) ?_
  intro t1 w1 g1 p1
  obtain ⟨rfl, ⟨z1, rfl⟩, rfl⟩ := p1
  refine Or.inr (Or.inl ⟨rfl, ?_⟩)
  exact r_iret c92_8 ⟨rfl, rfl, rfl⟩ ⟨rfl, ⟨_, rfl⟩, rfl⟩
theorem c94_0 : q_cat 94 0 (.aload_n 0) 1 0 0 (0) := ⟨rfl, rfl⟩
theorem c94_1 : q_cat 94 1 (.getfield 36) 3 4 8 (3) := ⟨rfl, rfl⟩
theorem c94_4 : q_cat 94 4 (.iload_n 1) 1 1 0 (0) := ⟨rfl, rfl⟩
theorem c94_5 : q_cat 94 5 (.iconst 1) 1 0 0 (0) := ⟨rfl, rfl⟩
theorem c94_6 : q_cat 94 6 (.iadd) 1 0 0 (0) := ⟨rfl, rfl⟩
theorem c94_7 : q_cat 94 7 (.invokestatic 63) 3 175 3 (0) := ⟨rfl, rfl⟩
theorem c94_10 : q_cat 94 10 (.ireturn) 1 0 0 (0) := ⟨rfl, rfl⟩
theorem k94 {Γ : q_Γ} (hG : q_GG Γ) {h : q_F} (hZ : q_Bz h) {v1 : Int}  :
    q_M Γ q_K 155 94 [(2, Int.ofNat 125), (0, v1)] h (fun t w h' => (t = 1 ∧ (∃ z, w = ((0, z) : q_V)) ∧ h' = h)) := by
  refine q_M.of (by decide) (Nat.le_of_ble_eq_true rfl) hG ?_
  refine r_aload_n c94_0 rfl rfl ?_
  refine r_getr c94_1 (by first | assumption | omega) (by decide) (by first | assumption | rfl) rfl rfl ?_
  refine r_iload_n c94_4 rfl rfl ?_
  refine r_iconst c94_5 rfl ?_
  refine r_iadd c94_6 (by first | exact q_w32_id (by omega) (by omega) | exact q_w32w _ | exact rfl) rfl ?_
  refine r_callG c94_7 (fun _ => rfl) rfl rfl rfl (k175 hG hZ (by first | assumption | omega) (by first | assumption | rfl) (by first | assumption | decide)) ?_
  intro t1 w1 g1 p1
  obtain ⟨rfl, ⟨z1, rfl⟩, rfl⟩ := p1
  refine Or.inr (Or.inl ⟨rfl, ?_⟩)
  exact r_iret c94_10 ⟨rfl, rfl, rfl⟩ ⟨rfl, ⟨_, rfl⟩, rfl⟩
theorem c101_0 : q_cat 101 0 (.aload_n 0) 1 0 0 (0) := ⟨rfl, rfl⟩
theorem c101_1 : q_cat 101 1 (.getfield 15) 3 4 1 (3) := ⟨rfl, rfl⟩
theorem c101_4 : q_cat 101 4 (.iload_n 1) 1 1 0 (0) := ⟨rfl, rfl⟩
theorem c101_5 : q_cat 101 5 (.iconst 3) 1 0 0 (0) := ⟨rfl, rfl⟩
theorem c101_6 : q_cat 101 6 (.imul) 1 0 0 (0) := ⟨rfl, rfl⟩
theorem c101_7 : q_cat 101 7 (.iload_n 2) 1 2 0 (0) := ⟨rfl, rfl⟩
theorem c101_8 : q_cat 101 8 (.iadd) 1 0 0 (0) := ⟨rfl, rfl⟩
theorem c101_9 : q_cat 101 9 (.invokestatic 63) 3 175 3 (0) := ⟨rfl, rfl⟩
theorem c101_12 : q_cat 101 12 (.ifCond .ge 7) 3 19 0 (0) := ⟨rfl, rfl⟩
theorem c101_15 : q_cat 101 15 (.iconst (-1)) 1 0 0 (0) := ⟨rfl, rfl⟩
theorem c101_16 : q_cat 101 16 (.goto 4) 3 20 0 (0) := ⟨rfl, rfl⟩
theorem c101_19 : q_cat 101 19 (.iconst 1) 1 0 0 (0) := ⟨rfl, rfl⟩
theorem c101_20 : q_cat 101 20 (.ireturn) 1 0 0 (0) := ⟨rfl, rfl⟩
theorem k101 {Γ : q_Γ} (hG : q_GG Γ) {h : q_F} (hZ : q_Bz h) {v1 : Int} {v2 : Int}  :
    q_M Γ q_K 155 101 [(2, Int.ofNat 125), (0, v1), (0, v2)] h (fun t w h' => (t = 1 ∧ (∃ z, w = ((0, z) : q_V)) ∧ h' = h)) := by
  refine q_M.of (by decide) (Nat.le_of_ble_eq_true rfl) hG ?_
  refine r_aload_n c101_0 rfl rfl ?_
  refine r_getr c101_1 (by first | assumption | omega) (by decide) (by first | assumption | rfl) rfl rfl ?_
  refine r_iload_n c101_4 rfl rfl ?_
  refine r_iconst c101_5 rfl ?_
  refine r_imul c101_6 (by first | exact q_w32_id (by omega) (by omega) | exact q_w32w _ | exact rfl) rfl ?_
  refine r_iload_n c101_7 rfl rfl ?_
  refine r_iadd c101_8 (by first | exact q_w32_id (by omega) (by omega) | exact q_w32w _ | exact rfl) rfl ?_
  refine r_callG c101_9 (fun _ => rfl) rfl rfl rfl (k175 hG hZ (by first | assumption | omega) (by first | assumption | rfl) (by first | assumption | decide)) ?_
  intro t1 w1 g1 p1
  obtain ⟨rfl, ⟨z1, rfl⟩, rfl⟩ := p1
  refine Or.inr (Or.inl ⟨rfl, ?_⟩)
  refine r_if_ge c101_12 rfl (by first | exact q_w32_id (by omega) (by omega) | exact q_w32w _ | exact rfl) ?_ ?_
  · intro b2
    refine r_iconst c101_19 rfl ?_
    exact r_iret c101_20 ⟨rfl, rfl, rfl⟩ ⟨rfl, ⟨_, rfl⟩, rfl⟩
  · intro b2
    refine r_iconst c101_15 rfl ?_
    refine r_goto c101_16 ?_
    exact r_iret c101_20 ⟨rfl, rfl, rfl⟩ ⟨rfl, ⟨_, rfl⟩, rfl⟩
theorem c100_0 : q_cat 100 0 (.aload_n 0) 1 0 0 (0) := ⟨rfl, rfl⟩
theorem c100_1 : q_cat 100 1 (.getfield 18) 3 4 2 (3) := ⟨rfl, rfl⟩
theorem c100_4 : q_cat 100 4 (.iload_n 1) 1 1 0 (0) := ⟨rfl, rfl⟩
theorem c100_5 : q_cat 100 5 (.iconst 3) 1 0 0 (0) := ⟨rfl, rfl⟩
theorem c100_6 : q_cat 100 6 (.imul) 1 0 0 (0) := ⟨rfl, rfl⟩
theorem c100_7 : q_cat 100 7 (.iload_n 2) 1 2 0 (0) := ⟨rfl, rfl⟩
theorem c100_8 : q_cat 100 8 (.iadd) 1 0 0 (0) := ⟨rfl, rfl⟩
theorem c100_9 : q_cat 100 9 (.invokestatic 63) 3 175 3 (0) := ⟨rfl, rfl⟩
theorem c100_12 : q_cat 100 12 (.iconst 1) 1 0 0 (0) := ⟨rfl, rfl⟩
theorem c100_13 : q_cat 100 13 (.if_icmp .ne 7) 3 20 0 (0) := ⟨rfl, rfl⟩
theorem c100_16 : q_cat 100 16 (.iconst 1) 1 0 0 (0) := ⟨rfl, rfl⟩
theorem c100_17 : q_cat 100 17 (.goto 4) 3 21 0 (0) := ⟨rfl, rfl⟩
theorem c100_20 : q_cat 100 20 (.iconst 0) 1 0 0 (0) := ⟨rfl, rfl⟩
theorem c100_21 : q_cat 100 21 (.ireturn) 1 0 0 (0) := ⟨rfl, rfl⟩
theorem k100 {Γ : q_Γ} (hG : q_GG Γ) {h : q_F} (hZ : q_Bz h) {v1 : Int} {v2 : Int}  :
    q_M Γ q_K 155 100 [(2, Int.ofNat 125), (0, v1), (0, v2)] h (fun t w h' => (t = 1 ∧ (∃ z, w = ((0, z) : q_V) ∧ (z = 0 ∨ z = 1)) ∧ h' = h)) := by
  refine q_M.of (by decide) (Nat.le_of_ble_eq_true rfl) hG ?_
  refine r_aload_n c100_0 rfl rfl ?_
  refine r_getr c100_1 (by first | assumption | omega) (by decide) (by first | assumption | rfl) rfl rfl ?_
  refine r_iload_n c100_4 rfl rfl ?_
  refine r_iconst c100_5 rfl ?_
  refine r_imul c100_6 (by first | exact q_w32_id (by omega) (by omega) | exact q_w32w _ | exact rfl) rfl ?_
  refine r_iload_n c100_7 rfl rfl ?_
  refine r_iadd c100_8 (by first | exact q_w32_id (by omega) (by omega) | exact q_w32w _ | exact rfl) rfl ?_
  refine r_callG c100_9 (fun _ => rfl) rfl rfl rfl (k175 hG hZ (by first | assumption | omega) (by first | assumption | rfl) (by first | assumption | decide)) ?_
  intro t1 w1 g1 p1
  obtain ⟨rfl, ⟨z1, rfl⟩, rfl⟩ := p1
  refine Or.inr (Or.inl ⟨rfl, ?_⟩)
  refine r_iconst c100_12 rfl ?_
  refine r_ic_ne c100_13 rfl (by first | exact q_w32_id (by omega) (by omega) | exact q_w32w _ | exact rfl) (show q_w32 (1) = 1 from rfl) ?_ ?_
  · intro b2
    refine r_iconst c100_20 rfl ?_
    exact r_zret c100_21 ⟨rfl, rfl, rfl⟩ (by decide) ⟨rfl, ⟨_, rfl, (by decide)⟩, rfl⟩
  · intro b2
    refine r_iconst c100_16 rfl ?_
    refine r_goto c100_17 ?_
    exact r_zret c100_21 ⟨rfl, rfl, rfl⟩ (by decide) ⟨rfl, ⟨_, rfl, (by decide)⟩, rfl⟩
theorem c90_0 : q_cat 90 0 (.aload_n 0) 1 0 0 (0) := ⟨rfl, rfl⟩
theorem c90_1 : q_cat 90 1 (.getfield 27) 3 4 5 (3) := ⟨rfl, rfl⟩
theorem c90_4 : q_cat 90 4 (.iload_n 1) 1 1 0 (0) := ⟨rfl, rfl⟩
theorem c90_5 : q_cat 90 5 (.invokestatic 63) 3 175 3 (0) := ⟨rfl, rfl⟩
theorem c90_8 : q_cat 90 8 (.aload_n 0) 1 0 0 (0) := ⟨rfl, rfl⟩
theorem c90_9 : q_cat 90 9 (.getfield 21) 3 4 3 (3) := ⟨rfl, rfl⟩
theorem c90_12 : q_cat 90 12 (.iload_n 1) 1 1 0 (0) := ⟨rfl, rfl⟩
theorem c90_13 : q_cat 90 13 (.invokestatic 63) 3 175 3 (0) := ⟨rfl, rfl⟩
theorem c90_16 : q_cat 90 16 (.imul) 1 0 0 (0) := ⟨rfl, rfl⟩
theorem c90_17 : q_cat 90 17 (.ireturn) 1 0 0 (0) := ⟨rfl, rfl⟩
theorem k90 {Γ : q_Γ} (hG : q_GG Γ) {h : q_F} (hZ : q_Bz h) {v1 : Int}  :
    q_M Γ q_K 155 90 [(2, Int.ofNat 125), (0, v1)] h (fun t w h' => (t = 1 ∧ (∃ z, w = ((0, z) : q_V)) ∧ h' = h)) := by
  refine q_M.of (by decide) (Nat.le_of_ble_eq_true rfl) hG ?_
  refine r_aload_n c90_0 rfl rfl ?_
  refine r_getr c90_1 (by first | assumption | omega) (by decide) (by first | assumption | rfl) rfl rfl ?_
  refine r_iload_n c90_4 rfl rfl ?_
  refine r_callG c90_5 (fun _ => rfl) rfl rfl rfl (k175 hG hZ (by first | assumption | omega) (by first | assumption | rfl) (by first | assumption | decide)) ?_
  intro t1 w1 g1 p1
  obtain ⟨rfl, ⟨z1, rfl⟩, rfl⟩ := p1
  refine Or.inr (Or.inl ⟨rfl, ?_⟩)
  refine r_aload_n c90_8 rfl rfl ?_
  refine r_getr c90_9 (by first | assumption | omega) (by decide) (by first | assumption | rfl) rfl rfl ?_
  refine r_iload_n c90_12 rfl rfl ?_
  refine r_callG c90_13 (fun _ => rfl) rfl rfl rfl (k175 hG hZ (by first | assumption | omega) (by first | assumption | rfl) (by first | assumption | decide)) ?_
  intro t2 w2 g2 p2
  obtain ⟨rfl, ⟨z2, rfl⟩, rfl⟩ := p2
  refine Or.inr (Or.inl ⟨rfl, ?_⟩)
  refine r_imul c90_16 (by first | exact q_w32_id (by omega) (by omega) | exact q_w32w _ | exact rfl) rfl ?_
  exact r_iret c90_17 ⟨rfl, rfl, rfl⟩ ⟨rfl, ⟨_, rfl⟩, rfl⟩
theorem c85_0 : q_cat 85 0 (.aload_n 1) 1 1 0 (0) := ⟨rfl, rfl⟩
theorem c85_1 : q_cat 85 1 (.getfield 84) 3 1 12 (0) := ⟨rfl, rfl⟩
theorem c85_4 : q_cat 85 4 (.istore 4) 2 4 0 (0) := ⟨rfl, rfl⟩
theorem c85_6 : q_cat 85 6 (.aload_n 1) 1 1 0 (0) := ⟨rfl, rfl⟩
theorem c85_7 : q_cat 85 7 (.getfield 89) 3 1 8 (0) := ⟨rfl, rfl⟩
theorem c85_10 : q_cat 85 10 (.istore 5) 2 5 0 (0) := ⟨rfl, rfl⟩
theorem c85_12 : q_cat 85 12 (.iconst 0) 1 0 0 (0) := ⟨rfl, rfl⟩
theorem c85_13 : q_cat 85 13 (.istore 6) 2 6 0 (0) := ⟨rfl, rfl⟩
theorem c85_15 : q_cat 85 15 (.iload 6) 2 6 0 (0) := ⟨rfl, rfl⟩
theorem c85_17 : q_cat 85 17 (.aload_n 0) 1 0 0 (0) := ⟨rfl, rfl⟩
theorem c85_18 : q_cat 85 18 (.getfield 45) 3 4 9 (0) := ⟨rfl, rfl⟩
theorem c85_21 : q_cat 85 21 (.if_icmp .ge 94) 3 115 0 (0) := ⟨rfl, rfl⟩
theorem c85_24 : q_cat 85 24 (.aload_n 2) 1 2 0 (0) := ⟨rfl, rfl⟩
theorem c85_25 : q_cat 85 25 (.iload 6) 2 6 0 (0) := ⟨rfl, rfl⟩
theorem c85_27 : q_cat 85 27 (.iload_n 3) 1 3 0 (0) := ⟨rfl, rfl⟩
theorem c85_28 : q_cat 85 28 (.invokevirtual 92) 3 148 0 (0) := ⟨rfl, rfl⟩
theorem c85_31 : q_cat 85 31 (.iload 4) 2 4 0 (0) := ⟨rfl, rfl⟩
theorem c85_33 : q_cat 85 33 (.isub) 1 0 0 (0) := ⟨rfl, rfl⟩
theorem c85_34 : q_cat 85 34 (.istore 7) 2 7 0 (0) := ⟨rfl, rfl⟩
theorem c85_36 : q_cat 85 36 (.iload 7) 2 7 0 (0) := ⟨rfl, rfl⟩
theorem c85_38 : q_cat 85 38 (.iload 5) 2 5 0 (0) := ⟨rfl, rfl⟩
theorem c85_40 : q_cat 85 40 (.invokestatic 95) 3 72 1 (0) := ⟨rfl, rfl⟩
theorem c85_43 : q_cat 85 43 (.istore 8) 2 8 0 (0) := ⟨rfl, rfl⟩
theorem c85_45 : q_cat 85 45 (.iload 6) 2 6 0 (0) := ⟨rfl, rfl⟩
theorem c85_47 : q_cat 85 47 (.iconst 3) 1 0 0 (0) := ⟨rfl, rfl⟩
theorem c85_48 : q_cat 85 48 (.imul) 1 0 0 (0) := ⟨rfl, rfl⟩
theorem c85_49 : q_cat 85 49 (.iload_n 3) 1 3 0 (0) := ⟨rfl, rfl⟩
theorem c85_50 : q_cat 85 50 (.iadd) 1 0 0 (0) := ⟨rfl, rfl⟩
theorem c85_51 : q_cat 85 51 (.istore 9) 2 9 0 (0) := ⟨rfl, rfl⟩
theorem c85_53 : q_cat 85 53 (.aload_n 0) 1 0 0 (0) := ⟨rfl, rfl⟩
theorem c85_54 : q_cat 85 54 (.getfield 9) 3 4 0 (3) := ⟨rfl, rfl⟩
theorem c85_57 : q_cat 85 57 (.iload 9) 2 9 0 (0) := ⟨rfl, rfl⟩
theorem c85_59 : q_cat 85 59 (.iload 4) 2 4 0 (0) := ⟨rfl, rfl⟩
theorem c85_61 : q_cat 85 61 (.invokestatic 73) 3 174 3 (0) := ⟨rfl, rfl⟩
theorem c85_64 : q_cat 85 64 (.aload_n 0) 1 0 0 (0) := ⟨rfl, rfl⟩
theorem c85_65 : q_cat 85 65 (.getfield 15) 3 4 1 (3) := ⟨rfl, rfl⟩
theorem c85_68 : q_cat 85 68 (.iload 9) 2 9 0 (0) := ⟨rfl, rfl⟩
theorem c85_70 : q_cat 85 70 (.iload 7) 2 7 0 (0) := ⟨rfl, rfl⟩
theorem c85_72 : q_cat 85 72 (.invokestatic 73) 3 174 3 (0) := ⟨rfl, rfl⟩
theorem c85_75 : q_cat 85 75 (.aload_n 0) 1 0 0 (0) := ⟨rfl, rfl⟩
theorem c85_76 : q_cat 85 76 (.getfield 18) 3 4 2 (3) := ⟨rfl, rfl⟩
theorem c85_79 : q_cat 85 79 (.iload 9) 2 9 0 (0) := ⟨rfl, rfl⟩
theorem c85_81 : q_cat 85 81 (.iload 8) 2 8 0 (0) := ⟨rfl, rfl⟩
theorem c85_83 : q_cat 85 83 (.iload 5) 2 5 0 (0) := ⟨rfl, rfl⟩
theorem c85_85 : q_cat 85 85 (.if_icmp .ne 7) 3 92 0 (0) := ⟨rfl, rfl⟩
theorem c85_88 : q_cat 85 88 (.iconst 0) 1 0 0 (0) := ⟨rfl, rfl⟩
theorem c85_89 : q_cat 85 89 (.goto 4) 3 93 0 (0) := ⟨rfl, rfl⟩
theorem c85_92 : q_cat 85 92 (.iconst 1) 1 0 0 (0) := ⟨rfl, rfl⟩
theorem c85_93 : q_cat 85 93 (.invokestatic 73) 3 174 3 (0) := ⟨rfl, rfl⟩
theorem c85_96 : q_cat 85 96 (.aload_n 2) 1 2 0 (0) := ⟨rfl, rfl⟩
theorem c85_97 : q_cat 85 97 (.iload 6) 2 6 0 (0) := ⟨rfl, rfl⟩
theorem c85_99 : q_cat 85 99 (.iload_n 3) 1 3 0 (0) := ⟨rfl, rfl⟩
theorem c85_100 : q_cat 85 100 (.invokevirtual 92) 3 148 0 (0) := ⟨rfl, rfl⟩
theorem c85_103 : q_cat 85 103 (.istore 4) 2 4 0 (0) := ⟨rfl, rfl⟩
theorem c85_105 : q_cat 85 105 (.iload 8) 2 8 0 (0) := ⟨rfl, rfl⟩
theorem c85_107 : q_cat 85 107 (.istore 5) 2 5 0 (0) := ⟨rfl, rfl⟩
theorem c85_109 : q_cat 85 109 (.iinc 6 1) 3 6 0 (0) := ⟨rfl, rfl⟩
theorem c85_112 : q_cat 85 112 (.goto (-97)) 3 15 0 (0) := ⟨rfl, rfl⟩
theorem c85_115 : q_cat 85 115 (.return_) 1 0 0 (0) := ⟨rfl, rfl⟩
theorem l85_15 {Γ : q_Γ} (hG : q_GG Γ) {h0 : q_F} (hZ : q_Bz h0) {o1 : Nat} {o2 : Nat} {v3 : Int} {u3 : Int} (ho1 : q_isA o1) (ho2 : q_isG o2)
    (hx115 : ∀ {u6 u5 u4 : Int} {h : q_F}, q_Fr (fun k => 125 ≤ k ∧ k ≤ 134) h0 h → q_R Γ q_K 155 85 (fun t w h' => (t = 0 ∧ q_Fr (fun k => 125 ≤ k ∧ k ≤ 134) h0 h')) (115, [(6, (0, u6)), (5, (0, u5)), (4, (0, u4)), (0, (2, Int.ofNat 125)), (1, (2, Int.ofNat o1)), (2, (2, Int.ofNat o2)), (3, (0, u3))], [], q_hp q_K 155 h, [], 0, 0))
    : ∀ (m : Nat) {u6 u5 u4 : Int} {h : q_F}, (-2147483648 ≤ u6 ∧ u6 < 2147483648) → q_Fr (fun k => 125 ≤ k ∧ k ≤ 134) h0 h → 2147483648 - u6 < (m : Int) → q_R Γ q_K 155 85 (fun t w h' => (t = 0 ∧ q_Fr (fun k => 125 ≤ k ∧ k ≤ 134) h0 h')) (15, [(6, (0, u6)), (5, (0, u5)), (4, (0, u4)), (0, (2, Int.ofNat 125)), (1, (2, Int.ofNat o1)), (2, (2, Int.ofNat o2)), (3, (0, u3))], [], q_hp q_K 155 h, [], 0, 0)   := by
  obtain ⟨fo10, fo11, fo12, fo13⟩ := q_fA ho1
  obtain ⟨fo20, fo21, fo22, fo23⟩ := q_fG ho2
  intro m
  induction m with
  | zero =>
    intro u6 u5 u4 h hinv hf hmu
    exact absurd hmu (by omega)
  | succ m ih =>
    intro u6 u5 u4 h hinv hf hmu
    refine r_iload c85_15 rfl rfl ?_
    refine r_aload_n c85_17 rfl rfl ?_
    refine r_geti c85_18 (by first | assumption | omega) (by decide) (by first | assumption | rfl) rfl rfl ?_
    refine r_ic_ge c85_21 rfl (by first | exact q_w32_id (by omega) (by omega) | exact q_w32w _ | exact rfl) (by first | exact q_w32_id (by omega) (by omega) | exact q_w32w _ | exact rfl) ?_ ?_
    · intro b1
      refine q_R.wk (ks := [6, 5, 4, 0, 1, 2, 3]) (lo' := [(6, _), (5, _), (4, _), (0, _), (1, _), (2, _), (3, _)]) rfl ?_
      exact hx115 (by repeat (first | exact q_Fr.rf | refine q_Fr.ud ?_ (by omega) (by first | assumption | rfl) rfl | refine q_Fr.udz ?_ (by omega) (by first | assumption | decide | omega) | refine q_Fr.tr ?_ (by assumption) (by intro k9 hk9; omega)))
    · intro b1
      refine r_aload_n c85_24 rfl rfl ?_
      refine r_iload c85_25 rfl rfl ?_
      refine r_iload_n c85_27 rfl rfl ?_
      refine r_vcG c85_28 (by first | assumption | omega) (by decide) (by first | assumption | rfl) rfl rfl rfl (k148 hG (q_Fr.bz (S := fun k => 125 ≤ k ∧ k ≤ 134) hZ (by repeat (first | exact q_Fr.rf | refine q_Fr.ud ?_ (by omega) (by first | assumption | rfl) rfl | refine q_Fr.udz ?_ (by omega) (by first | assumption | decide | omega) | refine q_Fr.tr ?_ (by assumption) (by intro k9 hk9; omega)))) (by first | assumption | exact q_hC (by assumption) | exact q_h1 (by assumption) | exact q_h3 (by assumption) | exact q_h5 (by assumption) | exact q_hG (by assumption) | exact q_hP | exact q_hB1 | exact q_hB2 | exact q_hT6 | exact q_hT15 | exact q_hT24)) ?_
      intro t2 w2 g2 p2
      obtain ⟨rfl, ⟨z2, rfl⟩, rfl⟩ := p2
      refine Or.inr (Or.inl ⟨rfl, ?_⟩)
      refine r_iload c85_31 rfl rfl ?_
      refine r_isub c85_33 (by first | exact q_w32_id (by omega) (by omega) | exact q_w32w _ | exact rfl) rfl ?_
      refine r_istore c85_34 (lo' := [(7, _), (6, _), (5, _), (4, _), (0, _), (1, _), (2, _), (3, _)]) rfl rfl rfl ?_
      refine r_iload c85_36 rfl rfl ?_
      refine r_iload c85_38 rfl rfl ?_
      refine r_callG c85_40 (fun _ => rfl) rfl rfl rfl (k72 hG (q_Fr.bz (S := fun k => 125 ≤ k ∧ k ≤ 134) hZ (by repeat (first | exact q_Fr.rf | refine q_Fr.ud ?_ (by omega) (by first | assumption | rfl) rfl | refine q_Fr.udz ?_ (by omega) (by first | assumption | decide | omega) | refine q_Fr.tr ?_ (by assumption) (by intro k9 hk9; omega))))) ?_
      intro t3 w3 g3 p3
      obtain ⟨rfl, ⟨z3, rfl⟩, rfl⟩ := p3
      refine Or.inr (Or.inl ⟨rfl, ?_⟩)
      refine r_istore c85_43 (lo' := [(8, _), (7, _), (6, _), (5, _), (4, _), (0, _), (1, _), (2, _), (3, _)]) rfl rfl rfl ?_
      refine r_iload c85_45 rfl rfl ?_
      refine r_iconst c85_47 rfl ?_
      refine r_imul c85_48 (by first | exact q_w32_id (by omega) (by omega) | exact q_w32w _ | exact rfl) rfl ?_
      refine r_iload_n c85_49 rfl rfl ?_
      refine r_iadd c85_50 (by first | exact q_w32_id (by omega) (by omega) | exact q_w32w _ | exact rfl) rfl ?_
      refine r_istore c85_51 (lo' := [(9, _), (8, _), (7, _), (6, _), (5, _), (4, _), (0, _), (1, _), (2, _), (3, _)]) rfl rfl rfl ?_
      refine r_aload_n c85_53 rfl rfl ?_
      refine r_getr c85_54 (by first | assumption | omega) (by decide) (by first | assumption | rfl) rfl rfl ?_
      refine r_iload c85_57 rfl rfl ?_
      refine r_iload c85_59 rfl rfl ?_
      refine r_callG c85_61 (fun _ => rfl) rfl rfl rfl (k174 hG (q_Fr.bz (S := fun k => 125 ≤ k ∧ k ≤ 134) hZ (by repeat (first | exact q_Fr.rf | refine q_Fr.ud ?_ (by omega) (by first | assumption | rfl) rfl | refine q_Fr.udz ?_ (by omega) (by first | assumption | decide | omega) | refine q_Fr.tr ?_ (by assumption) (by intro k9 hk9; omega)))) (by first | assumption | omega) (by first | assumption | rfl) (by first | assumption | decide)) ?_
      intro t4 w4 g4 p4
      obtain ⟨rfl, e4⟩ := p4
      refine Or.inl ⟨rfl, ?_⟩
      refine r_aload_n c85_64 rfl rfl ?_
      refine r_getr c85_65 (by first | assumption | omega) (by decide) (by first | assumption | rfl) rfl rfl ?_
      refine r_iload c85_68 rfl rfl ?_
      refine r_iload c85_70 rfl rfl ?_
      refine r_callG c85_72 (fun _ => rfl) rfl rfl rfl (k174 hG (q_Fr.bz (S := fun k => 125 ≤ k ∧ k ≤ 134) hZ (by repeat (first | exact q_Fr.rf | refine q_Fr.ud ?_ (by omega) (by first | assumption | rfl) rfl | refine q_Fr.udz ?_ (by omega) (by first | assumption | decide | omega) | refine q_Fr.tr ?_ (by assumption) (by intro k9 hk9; omega)))) (by first | assumption | omega) (by first | assumption | rfl) (by first | assumption | decide)) ?_
      intro t5 w5 g5 p5
      obtain ⟨rfl, e5⟩ := p5
      refine Or.inl ⟨rfl, ?_⟩
      refine r_aload_n c85_75 rfl rfl ?_
      refine r_getr c85_76 (by first | assumption | omega) (by decide) (by first | assumption | rfl) rfl rfl ?_
      refine r_iload c85_79 rfl rfl ?_
      refine r_iload c85_81 rfl rfl ?_
      refine r_iload c85_83 rfl rfl ?_
      refine r_ic_ne c85_85 rfl (by first | exact q_w32_id (by omega) (by omega) | exact q_w32w _ | exact rfl) (by first | exact q_w32_id (by omega) (by omega) | exact q_w32w _ | exact rfl) ?_ ?_
      · intro b6
        refine r_iconst c85_92 rfl ?_
        refine r_callG c85_93 (fun _ => rfl) rfl rfl rfl (k174 hG (q_Fr.bz (S := fun k => 125 ≤ k ∧ k ≤ 134) hZ (by repeat (first | exact q_Fr.rf | refine q_Fr.ud ?_ (by omega) (by first | assumption | rfl) rfl | refine q_Fr.udz ?_ (by omega) (by first | assumption | decide | omega) | refine q_Fr.tr ?_ (by assumption) (by intro k9 hk9; omega)))) (by first | assumption | omega) (by first | assumption | rfl) (by first | assumption | decide)) ?_
        intro t7 w7 g7 p7
        obtain ⟨rfl, e7⟩ := p7
        refine Or.inl ⟨rfl, ?_⟩
        refine r_aload_n c85_96 rfl rfl ?_
        refine r_iload c85_97 rfl rfl ?_
        refine r_iload_n c85_99 rfl rfl ?_
        refine r_vcG c85_100 (by first | assumption | omega) (by decide) (by first | assumption | rfl) rfl rfl rfl (k148 hG (q_Fr.bz (S := fun k => 125 ≤ k ∧ k ≤ 134) hZ (by repeat (first | exact q_Fr.rf | refine q_Fr.ud ?_ (by omega) (by first | assumption | rfl) rfl | refine q_Fr.udz ?_ (by omega) (by first | assumption | decide | omega) | refine q_Fr.tr ?_ (by assumption) (by intro k9 hk9; omega)))) (by first | assumption | exact q_hC (by assumption) | exact q_h1 (by assumption) | exact q_h3 (by assumption) | exact q_h5 (by assumption) | exact q_hG (by assumption) | exact q_hP | exact q_hB1 | exact q_hB2 | exact q_hT6 | exact q_hT15 | exact q_hT24)) ?_
        intro t8 w8 g8 p8
        obtain ⟨rfl, ⟨z8, rfl⟩, rfl⟩ := p8
        refine Or.inr (Or.inl ⟨rfl, ?_⟩)
        refine r_istore c85_103 (lo' := [(4, _), (9, _), (8, _), (7, _), (6, _), (5, _), (0, _), (1, _), (2, _), (3, _)]) rfl rfl rfl ?_
        refine r_iload c85_105 rfl rfl ?_
        refine r_istore c85_107 (lo' := [(5, _), (4, _), (9, _), (8, _), (7, _), (6, _), (0, _), (1, _), (2, _), (3, _)]) rfl rfl rfl ?_
        refine r_iinc c85_109 rfl (by first | exact q_w32_id (by omega) (by omega) | exact q_w32w _ | exact rfl) (lo' := [(6, _), (5, _), (4, _), (9, _), (8, _), (7, _), (0, _), (1, _), (2, _), (3, _)]) rfl rfl rfl ?_
        refine r_goto c85_112 ?_
        refine q_R.wk (ks := [6, 5, 4, 0, 1, 2, 3]) (lo' := [(6, _), (5, _), (4, _), (0, _), (1, _), (2, _), (3, _)]) rfl ?_
        exact ih (by first | omega | exact ⟨q_rg1 _, q_rg2 _⟩) (by repeat (first | exact q_Fr.rf | refine q_Fr.ud ?_ (by omega) (by first | assumption | rfl) rfl | refine q_Fr.udz ?_ (by omega) (by first | assumption | decide | omega) | refine q_Fr.tr ?_ (by assumption) (by intro k9 hk9; omega))) (by omega)
      · intro b6
        refine r_iconst c85_88 rfl ?_
        refine r_goto c85_89 ?_
        refine r_callG c85_93 (fun _ => rfl) rfl rfl rfl (k174 hG (q_Fr.bz (S := fun k => 125 ≤ k ∧ k ≤ 134) hZ (by repeat (first | exact q_Fr.rf | refine q_Fr.ud ?_ (by omega) (by first | assumption | rfl) rfl | refine q_Fr.udz ?_ (by omega) (by first | assumption | decide | omega) | refine q_Fr.tr ?_ (by assumption) (by intro k9 hk9; omega)))) (by first | assumption | omega) (by first | assumption | rfl) (by first | assumption | decide)) ?_
        intro t9 w9 g9 p9
        obtain ⟨rfl, e9⟩ := p9
        refine Or.inl ⟨rfl, ?_⟩
        refine r_aload_n c85_96 rfl rfl ?_
        refine r_iload c85_97 rfl rfl ?_
        refine r_iload_n c85_99 rfl rfl ?_
        refine r_vcG c85_100 (by first | assumption | omega) (by decide) (by first | assumption | rfl) rfl rfl rfl (k148 hG (q_Fr.bz (S := fun k => 125 ≤ k ∧ k ≤ 134) hZ (by repeat (first | exact q_Fr.rf | refine q_Fr.ud ?_ (by omega) (by first | assumption | rfl) rfl | refine q_Fr.udz ?_ (by omega) (by first | assumption | decide | omega) | refine q_Fr.tr ?_ (by assumption) (by intro k9 hk9; omega)))) (by first | assumption | exact q_hC (by assumption) | exact q_h1 (by assumption) | exact q_h3 (by assumption) | exact q_h5 (by assumption) | exact q_hG (by assumption) | exact q_hP | exact q_hB1 | exact q_hB2 | exact q_hT6 | exact q_hT15 | exact q_hT24)) ?_
        intro t10 w10 g10 p10
        obtain ⟨rfl, ⟨z10, rfl⟩, rfl⟩ := p10
        refine Or.inr (Or.inl ⟨rfl, ?_⟩)
        refine r_istore c85_103 (lo' := [(4, _), (9, _), (8, _), (7, _), (6, _), (5, _), (0, _), (1, _), (2, _), (3, _)]) rfl rfl rfl ?_
        refine r_iload c85_105 rfl rfl ?_
        refine r_istore c85_107 (lo' := [(5, _), (4, _), (9, _), (8, _), (7, _), (6, _), (0, _), (1, _), (2, _), (3, _)]) rfl rfl rfl ?_
        refine r_iinc c85_109 rfl (by first | exact q_w32_id (by omega) (by omega) | exact q_w32w _ | exact rfl) (lo' := [(6, _), (5, _), (4, _), (9, _), (8, _), (7, _), (0, _), (1, _), (2, _), (3, _)]) rfl rfl rfl ?_
        refine r_goto c85_112 ?_
        refine q_R.wk (ks := [6, 5, 4, 0, 1, 2, 3]) (lo' := [(6, _), (5, _), (4, _), (0, _), (1, _), (2, _), (3, _)]) rfl ?_
        exact ih (by first | omega | exact ⟨q_rg1 _, q_rg2 _⟩) (by repeat (first | exact q_Fr.rf | refine q_Fr.ud ?_ (by omega) (by first | assumption | rfl) rfl | refine q_Fr.udz ?_ (by omega) (by first | assumption | decide | omega) | refine q_Fr.tr ?_ (by assumption) (by intro k9 hk9; omega))) (by omega)

theorem k85 {Γ : q_Γ} (hG : q_GG Γ) {h : q_F} (hZ : q_Bz h) {o1 : Nat} {o2 : Nat} {v3 : Int} (ho1 : q_isA o1) (ho2 : q_isG o2) :
    q_M Γ q_K 155 85 [(2, Int.ofNat 125), (2, Int.ofNat o1), (2, Int.ofNat o2), (0, v3)] h (fun t w h' => (t = 0 ∧ q_Fr (fun k => 125 ≤ k ∧ k ≤ 134) h h')) := by
  obtain ⟨fo10, fo11, fo12, fo13⟩ := q_fA ho1
  obtain ⟨fo20, fo21, fo22, fo23⟩ := q_fG ho2
  refine q_M.of (by decide) (Nat.le_of_ble_eq_true rfl) hG ?_
  refine r_aload_n c85_0 rfl rfl ?_
  refine r_geti c85_1 (by first | assumption | omega) (by decide) (by first | assumption | rfl) rfl rfl ?_
  refine r_istore c85_4 (lo' := [(4, _), (0, _), (1, _), (2, _), (3, _)]) rfl rfl rfl ?_
  refine r_aload_n c85_6 rfl rfl ?_
  refine r_geti c85_7 (by first | assumption | omega) (by decide) (by first | assumption | rfl) rfl rfl ?_
  refine r_istore c85_10 (lo' := [(5, _), (4, _), (0, _), (1, _), (2, _), (3, _)]) rfl rfl rfl ?_
  refine r_iconst c85_12 rfl ?_
  refine r_istore c85_13 (lo' := [(6, _), (5, _), (4, _), (0, _), (1, _), (2, _), (3, _)]) rfl rfl rfl ?_
  refine q_R.wk (ks := [6, 5, 4, 0, 1, 2, 3]) (lo' := [(6, _), (5, _), (4, _), (0, _), (1, _), (2, _), (3, _)]) rfl ?_
  refine l85_15 (o1 := o1) (o2 := o2) (v3 := v3) hG hZ ho1 ho2 ?_ 4294967298 (by first | omega | exact ⟨q_rg1 _, q_rg2 _⟩) (by repeat (first | exact q_Fr.rf | refine q_Fr.ud ?_ (by omega) (by first | assumption | rfl) rfl | refine q_Fr.udz ?_ (by omega) (by first | assumption | decide | omega) | refine q_Fr.tr ?_ (by assumption) (by intro k9 hk9; omega))) (q_mu (by first | omega | exact ⟨q_rg1 _, q_rg2 _⟩))
  · intro u6_1 u5_1 u4_1 g1 f1
    exact r_vret c85_115 ⟨rfl, rfl, rfl⟩ ⟨rfl, (by repeat (first | exact q_Fr.rf | refine q_Fr.ud ?_ (by omega) (by first | assumption | rfl) rfl | refine q_Fr.udz ?_ (by omega) (by first | assumption | decide | omega) | refine q_Fr.tr ?_ (by assumption) (by intro k9 hk9; omega)))⟩
theorem c89_0 : q_cat 89 0 (.iconst 0) 1 0 0 (0) := ⟨rfl, rfl⟩
theorem c89_1 : q_cat 89 1 (.istore_n 3) 1 3 0 (0) := ⟨rfl, rfl⟩
theorem c89_2 : q_cat 89 2 (.iconst 0) 1 0 0 (0) := ⟨rfl, rfl⟩
theorem c89_3 : q_cat 89 3 (.istore 4) 2 4 0 (0) := ⟨rfl, rfl⟩
theorem c89_5 : q_cat 89 5 (.iload 4) 2 4 0 (0) := ⟨rfl, rfl⟩
theorem c89_7 : q_cat 89 7 (.iconst 3) 1 0 0 (0) := ⟨rfl, rfl⟩
theorem c89_8 : q_cat 89 8 (.if_icmp .ge 24) 3 32 0 (0) := ⟨rfl, rfl⟩
theorem c89_11 : q_cat 89 11 (.iload_n 3) 1 3 0 (0) := ⟨rfl, rfl⟩
theorem c89_12 : q_cat 89 12 (.aload_n 0) 1 0 0 (0) := ⟨rfl, rfl⟩
theorem c89_13 : q_cat 89 13 (.iload_n 2) 1 2 0 (0) := ⟨rfl, rfl⟩
theorem c89_14 : q_cat 89 14 (.iload 4) 2 4 0 (0) := ⟨rfl, rfl⟩
theorem c89_16 : q_cat 89 16 (.invokevirtual 98) 3 73 0 (0) := ⟨rfl, rfl⟩
theorem c89_19 : q_cat 89 19 (.invokestatic 101) 3 0 8 (0) := ⟨rfl, rfl⟩
theorem c89_22 : q_cat 89 22 (.invokestatic 105) 3 0 6 (0) := ⟨rfl, rfl⟩
theorem c89_25 : q_cat 89 25 (.istore_n 3) 1 3 0 (0) := ⟨rfl, rfl⟩
theorem c89_26 : q_cat 89 26 (.iinc 4 1) 3 4 0 (0) := ⟨rfl, rfl⟩
theorem c89_29 : q_cat 89 29 (.goto (-24)) 3 5 0 (0) := ⟨rfl, rfl⟩
theorem c89_32 : q_cat 89 32 (.ldc 110) 2 0 0 (2147483647) := ⟨rfl, rfl⟩
theorem c89_34 : q_cat 89 34 (.istore 4) 2 4 0 (0) := ⟨rfl, rfl⟩
theorem c89_36 : q_cat 89 36 (.ldc 110) 2 0 0 (2147483647) := ⟨rfl, rfl⟩
theorem c89_38 : q_cat 89 38 (.istore 5) 2 5 0 (0) := ⟨rfl, rfl⟩
theorem c89_40 : q_cat 89 40 (.iconst 0) 1 0 0 (0) := ⟨rfl, rfl⟩
theorem c89_41 : q_cat 89 41 (.istore 6) 2 6 0 (0) := ⟨rfl, rfl⟩
theorem c89_43 : q_cat 89 43 (.iconst 0) 1 0 0 (0) := ⟨rfl, rfl⟩
theorem c89_44 : q_cat 89 44 (.istore 7) 2 7 0 (0) := ⟨rfl, rfl⟩
theorem c89_46 : q_cat 89 46 (.iload 7) 2 7 0 (0) := ⟨rfl, rfl⟩
theorem c89_48 : q_cat 89 48 (.iconst 3) 1 0 0 (0) := ⟨rfl, rfl⟩
theorem c89_49 : q_cat 89 49 (.if_icmp .ge 96) 3 145 0 (0) := ⟨rfl, rfl⟩
theorem c89_52 : q_cat 89 52 (.aload_n 0) 1 0 0 (0) := ⟨rfl, rfl⟩
theorem c89_53 : q_cat 89 53 (.iload_n 2) 1 2 0 (0) := ⟨rfl, rfl⟩
theorem c89_54 : q_cat 89 54 (.iload 7) 2 7 0 (0) := ⟨rfl, rfl⟩
theorem c89_56 : q_cat 89 56 (.invokevirtual 98) 3 73 0 (0) := ⟨rfl, rfl⟩
theorem c89_59 : q_cat 89 59 (.invokestatic 101) 3 0 8 (0) := ⟨rfl, rfl⟩
theorem c89_62 : q_cat 89 62 (.istore 8) 2 8 0 (0) := ⟨rfl, rfl⟩
theorem c89_64 : q_cat 89 64 (.aload_n 1) 1 1 0 (0) := ⟨rfl, rfl⟩
theorem c89_65 : q_cat 89 65 (.iload 7) 2 7 0 (0) := ⟨rfl, rfl⟩
theorem c89_67 : q_cat 89 67 (.invokevirtual 49) 3 125 0 (0) := ⟨rfl, rfl⟩
theorem c89_70 : q_cat 89 70 (.astore 9) 2 9 0 (0) := ⟨rfl, rfl⟩
theorem c89_72 : q_cat 89 72 (.iload 8) 2 8 0 (0) := ⟨rfl, rfl⟩
theorem c89_74 : q_cat 89 74 (.ifCond .le 65) 3 139 0 (0) := ⟨rfl, rfl⟩
theorem c89_77 : q_cat 89 77 (.iload 4) 2 4 0 (0) := ⟨rfl, rfl⟩
theorem c89_79 : q_cat 89 79 (.aload 9) 2 9 0 (0) := ⟨rfl, rfl⟩
theorem c89_81 : q_cat 89 81 (.getfield 111) 3 1 2 (0) := ⟨rfl, rfl⟩
theorem c89_84 : q_cat 89 84 (.iload_n 3) 1 3 0 (0) := ⟨rfl, rfl⟩
theorem c89_85 : q_cat 89 85 (.imul) 1 0 0 (0) := ⟨rfl, rfl⟩
theorem c89_86 : q_cat 89 86 (.iload 8) 2 8 0 (0) := ⟨rfl, rfl⟩
theorem c89_88 : q_cat 89 88 (.invokestatic 114) 3 201 3 (0) := ⟨rfl, rfl⟩
theorem c89_91 : q_cat 89 91 (.invokestatic 67) 3 0 7 (0) := ⟨rfl, rfl⟩
theorem c89_94 : q_cat 89 94 (.istore 4) 2 4 0 (0) := ⟨rfl, rfl⟩
theorem c89_96 : q_cat 89 96 (.iload 5) 2 5 0 (0) := ⟨rfl, rfl⟩
theorem c89_98 : q_cat 89 98 (.aload 9) 2 9 0 (0) := ⟨rfl, rfl⟩
theorem c89_100 : q_cat 89 100 (.getfield 117) 3 1 3 (0) := ⟨rfl, rfl⟩
theorem c89_103 : q_cat 89 103 (.iload_n 3) 1 3 0 (0) := ⟨rfl, rfl⟩
theorem c89_104 : q_cat 89 104 (.imul) 1 0 0 (0) := ⟨rfl, rfl⟩
theorem c89_105 : q_cat 89 105 (.iload 8) 2 8 0 (0) := ⟨rfl, rfl⟩
theorem c89_107 : q_cat 89 107 (.invokestatic 114) 3 201 3 (0) := ⟨rfl, rfl⟩
theorem c89_110 : q_cat 89 110 (.invokestatic 67) 3 0 7 (0) := ⟨rfl, rfl⟩
theorem c89_113 : q_cat 89 113 (.istore 5) 2 5 0 (0) := ⟨rfl, rfl⟩
theorem c89_115 : q_cat 89 115 (.iload 6) 2 6 0 (0) := ⟨rfl, rfl⟩
theorem c89_117 : q_cat 89 117 (.aload_n 0) 1 0 0 (0) := ⟨rfl, rfl⟩
theorem c89_118 : q_cat 89 118 (.iload_n 2) 1 2 0 (0) := ⟨rfl, rfl⟩
theorem c89_119 : q_cat 89 119 (.iload 7) 2 7 0 (0) := ⟨rfl, rfl⟩
theorem c89_121 : q_cat 89 121 (.invokevirtual 120) 3 100 0 (0) := ⟨rfl, rfl⟩
theorem c89_124 : q_cat 89 124 (.ifCond .eq 11) 3 135 0 (0) := ⟨rfl, rfl⟩
theorem c89_127 : q_cat 89 127 (.aload 9) 2 9 0 (0) := ⟨rfl, rfl⟩
theorem c89_129 : q_cat 89 129 (.getfield 124) 3 1 1 (0) := ⟨rfl, rfl⟩
theorem c89_132 : q_cat 89 132 (.goto 4) 3 136 0 (0) := ⟨rfl, rfl⟩
theorem c89_135 : q_cat 89 135 (.iconst 0) 1 0 0 (0) := ⟨rfl, rfl⟩
theorem c89_136 : q_cat 89 136 (.iadd) 1 0 0 (0) := ⟨rfl, rfl⟩
theorem c89_137 : q_cat 89 137 (.istore 6) 2 6 0 (0) := ⟨rfl, rfl⟩
theorem c89_139 : q_cat 89 139 (.iinc 7 1) 3 7 0 (0) := ⟨rfl, rfl⟩
theorem c89_142 : q_cat 89 142 (.goto (-96)) 3 46 0 (0) := ⟨rfl, rfl⟩
theorem c89_145 : q_cat 89 145 (.aload_n 0) 1 0 0 (0) := ⟨rfl, rfl⟩
theorem c89_146 : q_cat 89 146 (.getfield 21) 3 4 3 (3) := ⟨rfl, rfl⟩
theorem c89_149 : q_cat 89 149 (.iload_n 2) 1 2 0 (0) := ⟨rfl, rfl⟩
theorem c89_150 : q_cat 89 150 (.iload_n 3) 1 3 0 (0) := ⟨rfl, rfl⟩
theorem c89_151 : q_cat 89 151 (.invokestatic 73) 3 174 3 (0) := ⟨rfl, rfl⟩
theorem c89_154 : q_cat 89 154 (.aload_n 0) 1 0 0 (0) := ⟨rfl, rfl⟩
theorem c89_155 : q_cat 89 155 (.getfield 24) 3 4 4 (3) := ⟨rfl, rfl⟩
theorem c89_158 : q_cat 89 158 (.iload_n 2) 1 2 0 (0) := ⟨rfl, rfl⟩
theorem c89_159 : q_cat 89 159 (.iload 4) 2 4 0 (0) := ⟨rfl, rfl⟩
theorem c89_161 : q_cat 89 161 (.invokestatic 73) 3 174 3 (0) := ⟨rfl, rfl⟩
theorem c89_164 : q_cat 89 164 (.aload_n 0) 1 0 0 (0) := ⟨rfl, rfl⟩
theorem c89_165 : q_cat 89 165 (.getfield 27) 3 4 5 (3) := ⟨rfl, rfl⟩
theorem c89_168 : q_cat 89 168 (.iload_n 2) 1 2 0 (0) := ⟨rfl, rfl⟩
theorem c89_169 : q_cat 89 169 (.iload 5) 2 5 0 (0) := ⟨rfl, rfl⟩
theorem c89_171 : q_cat 89 171 (.invokestatic 73) 3 174 3 (0) := ⟨rfl, rfl⟩
theorem c89_174 : q_cat 89 174 (.aload_n 0) 1 0 0 (0) := ⟨rfl, rfl⟩
theorem c89_175 : q_cat 89 175 (.getfield 33) 3 4 7 (3) := ⟨rfl, rfl⟩
theorem c89_178 : q_cat 89 178 (.iload_n 2) 1 2 0 (0) := ⟨rfl, rfl⟩
theorem c89_179 : q_cat 89 179 (.aload_n 1) 1 1 0 (0) := ⟨rfl, rfl⟩
theorem c89_180 : q_cat 89 180 (.getfield 127) 3 6 5 (1) := ⟨rfl, rfl⟩
theorem c89_183 : q_cat 89 183 (.ifCond .eq 8) 3 191 0 (0) := ⟨rfl, rfl⟩
theorem c89_186 : q_cat 89 186 (.iload 6) 2 6 0 (0) := ⟨rfl, rfl⟩
theorem c89_188 : q_cat 89 188 (.goto 4) 3 192 0 (0) := ⟨rfl, rfl⟩
theorem c89_191 : q_cat 89 191 (.iconst 0) 1 0 0 (0) := ⟨rfl, rfl⟩
theorem c89_192 : q_cat 89 192 (.invokestatic 73) 3 174 3 (0) := ⟨rfl, rfl⟩
theorem c89_195 : q_cat 89 195 (.return_) 1 0 0 (0) := ⟨rfl, rfl⟩
theorem l89_5 {Γ : q_Γ} (hG : q_GG Γ) {h0 : q_F} (hZ : q_Bz h0) {o1 : Nat} {v2 : Int} {u2 : Int} (ho1 : q_isT o1)
    (hx32 : ∀ {u4 u3 : Int} {h : q_F}, q_Fr (fun k => 125 ≤ k ∧ k ≤ 134) h0 h → q_R Γ q_K 155 89 (fun t w h' => (t = 0 ∧ q_Fr (fun k => 125 ≤ k ∧ k ≤ 134) h0 h')) (32, [(4, (0, u4)), (3, (0, u3)), (0, (2, Int.ofNat 125)), (1, (2, Int.ofNat o1)), (2, (0, u2))], [], q_hp q_K 155 h, [], 0, 0))
    : ∀ (m : Nat) {u4 u3 : Int} {h : q_F}, (-2147483648 ≤ u4 ∧ u4 < 2147483648) → q_Fr (fun k => 125 ≤ k ∧ k ≤ 134) h0 h → 2147483648 - u4 < (m : Int) → q_R Γ q_K 155 89 (fun t w h' => (t = 0 ∧ q_Fr (fun k => 125 ≤ k ∧ k ≤ 134) h0 h')) (5, [(4, (0, u4)), (3, (0, u3)), (0, (2, Int.ofNat 125)), (1, (2, Int.ofNat o1)), (2, (0, u2))], [], q_hp q_K 155 h, [], 0, 0)   := by
  obtain ⟨fo10, fo11, fo12, fo13, fo14, fo15, fo16, fo17, fo18, fo19, fo110⟩ := q_fT ho1
  intro m
  induction m with
  | zero =>
    intro u4 u3 h hinv hf hmu
    exact absurd hmu (by omega)
  | succ m ih =>
    intro u4 u3 h hinv hf hmu
    refine r_iload c89_5 rfl rfl ?_
    refine r_iconst c89_7 rfl ?_
    refine r_ic_ge c89_8 rfl (by first | exact q_w32_id (by omega) (by omega) | exact q_w32w _ | exact rfl) (show q_w32 (3) = 3 from rfl) ?_ ?_
    · intro b1
      refine q_R.wk (ks := [4, 3, 0, 1, 2]) (lo' := [(4, _), (3, _), (0, _), (1, _), (2, _)]) rfl ?_
      exact hx32 (by repeat (first | exact q_Fr.rf | refine q_Fr.ud ?_ (by omega) (by first | assumption | rfl) rfl | refine q_Fr.udz ?_ (by omega) (by first | assumption | decide | omega) | refine q_Fr.tr ?_ (by assumption) (by intro k9 hk9; omega)))
    · intro b1
      refine r_iload_n c89_11 rfl rfl ?_
      refine r_aload_n c89_12 rfl rfl ?_
      refine r_iload_n c89_13 rfl rfl ?_
      refine r_iload c89_14 rfl rfl ?_
      refine r_vcG c89_16 (by first | assumption | omega) (by decide) (by first | assumption | rfl) rfl rfl rfl (k73 hG (q_Fr.bz (S := fun k => 125 ≤ k ∧ k ≤ 134) hZ (by repeat (first | exact q_Fr.rf | refine q_Fr.ud ?_ (by omega) (by first | assumption | rfl) rfl | refine q_Fr.udz ?_ (by omega) (by first | assumption | decide | omega) | refine q_Fr.tr ?_ (by assumption) (by intro k9 hk9; omega))))) ?_
      intro t2 w2 g2 p2
      obtain ⟨rfl, ⟨z2, rfl⟩, rfl⟩ := p2
      refine Or.inr (Or.inl ⟨rfl, ?_⟩)
      refine r_abs c89_19 rfl rfl ?_
      refine r_max c89_22 rfl rfl ?_
      refine r_istore_n c89_25 (lo' := [(3, _), (4, _), (0, _), (1, _), (2, _)]) rfl rfl rfl ?_
      refine r_iinc c89_26 rfl (by first | exact q_w32_id (by omega) (by omega) | exact q_w32w _ | exact rfl) (lo' := [(4, _), (3, _), (0, _), (1, _), (2, _)]) rfl rfl rfl ?_
      refine r_goto c89_29 ?_
      refine q_R.wk (ks := [4, 3, 0, 1, 2]) (lo' := [(4, _), (3, _), (0, _), (1, _), (2, _)]) rfl ?_
      exact ih (by first | omega | exact ⟨q_rg1 _, q_rg2 _⟩) (by repeat (first | exact q_Fr.rf | refine q_Fr.ud ?_ (by omega) (by first | assumption | rfl) rfl | refine q_Fr.udz ?_ (by omega) (by first | assumption | decide | omega) | refine q_Fr.tr ?_ (by assumption) (by intro k9 hk9; omega))) (by omega)

theorem l89_46 {Γ : q_Γ} (hG : q_GG Γ) {h0 : q_F} (hZ : q_Bz h0) {o1 : Nat} {v2 : Int} {u3 : Int} {u2 : Int} (ho1 : q_isT o1)
    (hx145 : ∀ {u7 u6 u5 u4 : Int} {h : q_F}, q_Fr (fun k => 125 ≤ k ∧ k ≤ 134) h0 h → q_R Γ q_K 155 89 (fun t w h' => (t = 0 ∧ q_Fr (fun k => 125 ≤ k ∧ k ≤ 134) h0 h')) (145, [(7, (0, u7)), (6, (0, u6)), (5, (0, u5)), (4, (0, u4)), (3, (0, u3)), (0, (2, Int.ofNat 125)), (1, (2, Int.ofNat o1)), (2, (0, u2))], [], q_hp q_K 155 h, [], 0, 0))
    : ∀ (m : Nat) {u7 u6 u5 u4 : Int} {h : q_F}, (-2147483648 ≤ u7 ∧ u7 < 2147483648) → q_Fr (fun k => 125 ≤ k ∧ k ≤ 134) h0 h → 2147483648 - u7 < (m : Int) → q_R Γ q_K 155 89 (fun t w h' => (t = 0 ∧ q_Fr (fun k => 125 ≤ k ∧ k ≤ 134) h0 h')) (46, [(7, (0, u7)), (6, (0, u6)), (5, (0, u5)), (4, (0, u4)), (3, (0, u3)), (0, (2, Int.ofNat 125)), (1, (2, Int.ofNat o1)), (2, (0, u2))], [], q_hp q_K 155 h, [], 0, 0)   := by
  obtain ⟨fo10, fo11, fo12, fo13, fo14, fo15, fo16, fo17, fo18, fo19, fo110⟩ := q_fT ho1
  intro m
  induction m with
  | zero =>
    intro u7 u6 u5 u4 h hinv hf hmu
    exact absurd hmu (by omega)
  | succ m ih =>
    intro u7 u6 u5 u4 h hinv hf hmu
    refine r_iload c89_46 rfl rfl ?_
    refine r_iconst c89_48 rfl ?_
    refine r_ic_ge c89_49 rfl (by first | exact q_w32_id (by omega) (by omega) | exact q_w32w _ | exact rfl) (show q_w32 (3) = 3 from rfl) ?_ ?_
    · intro b2
      refine q_R.wk (ks := [7, 6, 5, 4, 3, 0, 1, 2]) (lo' := [(7, _), (6, _), (5, _), (4, _), (3, _), (0, _), (1, _), (2, _)]) rfl ?_
      exact hx145 (by repeat (first | exact q_Fr.rf | refine q_Fr.ud ?_ (by omega) (by first | assumption | rfl) rfl | refine q_Fr.udz ?_ (by omega) (by first | assumption | decide | omega) | refine q_Fr.tr ?_ (by assumption) (by intro k9 hk9; omega)))
    · intro b2
      refine r_aload_n c89_52 rfl rfl ?_
      refine r_iload_n c89_53 rfl rfl ?_
      refine r_iload c89_54 rfl rfl ?_
      refine r_vcG c89_56 (by first | assumption | omega) (by decide) (by first | assumption | rfl) rfl rfl rfl (k73 hG (q_Fr.bz (S := fun k => 125 ≤ k ∧ k ≤ 134) hZ (by repeat (first | exact q_Fr.rf | refine q_Fr.ud ?_ (by omega) (by first | assumption | rfl) rfl | refine q_Fr.udz ?_ (by omega) (by first | assumption | decide | omega) | refine q_Fr.tr ?_ (by assumption) (by intro k9 hk9; omega))))) ?_
      intro t3 w3 g3 p3
      obtain ⟨rfl, ⟨z3, rfl⟩, rfl⟩ := p3
      refine Or.inr (Or.inl ⟨rfl, ?_⟩)
      refine r_abs c89_59 rfl rfl ?_
      refine r_istore c89_62 (lo' := [(8, _), (7, _), (6, _), (5, _), (4, _), (3, _), (0, _), (1, _), (2, _)]) rfl rfl rfl ?_
      refine r_aload_n c89_64 rfl rfl ?_
      refine r_iload c89_65 rfl rfl ?_
      refine r_vcG c89_67 (by first | assumption | omega) (by decide) (by first | assumption | rfl) rfl rfl rfl (k125 hG (q_Fr.bz (S := fun k => 125 ≤ k ∧ k ≤ 134) hZ (by repeat (first | exact q_Fr.rf | refine q_Fr.ud ?_ (by omega) (by first | assumption | rfl) rfl | refine q_Fr.udz ?_ (by omega) (by first | assumption | decide | omega) | refine q_Fr.tr ?_ (by assumption) (by intro k9 hk9; omega)))) (by first | assumption | exact q_hC (by assumption) | exact q_h1 (by assumption) | exact q_h3 (by assumption) | exact q_h5 (by assumption) | exact q_hG (by assumption) | exact q_hP | exact q_hB1 | exact q_hB2 | exact q_hT6 | exact q_hT15 | exact q_hT24)) ?_
      intro t4 w4 g4 p4
      obtain ⟨rfl, ⟨r4, rfl, ha4, hr4⟩, rfl⟩ := p4
      obtain ⟨fr40, fr41, fr42, fr43⟩ := q_fA ha4
      refine Or.inr (Or.inl ⟨rfl, ?_⟩)
      refine r_astore c89_70 (lo' := [(9, _), (8, _), (7, _), (6, _), (5, _), (4, _), (3, _), (0, _), (1, _), (2, _)]) rfl rfl rfl ?_
      refine r_iload c89_72 rfl rfl ?_
      refine r_if_le c89_74 rfl (by first | exact q_w32_id (by omega) (by omega) | exact q_w32w _ | exact rfl) ?_ ?_
      · intro b5
        refine r_iinc c89_139 rfl (by first | exact q_w32_id (by omega) (by omega) | exact q_w32w _ | exact rfl) (lo' := [(7, _), (9, _), (8, _), (6, _), (5, _), (4, _), (3, _), (0, _), (1, _), (2, _)]) rfl rfl rfl ?_
        refine r_goto c89_142 ?_
        refine q_R.wk (ks := [7, 6, 5, 4, 3, 0, 1, 2]) (lo' := [(7, _), (6, _), (5, _), (4, _), (3, _), (0, _), (1, _), (2, _)]) rfl ?_
        exact ih (by first | omega | exact ⟨q_rg1 _, q_rg2 _⟩) (by repeat (first | exact q_Fr.rf | refine q_Fr.ud ?_ (by omega) (by first | assumption | rfl) rfl | refine q_Fr.udz ?_ (by omega) (by first | assumption | decide | omega) | refine q_Fr.tr ?_ (by assumption) (by intro k9 hk9; omega))) (by omega)
      · intro b5
        refine r_iload c89_77 rfl rfl ?_
        refine r_aload c89_79 rfl rfl ?_
        refine r_geti c89_81 (by first | assumption | omega) (by decide) (by first | assumption | rfl) rfl rfl ?_
        refine r_iload_n c89_84 rfl rfl ?_
        refine r_imul c89_85 (by first | exact q_w32_id (by omega) (by omega) | exact q_w32w _ | exact rfl) rfl ?_
        refine r_iload c89_86 rfl rfl ?_
        refine r_callG c89_88 (fun _ => rfl) rfl rfl rfl (k201 hG (q_Fr.bz (S := fun k => 125 ≤ k ∧ k ≤ 134) hZ (by repeat (first | exact q_Fr.rf | refine q_Fr.ud ?_ (by omega) (by first | assumption | rfl) rfl | refine q_Fr.udz ?_ (by omega) (by first | assumption | decide | omega) | refine q_Fr.tr ?_ (by assumption) (by intro k9 hk9; omega))))) ?_
        intro t6 w6 g6 p6
        obtain ⟨rfl, ⟨z6, rfl⟩, rfl⟩ := p6
        refine Or.inr (Or.inl ⟨rfl, ?_⟩)
        refine r_min c89_91 rfl rfl ?_
        refine r_istore c89_94 (lo' := [(4, _), (9, _), (8, _), (7, _), (6, _), (5, _), (3, _), (0, _), (1, _), (2, _)]) rfl rfl rfl ?_
        refine r_iload c89_96 rfl rfl ?_
        refine r_aload c89_98 rfl rfl ?_
        refine r_geti c89_100 (by first | assumption | omega) (by decide) (by first | assumption | rfl) rfl rfl ?_
        refine r_iload_n c89_103 rfl rfl ?_
        refine r_imul c89_104 (by first | exact q_w32_id (by omega) (by omega) | exact q_w32w _ | exact rfl) rfl ?_
        refine r_iload c89_105 rfl rfl ?_
        refine r_callG c89_107 (fun _ => rfl) rfl rfl rfl (k201 hG (q_Fr.bz (S := fun k => 125 ≤ k ∧ k ≤ 134) hZ (by repeat (first | exact q_Fr.rf | refine q_Fr.ud ?_ (by omega) (by first | assumption | rfl) rfl | refine q_Fr.udz ?_ (by omega) (by first | assumption | decide | omega) | refine q_Fr.tr ?_ (by assumption) (by intro k9 hk9; omega))))) ?_
        intro t7 w7 g7 p7
        obtain ⟨rfl, ⟨z7, rfl⟩, rfl⟩ := p7
        refine Or.inr (Or.inl ⟨rfl, ?_⟩)
        refine r_min c89_110 rfl rfl ?_
        refine r_istore c89_113 (lo' := [(5, _), (4, _), (9, _), (8, _), (7, _), (6, _), (3, _), (0, _), (1, _), (2, _)]) rfl rfl rfl ?_
        refine r_iload c89_115 rfl rfl ?_
        refine r_aload_n c89_117 rfl rfl ?_
        refine r_iload_n c89_118 rfl rfl ?_
        refine r_iload c89_119 rfl rfl ?_
        refine r_vcG c89_121 (by first | assumption | omega) (by decide) (by first | assumption | rfl) rfl rfl rfl (k100 hG (q_Fr.bz (S := fun k => 125 ≤ k ∧ k ≤ 134) hZ (by repeat (first | exact q_Fr.rf | refine q_Fr.ud ?_ (by omega) (by first | assumption | rfl) rfl | refine q_Fr.udz ?_ (by omega) (by first | assumption | decide | omega) | refine q_Fr.tr ?_ (by assumption) (by intro k9 hk9; omega))))) ?_
        intro t8 w8 g8 p8
        obtain ⟨rfl, ⟨z8, rfl, hz8⟩, rfl⟩ := p8
        refine Or.inr (Or.inl ⟨rfl, ?_⟩)
        refine r_if_eq c89_124 rfl (by first | exact q_w32_id (by omega) (by omega) | exact q_w32w _ | exact rfl) ?_ ?_
        · intro b9
          refine r_iconst c89_135 rfl ?_
          refine r_iadd c89_136 (by first | exact q_w32_id (by omega) (by omega) | exact q_w32w _ | exact rfl) rfl ?_
          refine r_istore c89_137 (lo' := [(6, _), (5, _), (4, _), (9, _), (8, _), (7, _), (3, _), (0, _), (1, _), (2, _)]) rfl rfl rfl ?_
          refine r_iinc c89_139 rfl (by first | exact q_w32_id (by omega) (by omega) | exact q_w32w _ | exact rfl) (lo' := [(7, _), (6, _), (5, _), (4, _), (9, _), (8, _), (3, _), (0, _), (1, _), (2, _)]) rfl rfl rfl ?_
          refine r_goto c89_142 ?_
          refine q_R.wk (ks := [7, 6, 5, 4, 3, 0, 1, 2]) (lo' := [(7, _), (6, _), (5, _), (4, _), (3, _), (0, _), (1, _), (2, _)]) rfl ?_
          exact ih (by first | omega | exact ⟨q_rg1 _, q_rg2 _⟩) (by repeat (first | exact q_Fr.rf | refine q_Fr.ud ?_ (by omega) (by first | assumption | rfl) rfl | refine q_Fr.udz ?_ (by omega) (by first | assumption | decide | omega) | refine q_Fr.tr ?_ (by assumption) (by intro k9 hk9; omega))) (by omega)
        · intro b9
          refine r_aload c89_127 rfl rfl ?_
          refine r_geti c89_129 (by first | assumption | omega) (by decide) (by first | assumption | rfl) rfl rfl ?_
          refine r_goto c89_132 ?_
          refine r_iadd c89_136 (by first | exact q_w32_id (by omega) (by omega) | exact q_w32w _ | exact rfl) rfl ?_
          refine r_istore c89_137 (lo' := [(6, _), (5, _), (4, _), (9, _), (8, _), (7, _), (3, _), (0, _), (1, _), (2, _)]) rfl rfl rfl ?_
          refine r_iinc c89_139 rfl (by first | exact q_w32_id (by omega) (by omega) | exact q_w32w _ | exact rfl) (lo' := [(7, _), (6, _), (5, _), (4, _), (9, _), (8, _), (3, _), (0, _), (1, _), (2, _)]) rfl rfl rfl ?_
          refine r_goto c89_142 ?_
          refine q_R.wk (ks := [7, 6, 5, 4, 3, 0, 1, 2]) (lo' := [(7, _), (6, _), (5, _), (4, _), (3, _), (0, _), (1, _), (2, _)]) rfl ?_
          exact ih (by first | omega | exact ⟨q_rg1 _, q_rg2 _⟩) (by repeat (first | exact q_Fr.rf | refine q_Fr.ud ?_ (by omega) (by first | assumption | rfl) rfl | refine q_Fr.udz ?_ (by omega) (by first | assumption | decide | omega) | refine q_Fr.tr ?_ (by assumption) (by intro k9 hk9; omega))) (by omega)

theorem k89 {Γ : q_Γ} (hG : q_GG Γ) {h : q_F} (hZ : q_Bz h) {o1 : Nat} {v2 : Int} (ho1 : q_isT o1) :
    q_M Γ q_K 155 89 [(2, Int.ofNat 125), (2, Int.ofNat o1), (0, v2)] h (fun t w h' => (t = 0 ∧ q_Fr (fun k => 125 ≤ k ∧ k ≤ 134) h h')) := by
  obtain ⟨fo10, fo11, fo12, fo13, fo14, fo15, fo16, fo17, fo18, fo19, fo110⟩ := q_fT ho1
  refine q_M.of (by decide) (Nat.le_of_ble_eq_true rfl) hG ?_
  refine r_iconst c89_0 rfl ?_
  refine r_istore_n c89_1 (lo' := [(3, _), (0, _), (1, _), (2, _)]) rfl rfl rfl ?_
  refine r_iconst c89_2 rfl ?_
  refine r_istore c89_3 (lo' := [(4, _), (3, _), (0, _), (1, _), (2, _)]) rfl rfl rfl ?_
  refine q_R.wk (ks := [4, 3, 0, 1, 2]) (lo' := [(4, _), (3, _), (0, _), (1, _), (2, _)]) rfl ?_
  refine l89_5 (o1 := o1) (v2 := v2) hG hZ ho1 ?_ 4294967298 (by first | omega | exact ⟨q_rg1 _, q_rg2 _⟩) (by repeat (first | exact q_Fr.rf | refine q_Fr.ud ?_ (by omega) (by first | assumption | rfl) rfl | refine q_Fr.udz ?_ (by omega) (by first | assumption | decide | omega) | refine q_Fr.tr ?_ (by assumption) (by intro k9 hk9; omega))) (q_mu (by first | omega | exact ⟨q_rg1 _, q_rg2 _⟩))
  · intro u4_1 u3_1 g1 f1
    refine r_ldc c89_32 rfl rfl ?_
    refine r_istore c89_34 (lo' := [(4, _), (3, _), (0, _), (1, _), (2, _)]) rfl rfl rfl ?_
    refine r_ldc c89_36 rfl rfl ?_
    refine r_istore c89_38 (lo' := [(5, _), (4, _), (3, _), (0, _), (1, _), (2, _)]) rfl rfl rfl ?_
    refine r_iconst c89_40 rfl ?_
    refine r_istore c89_41 (lo' := [(6, _), (5, _), (4, _), (3, _), (0, _), (1, _), (2, _)]) rfl rfl rfl ?_
    refine r_iconst c89_43 rfl ?_
    refine r_istore c89_44 (lo' := [(7, _), (6, _), (5, _), (4, _), (3, _), (0, _), (1, _), (2, _)]) rfl rfl rfl ?_
    refine q_R.wk (ks := [7, 6, 5, 4, 3, 0, 1, 2]) (lo' := [(7, _), (6, _), (5, _), (4, _), (3, _), (0, _), (1, _), (2, _)]) rfl ?_
    refine l89_46 (o1 := o1) (v2 := v2) hG hZ ho1 ?_ 4294967298 (by first | omega | exact ⟨q_rg1 _, q_rg2 _⟩) (by repeat (first | exact q_Fr.rf | refine q_Fr.ud ?_ (by omega) (by first | assumption | rfl) rfl | refine q_Fr.udz ?_ (by omega) (by first | assumption | decide | omega) | refine q_Fr.tr ?_ (by assumption) (by intro k9 hk9; omega))) (q_mu (by first | omega | exact ⟨q_rg1 _, q_rg2 _⟩))
    · intro u7_2 u6_2 u5_2 u4_2 g2 f2
      refine r_aload_n c89_145 rfl rfl ?_
      refine r_getr c89_146 (by first | assumption | omega) (by decide) (by first | assumption | rfl) rfl rfl ?_
      refine r_iload_n c89_149 rfl rfl ?_
      refine r_iload_n c89_150 rfl rfl ?_
      refine r_callG c89_151 (fun _ => rfl) rfl rfl rfl (k174 hG (q_Fr.bz (S := fun k => 125 ≤ k ∧ k ≤ 134) hZ (by repeat (first | exact q_Fr.rf | refine q_Fr.ud ?_ (by omega) (by first | assumption | rfl) rfl | refine q_Fr.udz ?_ (by omega) (by first | assumption | decide | omega) | refine q_Fr.tr ?_ (by assumption) (by intro k9 hk9; omega)))) (by first | assumption | omega) (by first | assumption | rfl) (by first | assumption | decide)) ?_
      intro t3 w3 g3 p3
      obtain ⟨rfl, e3⟩ := p3
      refine Or.inl ⟨rfl, ?_⟩
      refine r_aload_n c89_154 rfl rfl ?_
      refine r_getr c89_155 (by first | assumption | omega) (by decide) (by first | assumption | rfl) rfl rfl ?_
      refine r_iload_n c89_158 rfl rfl ?_
      refine r_iload c89_159 rfl rfl ?_
      refine r_callG c89_161 (fun _ => rfl) rfl rfl rfl (k174 hG (q_Fr.bz (S := fun k => 125 ≤ k ∧ k ≤ 134) hZ (by repeat (first | exact q_Fr.rf | refine q_Fr.ud ?_ (by omega) (by first | assumption | rfl) rfl | refine q_Fr.udz ?_ (by omega) (by first | assumption | decide | omega) | refine q_Fr.tr ?_ (by assumption) (by intro k9 hk9; omega)))) (by first | assumption | omega) (by first | assumption | rfl) (by first | assumption | decide)) ?_
      intro t4 w4 g4 p4
      obtain ⟨rfl, e4⟩ := p4
      refine Or.inl ⟨rfl, ?_⟩
      refine r_aload_n c89_164 rfl rfl ?_
      refine r_getr c89_165 (by first | assumption | omega) (by decide) (by first | assumption | rfl) rfl rfl ?_
      refine r_iload_n c89_168 rfl rfl ?_
      refine r_iload c89_169 rfl rfl ?_
      refine r_callG c89_171 (fun _ => rfl) rfl rfl rfl (k174 hG (q_Fr.bz (S := fun k => 125 ≤ k ∧ k ≤ 134) hZ (by repeat (first | exact q_Fr.rf | refine q_Fr.ud ?_ (by omega) (by first | assumption | rfl) rfl | refine q_Fr.udz ?_ (by omega) (by first | assumption | decide | omega) | refine q_Fr.tr ?_ (by assumption) (by intro k9 hk9; omega)))) (by first | assumption | omega) (by first | assumption | rfl) (by first | assumption | decide)) ?_
      intro t5 w5 g5 p5
      obtain ⟨rfl, e5⟩ := p5
      refine Or.inl ⟨rfl, ?_⟩
      refine r_aload_n c89_174 rfl rfl ?_
      refine r_getr c89_175 (by first | assumption | omega) (by decide) (by first | assumption | rfl) rfl rfl ?_
      refine r_iload_n c89_178 rfl rfl ?_
      refine r_aload_n c89_179 rfl rfl ?_
      refine r_getz (q_Fr.bz (S := fun k => 125 ≤ k ∧ k ≤ 134) hZ (by repeat (first | exact q_Fr.rf | refine q_Fr.ud ?_ (by omega) (by first | assumption | rfl) rfl | refine q_Fr.udz ?_ (by omega) (by first | assumption | decide | omega) | refine q_Fr.tr ?_ (by assumption) (by intro k9 hk9; omega)))) c89_180 (by first | assumption | omega) (by decide) (by first | assumption | rfl) rfl rfl rfl ?_
      intro z6
      refine r_if_eq c89_183 rfl (by first | exact q_w32_id (by omega) (by omega) | exact q_w32w _ | exact rfl) ?_ ?_
      · intro b7
        refine r_iconst c89_191 rfl ?_
        refine r_callG c89_192 (fun _ => rfl) rfl rfl rfl (k174 hG (q_Fr.bz (S := fun k => 125 ≤ k ∧ k ≤ 134) hZ (by repeat (first | exact q_Fr.rf | refine q_Fr.ud ?_ (by omega) (by first | assumption | rfl) rfl | refine q_Fr.udz ?_ (by omega) (by first | assumption | decide | omega) | refine q_Fr.tr ?_ (by assumption) (by intro k9 hk9; omega)))) (by first | assumption | omega) (by first | assumption | rfl) (by first | assumption | decide)) ?_
        intro t8 w8 g8 p8
        obtain ⟨rfl, e8⟩ := p8
        refine Or.inl ⟨rfl, ?_⟩
        exact r_vret c89_195 ⟨rfl, rfl, rfl⟩ ⟨rfl, (by repeat (first | exact q_Fr.rf | refine q_Fr.ud ?_ (by omega) (by first | assumption | rfl) rfl | refine q_Fr.udz ?_ (by omega) (by first | assumption | decide | omega) | refine q_Fr.tr ?_ (by assumption) (by intro k9 hk9; omega)))⟩
      · intro b7
        refine r_iload c89_186 rfl rfl ?_
        refine r_goto c89_188 ?_
        refine r_callG c89_192 (fun _ => rfl) rfl rfl rfl (k174 hG (q_Fr.bz (S := fun k => 125 ≤ k ∧ k ≤ 134) hZ (by repeat (first | exact q_Fr.rf | refine q_Fr.ud ?_ (by omega) (by first | assumption | rfl) rfl | refine q_Fr.udz ?_ (by omega) (by first | assumption | decide | omega) | refine q_Fr.tr ?_ (by assumption) (by intro k9 hk9; omega)))) (by first | assumption | omega) (by first | assumption | rfl) (by first | assumption | decide)) ?_
        intro t9 w9 g9 p9
        obtain ⟨rfl, e9⟩ := p9
        refine Or.inl ⟨rfl, ?_⟩
        exact r_vret c89_195 ⟨rfl, rfl, rfl⟩ ⟨rfl, (by repeat (first | exact q_Fr.rf | refine q_Fr.ud ?_ (by omega) (by first | assumption | rfl) rfl | refine q_Fr.udz ?_ (by omega) (by first | assumption | decide | omega) | refine q_Fr.tr ?_ (by assumption) (by intro k9 hk9; omega)))⟩
theorem c74_0 : q_cat 74 0 (.iload_n 1) 1 1 0 (0) := ⟨rfl, rfl⟩
theorem c74_1 : q_cat 74 1 (.iconst 1) 1 0 0 (0) := ⟨rfl, rfl⟩
theorem c74_2 : q_cat 74 2 (.iadd) 1 0 0 (0) := ⟨rfl, rfl⟩
theorem c74_3 : q_cat 74 3 (.aload_n 0) 1 0 0 (0) := ⟨rfl, rfl⟩
theorem c74_4 : q_cat 74 4 (.getfield 45) 3 4 9 (0) := ⟨rfl, rfl⟩
theorem c74_7 : q_cat 74 7 (.if_icmp .ge 7) 3 14 0 (0) := ⟨rfl, rfl⟩
theorem c74_10 : q_cat 74 10 (.iconst 1) 1 0 0 (0) := ⟨rfl, rfl⟩
theorem c74_11 : q_cat 74 11 (.goto 4) 3 15 0 (0) := ⟨rfl, rfl⟩
theorem c74_14 : q_cat 74 14 (.iconst 0) 1 0 0 (0) := ⟨rfl, rfl⟩
theorem c74_15 : q_cat 74 15 (.istore_n 2) 1 2 0 (0) := ⟨rfl, rfl⟩
theorem c74_16 : q_cat 74 16 (.iconst 0) 1 0 0 (0) := ⟨rfl, rfl⟩
theorem c74_17 : q_cat 74 17 (.istore_n 3) 1 3 0 (0) := ⟨rfl, rfl⟩
theorem c74_18 : q_cat 74 18 (.iload_n 3) 1 3 0 (0) := ⟨rfl, rfl⟩
theorem c74_19 : q_cat 74 19 (.iconst 3) 1 0 0 (0) := ⟨rfl, rfl⟩
theorem c74_20 : q_cat 74 20 (.if_icmp .ge 50) 3 70 0 (0) := ⟨rfl, rfl⟩
theorem c74_23 : q_cat 74 23 (.iload_n 2) 1 2 0 (0) := ⟨rfl, rfl⟩
theorem c74_24 : q_cat 74 24 (.ifCond .eq 38) 3 62 0 (0) := ⟨rfl, rfl⟩
theorem c74_27 : q_cat 74 27 (.aload_n 0) 1 0 0 (0) := ⟨rfl, rfl⟩
theorem c74_28 : q_cat 74 28 (.iload_n 1) 1 1 0 (0) := ⟨rfl, rfl⟩
theorem c74_29 : q_cat 74 29 (.iload_n 3) 1 3 0 (0) := ⟨rfl, rfl⟩
theorem c74_30 : q_cat 74 30 (.invokevirtual 98) 3 73 0 (0) := ⟨rfl, rfl⟩
theorem c74_33 : q_cat 74 33 (.aload_n 0) 1 0 0 (0) := ⟨rfl, rfl⟩
theorem c74_34 : q_cat 74 34 (.iload_n 1) 1 1 0 (0) := ⟨rfl, rfl⟩
theorem c74_35 : q_cat 74 35 (.iconst 1) 1 0 0 (0) := ⟨rfl, rfl⟩
theorem c74_36 : q_cat 74 36 (.iadd) 1 0 0 (0) := ⟨rfl, rfl⟩
theorem c74_37 : q_cat 74 37 (.invokevirtual 135) 3 79 0 (0) := ⟨rfl, rfl⟩
theorem c74_40 : q_cat 74 40 (.imul) 1 0 0 (0) := ⟨rfl, rfl⟩
theorem c74_41 : q_cat 74 41 (.aload_n 0) 1 0 0 (0) := ⟨rfl, rfl⟩
theorem c74_42 : q_cat 74 42 (.iload_n 1) 1 1 0 (0) := ⟨rfl, rfl⟩
theorem c74_43 : q_cat 74 43 (.iconst 1) 1 0 0 (0) := ⟨rfl, rfl⟩
theorem c74_44 : q_cat 74 44 (.iadd) 1 0 0 (0) := ⟨rfl, rfl⟩
theorem c74_45 : q_cat 74 45 (.iload_n 3) 1 3 0 (0) := ⟨rfl, rfl⟩
theorem c74_46 : q_cat 74 46 (.invokevirtual 98) 3 73 0 (0) := ⟨rfl, rfl⟩
theorem c74_49 : q_cat 74 49 (.aload_n 0) 1 0 0 (0) := ⟨rfl, rfl⟩
theorem c74_50 : q_cat 74 50 (.iload_n 1) 1 1 0 (0) := ⟨rfl, rfl⟩
theorem c74_51 : q_cat 74 51 (.invokevirtual 135) 3 79 0 (0) := ⟨rfl, rfl⟩
theorem c74_54 : q_cat 74 54 (.imul) 1 0 0 (0) := ⟨rfl, rfl⟩
theorem c74_55 : q_cat 74 55 (.if_icmp .ne 7) 3 62 0 (0) := ⟨rfl, rfl⟩
theorem c74_58 : q_cat 74 58 (.iconst 1) 1 0 0 (0) := ⟨rfl, rfl⟩
theorem c74_59 : q_cat 74 59 (.goto 4) 3 63 0 (0) := ⟨rfl, rfl⟩
theorem c74_62 : q_cat 74 62 (.iconst 0) 1 0 0 (0) := ⟨rfl, rfl⟩
theorem c74_63 : q_cat 74 63 (.istore_n 2) 1 2 0 (0) := ⟨rfl, rfl⟩
theorem c74_64 : q_cat 74 64 (.iinc 3 1) 3 3 0 (0) := ⟨rfl, rfl⟩
theorem c74_67 : q_cat 74 67 (.goto (-49)) 3 18 0 (0) := ⟨rfl, rfl⟩
theorem c74_70 : q_cat 74 70 (.iload_n 2) 1 2 0 (0) := ⟨rfl, rfl⟩
theorem c74_71 : q_cat 74 71 (.ireturn) 1 0 0 (0) := ⟨rfl, rfl⟩
theorem l74_18 {Γ : q_Γ} (hG : q_GG Γ) {h0 : q_F} (hZ : q_Bz h0) {v1 : Int} {u1 : Int} 
    (hx70 : ∀ {u3 u2 : Int} {h : q_F}, h = h0 → (u2 = 0 ∨ u2 = 1) → q_R Γ q_K 155 74 (fun t w h' => (t = 1 ∧ (∃ z, w = ((0, z) : q_V) ∧ (z = 0 ∨ z = 1)) ∧ h' = h0)) (70, [(3, (0, u3)), (2, (0, u2)), (0, (2, Int.ofNat 125)), (1, (0, u1))], [], q_hp q_K 155 h, [], 0, 0))
    : ∀ (m : Nat) {u3 u2 : Int} {h : q_F}, (-2147483648 ≤ u3 ∧ u3 < 2147483648) → h = h0 → 2147483648 - u3 < (m : Int) → (u2 = 0 ∨ u2 = 1) → q_R Γ q_K 155 74 (fun t w h' => (t = 1 ∧ (∃ z, w = ((0, z) : q_V) ∧ (z = 0 ∨ z = 1)) ∧ h' = h0)) (18, [(3, (0, u3)), (2, (0, u2)), (0, (2, Int.ofNat 125)), (1, (0, u1))], [], q_hp q_K 155 h, [], 0, 0)   := by
  intro m
  induction m with
  | zero =>
    intro u3 u2 h hinv hf hmu bz2
    exact absurd hmu (by omega)
  | succ m ih =>
    intro u3 u2 h hinv hf hmu bz2
    subst hf
    refine r_iload_n c74_18 rfl rfl ?_
    refine r_iconst c74_19 rfl ?_
    refine r_ic_ge c74_20 rfl (by first | exact q_w32_id (by omega) (by omega) | exact q_w32w _ | exact rfl) (show q_w32 (3) = 3 from rfl) ?_ ?_
    · intro b2
      refine q_R.wk (ks := [3, 2, 0, 1]) (lo' := [(3, _), (2, _), (0, _), (1, _)]) rfl ?_
      exact hx70 rfl (by first | assumption | decide | omega)
    · intro b2
      refine r_iload_n c74_23 rfl rfl ?_
      refine r_if_eq c74_24 rfl (by first | exact q_w32_id (by omega) (by omega) | exact q_w32w _ | exact rfl) ?_ ?_
      · intro b3
        refine r_iconst c74_62 rfl ?_
        refine r_istore_n c74_63 (lo' := [(2, _), (3, _), (0, _), (1, _)]) rfl rfl rfl ?_
        refine r_iinc c74_64 rfl (by first | exact q_w32_id (by omega) (by omega) | exact q_w32w _ | exact rfl) (lo' := [(3, _), (2, _), (0, _), (1, _)]) rfl rfl rfl ?_
        refine r_goto c74_67 ?_
        refine q_R.wk (ks := [3, 2, 0, 1]) (lo' := [(3, _), (2, _), (0, _), (1, _)]) rfl ?_
        exact ih (by first | omega | exact ⟨q_rg1 _, q_rg2 _⟩) rfl (by omega) (by first | assumption | decide | omega)
      · intro b3
        refine r_aload_n c74_27 rfl rfl ?_
        refine r_iload_n c74_28 rfl rfl ?_
        refine r_iload_n c74_29 rfl rfl ?_
        refine r_vcG c74_30 (by first | assumption | omega) (by decide) (by first | assumption | rfl) rfl rfl rfl (k73 hG hZ) ?_
        intro t4 w4 g4 p4
        obtain ⟨rfl, ⟨z4, rfl⟩, rfl⟩ := p4
        refine Or.inr (Or.inl ⟨rfl, ?_⟩)
        refine r_aload_n c74_33 rfl rfl ?_
        refine r_iload_n c74_34 rfl rfl ?_
        refine r_iconst c74_35 rfl ?_
        refine r_iadd c74_36 (by first | exact q_w32_id (by omega) (by omega) | exact q_w32w _ | exact rfl) rfl ?_
        refine r_vcG c74_37 (by first | assumption | omega) (by decide) (by first | assumption | rfl) rfl rfl rfl (k79 hG hZ) ?_
        intro t5 w5 g5 p5
        obtain ⟨rfl, ⟨z5, rfl⟩, rfl⟩ := p5
        refine Or.inr (Or.inl ⟨rfl, ?_⟩)
        refine r_imul c74_40 (by first | exact q_w32_id (by omega) (by omega) | exact q_w32w _ | exact rfl) rfl ?_
        refine r_aload_n c74_41 rfl rfl ?_
        refine r_iload_n c74_42 rfl rfl ?_
        refine r_iconst c74_43 rfl ?_
        refine r_iadd c74_44 (by first | exact q_w32_id (by omega) (by omega) | exact q_w32w _ | exact rfl) rfl ?_
        refine r_iload_n c74_45 rfl rfl ?_
        refine r_vcG c74_46 (by first | assumption | omega) (by decide) (by first | assumption | rfl) rfl rfl rfl (k73 hG hZ) ?_
        intro t6 w6 g6 p6
        obtain ⟨rfl, ⟨z6, rfl⟩, rfl⟩ := p6
        refine Or.inr (Or.inl ⟨rfl, ?_⟩)
        refine r_aload_n c74_49 rfl rfl ?_
        refine r_iload_n c74_50 rfl rfl ?_
        refine r_vcG c74_51 (by first | assumption | omega) (by decide) (by first | assumption | rfl) rfl rfl rfl (k79 hG hZ) ?_
        intro t7 w7 g7 p7
        obtain ⟨rfl, ⟨z7, rfl⟩, rfl⟩ := p7
        refine Or.inr (Or.inl ⟨rfl, ?_⟩)
        refine r_imul c74_54 (by first | exact q_w32_id (by omega) (by omega) | exact q_w32w _ | exact rfl) rfl ?_
        refine r_ic_ne c74_55 rfl (by first | exact q_w32_id (by omega) (by omega) | exact q_w32w _ | exact rfl) (by first | exact q_w32_id (by omega) (by omega) | exact q_w32w _ | exact rfl) ?_ ?_
        · intro b8
          refine r_iconst c74_62 rfl ?_
          refine r_istore_n c74_63 (lo' := [(2, _), (3, _), (0, _), (1, _)]) rfl rfl rfl ?_
          refine r_iinc c74_64 rfl (by first | exact q_w32_id (by omega) (by omega) | exact q_w32w _ | exact rfl) (lo' := [(3, _), (2, _), (0, _), (1, _)]) rfl rfl rfl ?_
          refine r_goto c74_67 ?_
          refine q_R.wk (ks := [3, 2, 0, 1]) (lo' := [(3, _), (2, _), (0, _), (1, _)]) rfl ?_
          exact ih (by first | omega | exact ⟨q_rg1 _, q_rg2 _⟩) rfl (by omega) (by first | assumption | decide | omega)
        · intro b8
          refine r_iconst c74_58 rfl ?_
          refine r_goto c74_59 ?_
          refine r_istore_n c74_63 (lo' := [(2, _), (3, _), (0, _), (1, _)]) rfl rfl rfl ?_
          refine r_iinc c74_64 rfl (by first | exact q_w32_id (by omega) (by omega) | exact q_w32w _ | exact rfl) (lo' := [(3, _), (2, _), (0, _), (1, _)]) rfl rfl rfl ?_
          refine r_goto c74_67 ?_
          refine q_R.wk (ks := [3, 2, 0, 1]) (lo' := [(3, _), (2, _), (0, _), (1, _)]) rfl ?_
          exact ih (by first | omega | exact ⟨q_rg1 _, q_rg2 _⟩) rfl (by omega) (by first | assumption | decide | omega)

theorem k74 {Γ : q_Γ} (hG : q_GG Γ) {h : q_F} (hZ : q_Bz h) {v1 : Int}  :
    q_M Γ q_K 155 74 [(2, Int.ofNat 125), (0, v1)] h (fun t w h' => (t = 1 ∧ (∃ z, w = ((0, z) : q_V) ∧ (z = 0 ∨ z = 1)) ∧ h' = h)) := by
  refine q_M.of (by decide) (Nat.le_of_ble_eq_true rfl) hG ?_
  refine r_iload_n c74_0 rfl rfl ?_
  refine r_iconst c74_1 rfl ?_
  refine r_iadd c74_2 (by first | exact q_w32_id (by omega) (by omega) | exact q_w32w _ | exact rfl) rfl ?_
  refine r_aload_n c74_3 rfl rfl ?_
  refine r_geti c74_4 (by first | assumption | omega) (by decide) (by first | assumption | rfl) rfl rfl ?_
  refine r_ic_ge c74_7 rfl (by first | exact q_w32_id (by omega) (by omega) | exact q_w32w _ | exact rfl) (by first | exact q_w32_id (by omega) (by omega) | exact q_w32w _ | exact rfl) ?_ ?_
  · intro b1
    refine r_iconst c74_14 rfl ?_
    refine r_istore_n c74_15 (lo' := [(2, _), (0, _), (1, _)]) rfl rfl rfl ?_
    refine r_iconst c74_16 rfl ?_
    refine r_istore_n c74_17 (lo' := [(3, _), (2, _), (0, _), (1, _)]) rfl rfl rfl ?_
    refine q_R.wk (ks := [3, 2, 0, 1]) (lo' := [(3, _), (2, _), (0, _), (1, _)]) rfl ?_
    refine l74_18 (v1 := v1) hG hZ  ?_ 4294967298 (by first | omega | exact ⟨q_rg1 _, q_rg2 _⟩) rfl (q_mu (by first | omega | exact ⟨q_rg1 _, q_rg2 _⟩)) (by first | assumption | decide | omega)
    · intro u3_2 u2_2 g2 f2 z2_2
      subst f2
      refine r_iload_n c74_70 rfl rfl ?_
      exact r_zret c74_71 ⟨rfl, rfl, rfl⟩ (by first | assumption | omega) ⟨rfl, ⟨_, rfl, (by first | assumption | omega)⟩, rfl⟩
  · intro b1
    refine r_iconst c74_10 rfl ?_
    refine r_goto c74_11 ?_
    refine r_istore_n c74_15 (lo' := [(2, _), (0, _), (1, _)]) rfl rfl rfl ?_
    refine r_iconst c74_16 rfl ?_
    refine r_istore_n c74_17 (lo' := [(3, _), (2, _), (0, _), (1, _)]) rfl rfl rfl ?_
    refine q_R.wk (ks := [3, 2, 0, 1]) (lo' := [(3, _), (2, _), (0, _), (1, _)]) rfl ?_
    refine l74_18 (v1 := v1) hG hZ  ?_ 4294967298 (by first | omega | exact ⟨q_rg1 _, q_rg2 _⟩) rfl (q_mu (by first | omega | exact ⟨q_rg1 _, q_rg2 _⟩)) (by first | assumption | decide | omega)
    · intro u3_3 u2_3 g3 f3 z2_3
      subst f3
      refine r_iload_n c74_70 rfl rfl ?_
      exact r_zret c74_71 ⟨rfl, rfl, rfl⟩ (by first | assumption | omega) ⟨rfl, ⟨_, rfl, (by first | assumption | omega)⟩, rfl⟩
theorem c82_0 : q_cat 82 0 (.aload_n 0) 1 0 0 (0) := ⟨rfl, rfl⟩
theorem c82_1 : q_cat 82 1 (.iload_n 1) 1 1 0 (0) := ⟨rfl, rfl⟩
theorem c82_2 : q_cat 82 2 (.invokevirtual 131) 3 74 0 (0) := ⟨rfl, rfl⟩
theorem c82_5 : q_cat 82 5 (.istore_n 2) 1 2 0 (0) := ⟨rfl, rfl⟩
theorem c82_6 : q_cat 82 6 (.aload_n 0) 1 0 0 (0) := ⟨rfl, rfl⟩
theorem c82_7 : q_cat 82 7 (.getfield 24) 3 4 4 (3) := ⟨rfl, rfl⟩
theorem c82_10 : q_cat 82 10 (.iload_n 1) 1 1 0 (0) := ⟨rfl, rfl⟩
theorem c82_11 : q_cat 82 11 (.invokestatic 63) 3 175 3 (0) := ⟨rfl, rfl⟩
theorem c82_14 : q_cat 82 14 (.istore_n 3) 1 3 0 (0) := ⟨rfl, rfl⟩
theorem c82_15 : q_cat 82 15 (.iload_n 1) 1 1 0 (0) := ⟨rfl, rfl⟩
theorem c82_16 : q_cat 82 16 (.iconst 1) 1 0 0 (0) := ⟨rfl, rfl⟩
theorem c82_17 : q_cat 82 17 (.iadd) 1 0 0 (0) := ⟨rfl, rfl⟩
theorem c82_18 : q_cat 82 18 (.aload_n 0) 1 0 0 (0) := ⟨rfl, rfl⟩
theorem c82_19 : q_cat 82 19 (.getfield 45) 3 4 9 (0) := ⟨rfl, rfl⟩
theorem c82_22 : q_cat 82 22 (.if_icmp .ge 18) 3 40 0 (0) := ⟨rfl, rfl⟩
theorem c82_25 : q_cat 82 25 (.iload_n 3) 1 3 0 (0) := ⟨rfl, rfl⟩
theorem c82_26 : q_cat 82 26 (.aload_n 0) 1 0 0 (0) := ⟨rfl, rfl⟩
theorem c82_27 : q_cat 82 27 (.getfield 24) 3 4 4 (3) := ⟨rfl, rfl⟩
theorem c82_30 : q_cat 82 30 (.iload_n 1) 1 1 0 (0) := ⟨rfl, rfl⟩
theorem c82_31 : q_cat 82 31 (.iconst 1) 1 0 0 (0) := ⟨rfl, rfl⟩
theorem c82_32 : q_cat 82 32 (.iadd) 1 0 0 (0) := ⟨rfl, rfl⟩
theorem c82_33 : q_cat 82 33 (.invokestatic 63) 3 175 3 (0) := ⟨rfl, rfl⟩
theorem c82_36 : q_cat 82 36 (.invokestatic 67) 3 0 7 (0) := ⟨rfl, rfl⟩
theorem c82_39 : q_cat 82 39 (.istore_n 3) 1 3 0 (0) := ⟨rfl, rfl⟩
theorem c82_40 : q_cat 82 40 (.aload_n 0) 1 0 0 (0) := ⟨rfl, rfl⟩
theorem c82_41 : q_cat 82 41 (.getfield 30) 3 4 6 (3) := ⟨rfl, rfl⟩
theorem c82_44 : q_cat 82 44 (.iload_n 1) 1 1 0 (0) := ⟨rfl, rfl⟩
theorem c82_45 : q_cat 82 45 (.iload_n 2) 1 2 0 (0) := ⟨rfl, rfl⟩
theorem c82_46 : q_cat 82 46 (.ifCond .eq 7) 3 53 0 (0) := ⟨rfl, rfl⟩
theorem c82_49 : q_cat 82 49 (.iconst 1) 1 0 0 (0) := ⟨rfl, rfl⟩
theorem c82_50 : q_cat 82 50 (.goto 4) 3 54 0 (0) := ⟨rfl, rfl⟩
theorem c82_53 : q_cat 82 53 (.iconst 0) 1 0 0 (0) := ⟨rfl, rfl⟩
theorem c82_54 : q_cat 82 54 (.invokestatic 73) 3 174 3 (0) := ⟨rfl, rfl⟩
theorem c82_57 : q_cat 82 57 (.aload_n 0) 1 0 0 (0) := ⟨rfl, rfl⟩
theorem c82_58 : q_cat 82 58 (.getfield 36) 3 4 8 (3) := ⟨rfl, rfl⟩
theorem c82_61 : q_cat 82 61 (.iload_n 1) 1 1 0 (0) := ⟨rfl, rfl⟩
theorem c82_62 : q_cat 82 62 (.iconst 1) 1 0 0 (0) := ⟨rfl, rfl⟩
theorem c82_63 : q_cat 82 63 (.iadd) 1 0 0 (0) := ⟨rfl, rfl⟩
theorem c82_64 : q_cat 82 64 (.iload_n 2) 1 2 0 (0) := ⟨rfl, rfl⟩
theorem c82_65 : q_cat 82 65 (.ifCond .eq 7) 3 72 0 (0) := ⟨rfl, rfl⟩
theorem c82_68 : q_cat 82 68 (.iload_n 3) 1 3 0 (0) := ⟨rfl, rfl⟩
theorem c82_69 : q_cat 82 69 (.goto 11) 3 80 0 (0) := ⟨rfl, rfl⟩
theorem c82_72 : q_cat 82 72 (.iload_n 3) 1 3 0 (0) := ⟨rfl, rfl⟩
theorem c82_73 : q_cat 82 73 (.aload_n 0) 1 0 0 (0) := ⟨rfl, rfl⟩
theorem c82_74 : q_cat 82 74 (.getfield 46) 3 4 10 (0) := ⟨rfl, rfl⟩
theorem c82_77 : q_cat 82 77 (.invokestatic 67) 3 0 7 (0) := ⟨rfl, rfl⟩
theorem c82_80 : q_cat 82 80 (.invokestatic 73) 3 174 3 (0) := ⟨rfl, rfl⟩
theorem c82_83 : q_cat 82 83 (.return_) 1 0 0 (0) := ⟨rfl, rfl⟩
theorem k82 {Γ : q_Γ} (hG : q_GG Γ) {h : q_F} (hZ : q_Bz h) {v1 : Int}  :
    q_M Γ q_K 155 82 [(2, Int.ofNat 125), (0, v1)] h (fun t w h' => (t = 0 ∧ q_Fr (fun k => 125 ≤ k ∧ k ≤ 134) h h')) := by
  refine q_M.of (by decide) (Nat.le_of_ble_eq_true rfl) hG ?_
  refine r_aload_n c82_0 rfl rfl ?_
  refine r_iload_n c82_1 rfl rfl ?_
  refine r_vcG c82_2 (by first | assumption | omega) (by decide) (by first | assumption | rfl) rfl rfl rfl (k74 hG (q_Fr.bz (S := fun k => 125 ≤ k ∧ k ≤ 134) hZ (by repeat (first | exact q_Fr.rf | refine q_Fr.ud ?_ (by omega) (by first | assumption | rfl) rfl | refine q_Fr.udz ?_ (by omega) (by first | assumption | decide | omega) | refine q_Fr.tr ?_ (by assumption) (by intro k9 hk9; omega))))) ?_
  intro t1 w1 g1 p1
  obtain ⟨rfl, ⟨z1, rfl, hz1⟩, rfl⟩ := p1
  refine Or.inr (Or.inl ⟨rfl, ?_⟩)
  refine r_istore_n c82_5 (lo' := [(2, _), (0, _), (1, _)]) rfl rfl rfl ?_
  refine r_aload_n c82_6 rfl rfl ?_
  refine r_getr c82_7 (by first | assumption | omega) (by decide) (by first | assumption | rfl) rfl rfl ?_
  refine r_iload_n c82_10 rfl rfl ?_
  refine r_callG c82_11 (fun _ => rfl) rfl rfl rfl (k175 hG (q_Fr.bz (S := fun k => 125 ≤ k ∧ k ≤ 134) hZ (by repeat (first | exact q_Fr.rf | refine q_Fr.ud ?_ (by omega) (by first | assumption | rfl) rfl | refine q_Fr.udz ?_ (by omega) (by first | assumption | decide | omega) | refine q_Fr.tr ?_ (by assumption) (by intro k9 hk9; omega)))) (by first | assumption | omega) (by first | assumption | rfl) (by first | assumption | decide)) ?_
  intro t2 w2 g2 p2
  obtain ⟨rfl, ⟨z2, rfl⟩, rfl⟩ := p2
  refine Or.inr (Or.inl ⟨rfl, ?_⟩)
  refine r_istore_n c82_14 (lo' := [(3, _), (2, _), (0, _), (1, _)]) rfl rfl rfl ?_
  refine r_iload_n c82_15 rfl rfl ?_
  refine r_iconst c82_16 rfl ?_
  refine r_iadd c82_17 (by first | exact q_w32_id (by omega) (by omega) | exact q_w32w _ | exact rfl) rfl ?_
  refine r_aload_n c82_18 rfl rfl ?_
  refine r_geti c82_19 (by first | assumption | omega) (by decide) (by first | assumption | rfl) rfl rfl ?_
  refine r_ic_ge c82_22 rfl (by first | exact q_w32_id (by omega) (by omega) | exact q_w32w _ | exact rfl) (by first | exact q_w32_id (by omega) (by omega) | exact q_w32w _ | exact rfl) ?_ ?_
  · intro b3
    refine r_aload_n c82_40 rfl rfl ?_
    refine r_getr c82_41 (by first | assumption | omega) (by decide) (by first | assumption | rfl) rfl rfl ?_
    refine r_iload_n c82_44 rfl rfl ?_
    refine r_iload_n c82_45 rfl rfl ?_
    refine r_if_eq c82_46 rfl (by first | exact q_w32_id (by omega) (by omega) | exact q_w32w _ | exact rfl) ?_ ?_
    · intro b4
      refine r_iconst c82_53 rfl ?_
      refine r_callG c82_54 (fun _ => rfl) rfl rfl rfl (k174 hG (q_Fr.bz (S := fun k => 125 ≤ k ∧ k ≤ 134) hZ (by repeat (first | exact q_Fr.rf | refine q_Fr.ud ?_ (by omega) (by first | assumption | rfl) rfl | refine q_Fr.udz ?_ (by omega) (by first | assumption | decide | omega) | refine q_Fr.tr ?_ (by assumption) (by intro k9 hk9; omega)))) (by first | assumption | omega) (by first | assumption | rfl) (by first | assumption | decide)) ?_
      intro t5 w5 g5 p5
      obtain ⟨rfl, e5⟩ := p5
      refine Or.inl ⟨rfl, ?_⟩
      refine r_aload_n c82_57 rfl rfl ?_
      refine r_getr c82_58 (by first | assumption | omega) (by decide) (by first | assumption | rfl) rfl rfl ?_
      refine r_iload_n c82_61 rfl rfl ?_
      refine r_iconst c82_62 rfl ?_
      refine r_iadd c82_63 (by first | exact q_w32_id (by omega) (by omega) | exact q_w32w _ | exact rfl) rfl ?_
      refine r_iload_n c82_64 rfl rfl ?_
      refine r_if_eq c82_65 rfl (by first | exact q_w32_id (by omega) (by omega) | exact q_w32w _ | exact rfl) ?_ ?_
      · intro b6
        refine r_iload_n c82_72 rfl rfl ?_
        refine r_aload_n c82_73 rfl rfl ?_
        refine r_geti c82_74 (by first | assumption | omega) (by decide) (by first | assumption | rfl) rfl rfl ?_
        refine r_min c82_77 rfl rfl ?_
        refine r_callG c82_80 (fun _ => rfl) rfl rfl rfl (k174 hG (q_Fr.bz (S := fun k => 125 ≤ k ∧ k ≤ 134) hZ (by repeat (first | exact q_Fr.rf | refine q_Fr.ud ?_ (by omega) (by first | assumption | rfl) rfl | refine q_Fr.udz ?_ (by omega) (by first | assumption | decide | omega) | refine q_Fr.tr ?_ (by assumption) (by intro k9 hk9; omega)))) (by first | assumption | omega) (by first | assumption | rfl) (by first | assumption | decide)) ?_
        intro t7 w7 g7 p7
        obtain ⟨rfl, e7⟩ := p7
        refine Or.inl ⟨rfl, ?_⟩
        exact r_vret c82_83 ⟨rfl, rfl, rfl⟩ ⟨rfl, (by repeat (first | exact q_Fr.rf | refine q_Fr.ud ?_ (by omega) (by first | assumption | rfl) rfl | refine q_Fr.udz ?_ (by omega) (by first | assumption | decide | omega) | refine q_Fr.tr ?_ (by assumption) (by intro k9 hk9; omega)))⟩
      · intro b6
        refine r_iload_n c82_68 rfl rfl ?_
        refine r_goto c82_69 ?_
        refine r_callG c82_80 (fun _ => rfl) rfl rfl rfl (k174 hG (q_Fr.bz (S := fun k => 125 ≤ k ∧ k ≤ 134) hZ (by repeat (first | exact q_Fr.rf | refine q_Fr.ud ?_ (by omega) (by first | assumption | rfl) rfl | refine q_Fr.udz ?_ (by omega) (by first | assumption | decide | omega) | refine q_Fr.tr ?_ (by assumption) (by intro k9 hk9; omega)))) (by first | assumption | omega) (by first | assumption | rfl) (by first | assumption | decide)) ?_
        intro t8 w8 g8 p8
        obtain ⟨rfl, e8⟩ := p8
        refine Or.inl ⟨rfl, ?_⟩
        exact r_vret c82_83 ⟨rfl, rfl, rfl⟩ ⟨rfl, (by repeat (first | exact q_Fr.rf | refine q_Fr.ud ?_ (by omega) (by first | assumption | rfl) rfl | refine q_Fr.udz ?_ (by omega) (by first | assumption | decide | omega) | refine q_Fr.tr ?_ (by assumption) (by intro k9 hk9; omega)))⟩
    · intro b4
      refine r_iconst c82_49 rfl ?_
      refine r_goto c82_50 ?_
      refine r_callG c82_54 (fun _ => rfl) rfl rfl rfl (k174 hG (q_Fr.bz (S := fun k => 125 ≤ k ∧ k ≤ 134) hZ (by repeat (first | exact q_Fr.rf | refine q_Fr.ud ?_ (by omega) (by first | assumption | rfl) rfl | refine q_Fr.udz ?_ (by omega) (by first | assumption | decide | omega) | refine q_Fr.tr ?_ (by assumption) (by intro k9 hk9; omega)))) (by first | assumption | omega) (by first | assumption | rfl) (by first | assumption | decide)) ?_
      intro t9 w9 g9 p9
      obtain ⟨rfl, e9⟩ := p9
      refine Or.inl ⟨rfl, ?_⟩
      refine r_aload_n c82_57 rfl rfl ?_
      refine r_getr c82_58 (by first | assumption | omega) (by decide) (by first | assumption | rfl) rfl rfl ?_
      refine r_iload_n c82_61 rfl rfl ?_
      refine r_iconst c82_62 rfl ?_
      refine r_iadd c82_63 (by first | exact q_w32_id (by omega) (by omega) | exact q_w32w _ | exact rfl) rfl ?_
      refine r_iload_n c82_64 rfl rfl ?_
      refine r_if_eq c82_65 rfl (by first | exact q_w32_id (by omega) (by omega) | exact q_w32w _ | exact rfl) ?_ ?_
      · intro b10
        refine r_iload_n c82_72 rfl rfl ?_
        refine r_aload_n c82_73 rfl rfl ?_
        refine r_geti c82_74 (by first | assumption | omega) (by decide) (by first | assumption | rfl) rfl rfl ?_
        refine r_min c82_77 rfl rfl ?_
        refine r_callG c82_80 (fun _ => rfl) rfl rfl rfl (k174 hG (q_Fr.bz (S := fun k => 125 ≤ k ∧ k ≤ 134) hZ (by repeat (first | exact q_Fr.rf | refine q_Fr.ud ?_ (by omega) (by first | assumption | rfl) rfl | refine q_Fr.udz ?_ (by omega) (by first | assumption | decide | omega) | refine q_Fr.tr ?_ (by assumption) (by intro k9 hk9; omega)))) (by first | assumption | omega) (by first | assumption | rfl) (by first | assumption | decide)) ?_
        intro t11 w11 g11 p11
        obtain ⟨rfl, e11⟩ := p11
        refine Or.inl ⟨rfl, ?_⟩
        exact r_vret c82_83 ⟨rfl, rfl, rfl⟩ ⟨rfl, (by repeat (first | exact q_Fr.rf | refine q_Fr.ud ?_ (by omega) (by first | assumption | rfl) rfl | refine q_Fr.udz ?_ (by omega) (by first | assumption | decide | omega) | refine q_Fr.tr ?_ (by assumption) (by intro k9 hk9; omega)))⟩
      · intro b10
        refine r_iload_n c82_68 rfl rfl ?_
        refine r_goto c82_69 ?_
        refine r_callG c82_80 (fun _ => rfl) rfl rfl rfl (k174 hG (q_Fr.bz (S := fun k => 125 ≤ k ∧ k ≤ 134) hZ (by repeat (first | exact q_Fr.rf | refine q_Fr.ud ?_ (by omega) (by first | assumption | rfl) rfl | refine q_Fr.udz ?_ (by omega) (by first | assumption | decide | omega) | refine q_Fr.tr ?_ (by assumption) (by intro k9 hk9; omega)))) (by first | assumption | omega) (by first | assumption | rfl) (by first | assumption | decide)) ?_
        intro t12 w12 g12 p12
        obtain ⟨rfl, e12⟩ := p12
        refine Or.inl ⟨rfl, ?_⟩
        exact r_vret c82_83 ⟨rfl, rfl, rfl⟩ ⟨rfl, (by repeat (first | exact q_Fr.rf | refine q_Fr.ud ?_ (by omega) (by first | assumption | rfl) rfl | refine q_Fr.udz ?_ (by omega) (by first | assumption | decide | omega) | refine q_Fr.tr ?_ (by assumption) (by intro k9 hk9; omega)))⟩
  · intro b3
    refine r_iload_n c82_25 rfl rfl ?_
    refine r_aload_n c82_26 rfl rfl ?_
    refine r_getr c82_27 (by first | assumption | omega) (by decide) (by first | assumption | rfl) rfl rfl ?_
    refine r_iload_n c82_30 rfl rfl ?_
    refine r_iconst c82_31 rfl ?_
    refine r_iadd c82_32 (by first | exact q_w32_id (by omega) (by omega) | exact q_w32w _ | exact rfl) rfl ?_
    refine r_callG c82_33 (fun _ => rfl) rfl rfl rfl (k175 hG (q_Fr.bz (S := fun k => 125 ≤ k ∧ k ≤ 134) hZ (by repeat (first | exact q_Fr.rf | refine q_Fr.ud ?_ (by omega) (by first | assumption | rfl) rfl | refine q_Fr.udz ?_ (by omega) (by first | assumption | decide | omega) | refine q_Fr.tr ?_ (by assumption) (by intro k9 hk9; omega)))) (by first | assumption | omega) (by first | assumption | rfl) (by first | assumption | decide)) ?_
    intro t13 w13 g13 p13
    obtain ⟨rfl, ⟨z13, rfl⟩, rfl⟩ := p13
    refine Or.inr (Or.inl ⟨rfl, ?_⟩)
    refine r_min c82_36 rfl rfl ?_
    refine r_istore_n c82_39 (lo' := [(3, _), (2, _), (0, _), (1, _)]) rfl rfl rfl ?_
    refine r_aload_n c82_40 rfl rfl ?_
    refine r_getr c82_41 (by first | assumption | omega) (by decide) (by first | assumption | rfl) rfl rfl ?_
    refine r_iload_n c82_44 rfl rfl ?_
    refine r_iload_n c82_45 rfl rfl ?_
    refine r_if_eq c82_46 rfl (by first | exact q_w32_id (by omega) (by omega) | exact q_w32w _ | exact rfl) ?_ ?_
    · intro b14
      refine r_iconst c82_53 rfl ?_
      refine r_callG c82_54 (fun _ => rfl) rfl rfl rfl (k174 hG (q_Fr.bz (S := fun k => 125 ≤ k ∧ k ≤ 134) hZ (by repeat (first | exact q_Fr.rf | refine q_Fr.ud ?_ (by omega) (by first | assumption | rfl) rfl | refine q_Fr.udz ?_ (by omega) (by first | assumption | decide | omega) | refine q_Fr.tr ?_ (by assumption) (by intro k9 hk9; omega)))) (by first | assumption | omega) (by first | assumption | rfl) (by first | assumption | decide)) ?_
      intro t15 w15 g15 p15
      obtain ⟨rfl, e15⟩ := p15
      refine Or.inl ⟨rfl, ?_⟩
      refine r_aload_n c82_57 rfl rfl ?_
      refine r_getr c82_58 (by first | assumption | omega) (by decide) (by first | assumption | rfl) rfl rfl ?_
      refine r_iload_n c82_61 rfl rfl ?_
      refine r_iconst c82_62 rfl ?_
      refine r_iadd c82_63 (by first | exact q_w32_id (by omega) (by omega) | exact q_w32w _ | exact rfl) rfl ?_
      refine r_iload_n c82_64 rfl rfl ?_
      refine r_if_eq c82_65 rfl (by first | exact q_w32_id (by omega) (by omega) | exact q_w32w _ | exact rfl) ?_ ?_
      · intro b16
        refine r_iload_n c82_72 rfl rfl ?_
        refine r_aload_n c82_73 rfl rfl ?_
        refine r_geti c82_74 (by first | assumption | omega) (by decide) (by first | assumption | rfl) rfl rfl ?_
        refine r_min c82_77 rfl rfl ?_
        refine r_callG c82_80 (fun _ => rfl) rfl rfl rfl (k174 hG (q_Fr.bz (S := fun k => 125 ≤ k ∧ k ≤ 134) hZ (by repeat (first | exact q_Fr.rf | refine q_Fr.ud ?_ (by omega) (by first | assumption | rfl) rfl | refine q_Fr.udz ?_ (by omega) (by first | assumption | decide | omega) | refine q_Fr.tr ?_ (by assumption) (by intro k9 hk9; omega)))) (by first | assumption | omega) (by first | assumption | rfl) (by first | assumption | decide)) ?_
        intro t17 w17 g17 p17
        obtain ⟨rfl, e17⟩ := p17
        refine Or.inl ⟨rfl, ?_⟩
        exact r_vret c82_83 ⟨rfl, rfl, rfl⟩ ⟨rfl, (by repeat (first | exact q_Fr.rf | refine q_Fr.ud ?_ (by omega) (by first | assumption | rfl) rfl | refine q_Fr.udz ?_ (by omega) (by first | assumption | decide | omega) | refine q_Fr.tr ?_ (by assumption) (by intro k9 hk9; omega)))⟩
      · intro b16
        refine r_iload_n c82_68 rfl rfl ?_
        refine r_goto c82_69 ?_
        refine r_callG c82_80 (fun _ => rfl) rfl rfl rfl (k174 hG (q_Fr.bz (S := fun k => 125 ≤ k ∧ k ≤ 134) hZ (by repeat (first | exact q_Fr.rf | refine q_Fr.ud ?_ (by omega) (by first | assumption | rfl) rfl | refine q_Fr.udz ?_ (by omega) (by first | assumption | decide | omega) | refine q_Fr.tr ?_ (by assumption) (by intro k9 hk9; omega)))) (by first | assumption | omega) (by first | assumption | rfl) (by first | assumption | decide)) ?_
        intro t18 w18 g18 p18
        obtain ⟨rfl, e18⟩ := p18
        refine Or.inl ⟨rfl, ?_⟩
        exact r_vret c82_83 ⟨rfl, rfl, rfl⟩ ⟨rfl, (by repeat (first | exact q_Fr.rf | refine q_Fr.ud ?_ (by omega) (by first | assumption | rfl) rfl | refine q_Fr.udz ?_ (by omega) (by first | assumption | decide | omega) | refine q_Fr.tr ?_ (by assumption) (by intro k9 hk9; omega)))⟩
    · intro b14
      refine r_iconst c82_49 rfl ?_
      refine r_goto c82_50 ?_
      refine r_callG c82_54 (fun _ => rfl) rfl rfl rfl (k174 hG (q_Fr.bz (S := fun k => 125 ≤ k ∧ k ≤ 134) hZ (by repeat (first | exact q_Fr.rf | refine q_Fr.ud ?_ (by omega) (by first | assumption | rfl) rfl | refine q_Fr.udz ?_ (by omega) (by first | assumption | decide | omega) | refine q_Fr.tr ?_ (by assumption) (by intro k9 hk9; omega)))) (by first | assumption | omega) (by first | assumption | rfl) (by first | assumption | decide)) ?_
      intro t19 w19 g19 p19
      obtain ⟨rfl, e19⟩ := p19
      refine Or.inl ⟨rfl, ?_⟩
      refine r_aload_n c82_57 rfl rfl ?_
      refine r_getr c82_58 (by first | assumption | omega) (by decide) (by first | assumption | rfl) rfl rfl ?_
      refine r_iload_n c82_61 rfl rfl ?_
      refine r_iconst c82_62 rfl ?_
      refine r_iadd c82_63 (by first | exact q_w32_id (by omega) (by omega) | exact q_w32w _ | exact rfl) rfl ?_
      refine r_iload_n c82_64 rfl rfl ?_
      refine r_if_eq c82_65 rfl (by first | exact q_w32_id (by omega) (by omega) | exact q_w32w _ | exact rfl) ?_ ?_
      · intro b20
        refine r_iload_n c82_72 rfl rfl ?_
        refine r_aload_n c82_73 rfl rfl ?_
        refine r_geti c82_74 (by first | assumption | omega) (by decide) (by first | assumption | rfl) rfl rfl ?_
        refine r_min c82_77 rfl rfl ?_
        refine r_callG c82_80 (fun _ => rfl) rfl rfl rfl (k174 hG (q_Fr.bz (S := fun k => 125 ≤ k ∧ k ≤ 134) hZ (by repeat (first | exact q_Fr.rf | refine q_Fr.ud ?_ (by omega) (by first | assumption | rfl) rfl | refine q_Fr.udz ?_ (by omega) (by first | assumption | decide | omega) | refine q_Fr.tr ?_ (by assumption) (by intro k9 hk9; omega)))) (by first | assumption | omega) (by first | assumption | rfl) (by first | assumption | decide)) ?_
        intro t21 w21 g21 p21
        obtain ⟨rfl, e21⟩ := p21
        refine Or.inl ⟨rfl, ?_⟩
        exact r_vret c82_83 ⟨rfl, rfl, rfl⟩ ⟨rfl, (by repeat (first | exact q_Fr.rf | refine q_Fr.ud ?_ (by omega) (by first | assumption | rfl) rfl | refine q_Fr.udz ?_ (by omega) (by first | assumption | decide | omega) | refine q_Fr.tr ?_ (by assumption) (by intro k9 hk9; omega)))⟩
      · intro b20
        refine r_iload_n c82_68 rfl rfl ?_
        refine r_goto c82_69 ?_
        refine r_callG c82_80 (fun _ => rfl) rfl rfl rfl (k174 hG (q_Fr.bz (S := fun k => 125 ≤ k ∧ k ≤ 134) hZ (by repeat (first | exact q_Fr.rf | refine q_Fr.ud ?_ (by omega) (by first | assumption | rfl) rfl | refine q_Fr.udz ?_ (by omega) (by first | assumption | decide | omega) | refine q_Fr.tr ?_ (by assumption) (by intro k9 hk9; omega)))) (by first | assumption | omega) (by first | assumption | rfl) (by first | assumption | decide)) ?_
        intro t22 w22 g22 p22
        obtain ⟨rfl, e22⟩ := p22
        refine Or.inl ⟨rfl, ?_⟩
        exact r_vret c82_83 ⟨rfl, rfl, rfl⟩ ⟨rfl, (by repeat (first | exact q_Fr.rf | refine q_Fr.ud ?_ (by omega) (by first | assumption | rfl) rfl | refine q_Fr.udz ?_ (by omega) (by first | assumption | decide | omega) | refine q_Fr.tr ?_ (by assumption) (by intro k9 hk9; omega)))⟩
theorem c91_0 : q_cat 91 0 (.aload_n 0) 1 0 0 (0) := ⟨rfl, rfl⟩
theorem c91_1 : q_cat 91 1 (.getfield 45) 3 4 9 (0) := ⟨rfl, rfl⟩
theorem c91_4 : q_cat 91 4 (.iconst 1) 1 0 0 (0) := ⟨rfl, rfl⟩
theorem c91_5 : q_cat 91 5 (.isub) 1 0 0 (0) := ⟨rfl, rfl⟩
theorem c91_6 : q_cat 91 6 (.istore_n 1) 1 1 0 (0) := ⟨rfl, rfl⟩
theorem c91_7 : q_cat 91 7 (.iload_n 1) 1 1 0 (0) := ⟨rfl, rfl⟩
theorem c91_8 : q_cat 91 8 (.ifCond .lt 38) 3 46 0 (0) := ⟨rfl, rfl⟩
theorem c91_11 : q_cat 91 11 (.aload_n 0) 1 0 0 (0) := ⟨rfl, rfl⟩
theorem c91_12 : q_cat 91 12 (.iload_n 1) 1 1 0 (0) := ⟨rfl, rfl⟩
theorem c91_13 : q_cat 91 13 (.invokevirtual 138) 3 94 0 (0) := ⟨rfl, rfl⟩
theorem c91_16 : q_cat 91 16 (.aload_n 0) 1 0 0 (0) := ⟨rfl, rfl⟩
theorem c91_17 : q_cat 91 17 (.iload_n 1) 1 1 0 (0) := ⟨rfl, rfl⟩
theorem c91_18 : q_cat 91 18 (.invokevirtual 141) 3 90 0 (0) := ⟨rfl, rfl⟩
theorem c91_21 : q_cat 91 21 (.iadd) 1 0 0 (0) := ⟨rfl, rfl⟩
theorem c91_22 : q_cat 91 22 (.istore_n 2) 1 2 0 (0) := ⟨rfl, rfl⟩
theorem c91_23 : q_cat 91 23 (.aload_n 0) 1 0 0 (0) := ⟨rfl, rfl⟩
theorem c91_24 : q_cat 91 24 (.getfield 36) 3 4 8 (3) := ⟨rfl, rfl⟩
theorem c91_27 : q_cat 91 27 (.iload_n 1) 1 1 0 (0) := ⟨rfl, rfl⟩
theorem c91_28 : q_cat 91 28 (.aload_n 0) 1 0 0 (0) := ⟨rfl, rfl⟩
theorem c91_29 : q_cat 91 29 (.iload_n 1) 1 1 0 (0) := ⟨rfl, rfl⟩
theorem c91_30 : q_cat 91 30 (.invokevirtual 144) 3 92 0 (0) := ⟨rfl, rfl⟩
theorem c91_33 : q_cat 91 33 (.iload_n 2) 1 2 0 (0) := ⟨rfl, rfl⟩
theorem c91_34 : q_cat 91 34 (.invokestatic 67) 3 0 7 (0) := ⟨rfl, rfl⟩
theorem c91_37 : q_cat 91 37 (.invokestatic 73) 3 174 3 (0) := ⟨rfl, rfl⟩
theorem c91_40 : q_cat 91 40 (.iinc 1 (-1)) 3 1 0 (0) := ⟨rfl, rfl⟩
theorem c91_43 : q_cat 91 43 (.goto (-36)) 3 7 0 (0) := ⟨rfl, rfl⟩
theorem c91_46 : q_cat 91 46 (.iconst 0) 1 0 0 (0) := ⟨rfl, rfl⟩
theorem c91_47 : q_cat 91 47 (.istore_n 1) 1 1 0 (0) := ⟨rfl, rfl⟩
theorem c91_48 : q_cat 91 48 (.iload_n 1) 1 1 0 (0) := ⟨rfl, rfl⟩
theorem c91_49 : q_cat 91 49 (.aload_n 0) 1 0 0 (0) := ⟨rfl, rfl⟩
theorem c91_50 : q_cat 91 50 (.getfield 45) 3 4 9 (0) := ⟨rfl, rfl⟩
theorem c91_53 : q_cat 91 53 (.if_icmp .ge 40) 3 93 0 (0) := ⟨rfl, rfl⟩
theorem c91_56 : q_cat 91 56 (.aload_n 0) 1 0 0 (0) := ⟨rfl, rfl⟩
theorem c91_57 : q_cat 91 57 (.iload_n 1) 1 1 0 (0) := ⟨rfl, rfl⟩
theorem c91_58 : q_cat 91 58 (.invokevirtual 144) 3 92 0 (0) := ⟨rfl, rfl⟩
theorem c91_61 : q_cat 91 61 (.aload_n 0) 1 0 0 (0) := ⟨rfl, rfl⟩
theorem c91_62 : q_cat 91 62 (.iload_n 1) 1 1 0 (0) := ⟨rfl, rfl⟩
theorem c91_63 : q_cat 91 63 (.invokevirtual 141) 3 90 0 (0) := ⟨rfl, rfl⟩
theorem c91_66 : q_cat 91 66 (.iadd) 1 0 0 (0) := ⟨rfl, rfl⟩
theorem c91_67 : q_cat 91 67 (.istore_n 2) 1 2 0 (0) := ⟨rfl, rfl⟩
theorem c91_68 : q_cat 91 68 (.aload_n 0) 1 0 0 (0) := ⟨rfl, rfl⟩
theorem c91_69 : q_cat 91 69 (.getfield 36) 3 4 8 (3) := ⟨rfl, rfl⟩
theorem c91_72 : q_cat 91 72 (.iload_n 1) 1 1 0 (0) := ⟨rfl, rfl⟩
theorem c91_73 : q_cat 91 73 (.iconst 1) 1 0 0 (0) := ⟨rfl, rfl⟩
theorem c91_74 : q_cat 91 74 (.iadd) 1 0 0 (0) := ⟨rfl, rfl⟩
theorem c91_75 : q_cat 91 75 (.aload_n 0) 1 0 0 (0) := ⟨rfl, rfl⟩
theorem c91_76 : q_cat 91 76 (.iload_n 1) 1 1 0 (0) := ⟨rfl, rfl⟩
theorem c91_77 : q_cat 91 77 (.invokevirtual 138) 3 94 0 (0) := ⟨rfl, rfl⟩
theorem c91_80 : q_cat 91 80 (.iload_n 2) 1 2 0 (0) := ⟨rfl, rfl⟩
theorem c91_81 : q_cat 91 81 (.invokestatic 67) 3 0 7 (0) := ⟨rfl, rfl⟩
theorem c91_84 : q_cat 91 84 (.invokestatic 73) 3 174 3 (0) := ⟨rfl, rfl⟩
theorem c91_87 : q_cat 91 87 (.iinc 1 1) 3 1 0 (0) := ⟨rfl, rfl⟩
theorem c91_90 : q_cat 91 90 (.goto (-42)) 3 48 0 (0) := ⟨rfl, rfl⟩
theorem c91_93 : q_cat 91 93 (.return_) 1 0 0 (0) := ⟨rfl, rfl⟩
theorem l91_7 {Γ : q_Γ} (hG : q_GG Γ) {h0 : q_F} (hZ : q_Bz h0)  
    (hx46 : ∀ {u1 : Int} {h : q_F}, q_Fr (fun k => 125 ≤ k ∧ k ≤ 134) h0 h → q_R Γ q_K 155 91 (fun t w h' => (t = 0 ∧ q_Fr (fun k => 125 ≤ k ∧ k ≤ 134) h0 h')) (46, [(1, (0, u1)), (0, (2, Int.ofNat 125))], [], q_hp q_K 155 h, [], 0, 0))
    : ∀ (m : Nat) {u1 : Int} {h : q_F}, (-2147483648 ≤ u1 ∧ u1 < 2147483648) → q_Fr (fun k => 125 ≤ k ∧ k ≤ 134) h0 h → u1 + 2147483648 < (m : Int) → q_R Γ q_K 155 91 (fun t w h' => (t = 0 ∧ q_Fr (fun k => 125 ≤ k ∧ k ≤ 134) h0 h')) (7, [(1, (0, u1)), (0, (2, Int.ofNat 125))], [], q_hp q_K 155 h, [], 0, 0)   := by
  intro m
  induction m with
  | zero =>
    intro u1 h hinv hf hmu
    exact absurd hmu (by omega)
  | succ m ih =>
    intro u1 h hinv hf hmu
    refine r_iload_n c91_7 rfl rfl ?_
    refine r_if_lt c91_8 rfl (by first | exact q_w32_id (by omega) (by omega) | exact q_w32w _ | exact rfl) ?_ ?_
    · intro b1
      refine q_R.wk (ks := [1, 0]) (lo' := [(1, _), (0, _)]) rfl ?_
      exact hx46 (by repeat (first | exact q_Fr.rf | refine q_Fr.ud ?_ (by omega) (by first | assumption | rfl) rfl | refine q_Fr.udz ?_ (by omega) (by first | assumption | decide | omega) | refine q_Fr.tr ?_ (by assumption) (by intro k9 hk9; omega)))
    · intro b1
      refine r_aload_n c91_11 rfl rfl ?_
      refine r_iload_n c91_12 rfl rfl ?_
      refine r_vcG c91_13 (by first | assumption | omega) (by decide) (by first | assumption | rfl) rfl rfl rfl (k94 hG (q_Fr.bz (S := fun k => 125 ≤ k ∧ k ≤ 134) hZ (by repeat (first | exact q_Fr.rf | refine q_Fr.ud ?_ (by omega) (by first | assumption | rfl) rfl | refine q_Fr.udz ?_ (by omega) (by first | assumption | decide | omega) | refine q_Fr.tr ?_ (by assumption) (by intro k9 hk9; omega))))) ?_
      intro t2 w2 g2 p2
      obtain ⟨rfl, ⟨z2, rfl⟩, rfl⟩ := p2
      refine Or.inr (Or.inl ⟨rfl, ?_⟩)
      refine r_aload_n c91_16 rfl rfl ?_
      refine r_iload_n c91_17 rfl rfl ?_
      refine r_vcG c91_18 (by first | assumption | omega) (by decide) (by first | assumption | rfl) rfl rfl rfl (k90 hG (q_Fr.bz (S := fun k => 125 ≤ k ∧ k ≤ 134) hZ (by repeat (first | exact q_Fr.rf | refine q_Fr.ud ?_ (by omega) (by first | assumption | rfl) rfl | refine q_Fr.udz ?_ (by omega) (by first | assumption | decide | omega) | refine q_Fr.tr ?_ (by assumption) (by intro k9 hk9; omega))))) ?_
      intro t3 w3 g3 p3
      obtain ⟨rfl, ⟨z3, rfl⟩, rfl⟩ := p3
      refine Or.inr (Or.inl ⟨rfl, ?_⟩)
      refine r_iadd c91_21 (by first | exact q_w32_id (by omega) (by omega) | exact q_w32w _ | exact rfl) rfl ?_
      refine r_istore_n c91_22 (lo' := [(2, _), (1, _), (0, _)]) rfl rfl rfl ?_
      refine r_aload_n c91_23 rfl rfl ?_
      refine r_getr c91_24 (by first | assumption | omega) (by decide) (by first | assumption | rfl) rfl rfl ?_
      refine r_iload_n c91_27 rfl rfl ?_
      refine r_aload_n c91_28 rfl rfl ?_
      refine r_iload_n c91_29 rfl rfl ?_
      refine r_vcG c91_30 (by first | assumption | omega) (by decide) (by first | assumption | rfl) rfl rfl rfl (k92 hG (q_Fr.bz (S := fun k => 125 ≤ k ∧ k ≤ 134) hZ (by repeat (first | exact q_Fr.rf | refine q_Fr.ud ?_ (by omega) (by first | assumption | rfl) rfl | refine q_Fr.udz ?_ (by omega) (by first | assumption | decide | omega) | refine q_Fr.tr ?_ (by assumption) (by intro k9 hk9; omega))))) ?_
      intro t4 w4 g4 p4
      obtain ⟨rfl, ⟨z4, rfl⟩, rfl⟩ := p4
      refine Or.inr (Or.inl ⟨rfl, ?_⟩)
      refine r_iload_n c91_33 rfl rfl ?_
      refine r_min c91_34 rfl rfl ?_
      refine r_callG c91_37 (fun _ => rfl) rfl rfl rfl (k174 hG (q_Fr.bz (S := fun k => 125 ≤ k ∧ k ≤ 134) hZ (by repeat (first | exact q_Fr.rf | refine q_Fr.ud ?_ (by omega) (by first | assumption | rfl) rfl | refine q_Fr.udz ?_ (by omega) (by first | assumption | decide | omega) | refine q_Fr.tr ?_ (by assumption) (by intro k9 hk9; omega)))) (by first | assumption | omega) (by first | assumption | rfl) (by first | assumption | decide)) ?_
      intro t5 w5 g5 p5
      obtain ⟨rfl, e5⟩ := p5
      refine Or.inl ⟨rfl, ?_⟩
      refine r_iinc c91_40 rfl (by first | exact q_w32_id (by omega) (by omega) | exact q_w32w _ | exact rfl) (lo' := [(1, _), (2, _), (0, _)]) rfl rfl rfl ?_
      refine r_goto c91_43 ?_
      refine q_R.wk (ks := [1, 0]) (lo' := [(1, _), (0, _)]) rfl ?_
      exact ih (by first | omega | exact ⟨q_rg1 _, q_rg2 _⟩) (by repeat (first | exact q_Fr.rf | refine q_Fr.ud ?_ (by omega) (by first | assumption | rfl) rfl | refine q_Fr.udz ?_ (by omega) (by first | assumption | decide | omega) | refine q_Fr.tr ?_ (by assumption) (by intro k9 hk9; omega))) (by omega)

theorem l91_48 {Γ : q_Γ} (hG : q_GG Γ) {h0 : q_F} (hZ : q_Bz h0)  
    (hx93 : ∀ {u1 : Int} {h : q_F}, q_Fr (fun k => 125 ≤ k ∧ k ≤ 134) h0 h → q_R Γ q_K 155 91 (fun t w h' => (t = 0 ∧ q_Fr (fun k => 125 ≤ k ∧ k ≤ 134) h0 h')) (93, [(1, (0, u1)), (0, (2, Int.ofNat 125))], [], q_hp q_K 155 h, [], 0, 0))
    : ∀ (m : Nat) {u1 : Int} {h : q_F}, (-2147483648 ≤ u1 ∧ u1 < 2147483648) → q_Fr (fun k => 125 ≤ k ∧ k ≤ 134) h0 h → 2147483648 - u1 < (m : Int) → q_R Γ q_K 155 91 (fun t w h' => (t = 0 ∧ q_Fr (fun k => 125 ≤ k ∧ k ≤ 134) h0 h')) (48, [(1, (0, u1)), (0, (2, Int.ofNat 125))], [], q_hp q_K 155 h, [], 0, 0)   := by
  intro m
  induction m with
  | zero =>
    intro u1 h hinv hf hmu
    exact absurd hmu (by omega)
  | succ m ih =>
    intro u1 h hinv hf hmu
    refine r_iload_n c91_48 rfl rfl ?_
    refine r_aload_n c91_49 rfl rfl ?_
    refine r_geti c91_50 (by first | assumption | omega) (by decide) (by first | assumption | rfl) rfl rfl ?_
    refine r_ic_ge c91_53 rfl (by first | exact q_w32_id (by omega) (by omega) | exact q_w32w _ | exact rfl) (by first | exact q_w32_id (by omega) (by omega) | exact q_w32w _ | exact rfl) ?_ ?_
    · intro b2
      refine q_R.wk (ks := [1, 0]) (lo' := [(1, _), (0, _)]) rfl ?_
      exact hx93 (by repeat (first | exact q_Fr.rf | refine q_Fr.ud ?_ (by omega) (by first | assumption | rfl) rfl | refine q_Fr.udz ?_ (by omega) (by first | assumption | decide | omega) | refine q_Fr.tr ?_ (by assumption) (by intro k9 hk9; omega)))
    · intro b2
      refine r_aload_n c91_56 rfl rfl ?_
      refine r_iload_n c91_57 rfl rfl ?_
      refine r_vcG c91_58 (by first | assumption | omega) (by decide) (by first | assumption | rfl) rfl rfl rfl (k92 hG (q_Fr.bz (S := fun k => 125 ≤ k ∧ k ≤ 134) hZ (by repeat (first | exact q_Fr.rf | refine q_Fr.ud ?_ (by omega) (by first | assumption | rfl) rfl | refine q_Fr.udz ?_ (by omega) (by first | assumption | decide | omega) | refine q_Fr.tr ?_ (by assumption) (by intro k9 hk9; omega))))) ?_
      intro t3 w3 g3 p3
      obtain ⟨rfl, ⟨z3, rfl⟩, rfl⟩ := p3
      refine Or.inr (Or.inl ⟨rfl, ?_⟩)
      refine r_aload_n c91_61 rfl rfl ?_
      refine r_iload_n c91_62 rfl rfl ?_
      refine r_vcG c91_63 (by first | assumption | omega) (by decide) (by first | assumption | rfl) rfl rfl rfl (k90 hG (q_Fr.bz (S := fun k => 125 ≤ k ∧ k ≤ 134) hZ (by repeat (first | exact q_Fr.rf | refine q_Fr.ud ?_ (by omega) (by first | assumption | rfl) rfl | refine q_Fr.udz ?_ (by omega) (by first | assumption | decide | omega) | refine q_Fr.tr ?_ (by assumption) (by intro k9 hk9; omega))))) ?_
      intro t4 w4 g4 p4
      obtain ⟨rfl, ⟨z4, rfl⟩, rfl⟩ := p4
      refine Or.inr (Or.inl ⟨rfl, ?_⟩)
      refine r_iadd c91_66 (by first | exact q_w32_id (by omega) (by omega) | exact q_w32w _ | exact rfl) rfl ?_
      refine r_istore_n c91_67 (lo' := [(2, _), (1, _), (0, _)]) rfl rfl rfl ?_
      refine r_aload_n c91_68 rfl rfl ?_
      refine r_getr c91_69 (by first | assumption | omega) (by decide) (by first | assumption | rfl) rfl rfl ?_
      refine r_iload_n c91_72 rfl rfl ?_
      refine r_iconst c91_73 rfl ?_
      refine r_iadd c91_74 (by first | exact q_w32_id (by omega) (by omega) | exact q_w32w _ | exact rfl) rfl ?_
      refine r_aload_n c91_75 rfl rfl ?_
      refine r_iload_n c91_76 rfl rfl ?_
      refine r_vcG c91_77 (by first | assumption | omega) (by decide) (by first | assumption | rfl) rfl rfl rfl (k94 hG (q_Fr.bz (S := fun k => 125 ≤ k ∧ k ≤ 134) hZ (by repeat (first | exact q_Fr.rf | refine q_Fr.ud ?_ (by omega) (by first | assumption | rfl) rfl | refine q_Fr.udz ?_ (by omega) (by first | assumption | decide | omega) | refine q_Fr.tr ?_ (by assumption) (by intro k9 hk9; omega))))) ?_
      intro t5 w5 g5 p5
      obtain ⟨rfl, ⟨z5, rfl⟩, rfl⟩ := p5
      refine Or.inr (Or.inl ⟨rfl, ?_⟩)
      refine r_iload_n c91_80 rfl rfl ?_
      refine r_min c91_81 rfl rfl ?_
      refine r_callG c91_84 (fun _ => rfl) rfl rfl rfl (k174 hG (q_Fr.bz (S := fun k => 125 ≤ k ∧ k ≤ 134) hZ (by repeat (first | exact q_Fr.rf | refine q_Fr.ud ?_ (by omega) (by first | assumption | rfl) rfl | refine q_Fr.udz ?_ (by omega) (by first | assumption | decide | omega) | refine q_Fr.tr ?_ (by assumption) (by intro k9 hk9; omega)))) (by first | assumption | omega) (by first | assumption | rfl) (by first | assumption | decide)) ?_
      intro t6 w6 g6 p6
      obtain ⟨rfl, e6⟩ := p6
      refine Or.inl ⟨rfl, ?_⟩
      refine r_iinc c91_87 rfl (by first | exact q_w32_id (by omega) (by omega) | exact q_w32w _ | exact rfl) (lo' := [(1, _), (2, _), (0, _)]) rfl rfl rfl ?_
      refine r_goto c91_90 ?_
      refine q_R.wk (ks := [1, 0]) (lo' := [(1, _), (0, _)]) rfl ?_
      exact ih (by first | omega | exact ⟨q_rg1 _, q_rg2 _⟩) (by repeat (first | exact q_Fr.rf | refine q_Fr.ud ?_ (by omega) (by first | assumption | rfl) rfl | refine q_Fr.udz ?_ (by omega) (by first | assumption | decide | omega) | refine q_Fr.tr ?_ (by assumption) (by intro k9 hk9; omega))) (by omega)

theorem k91 {Γ : q_Γ} (hG : q_GG Γ) {h : q_F} (hZ : q_Bz h)   :
    q_M Γ q_K 155 91 [(2, Int.ofNat 125)] h (fun t w h' => (t = 0 ∧ q_Fr (fun k => 125 ≤ k ∧ k ≤ 134) h h')) := by
  refine q_M.of (by decide) (Nat.le_of_ble_eq_true rfl) hG ?_
  refine r_aload_n c91_0 rfl rfl ?_
  refine r_geti c91_1 (by first | assumption | omega) (by decide) (by first | assumption | rfl) rfl rfl ?_
  refine r_iconst c91_4 rfl ?_
  refine r_isub c91_5 (by first | exact q_w32_id (by omega) (by omega) | exact q_w32w _ | exact rfl) rfl ?_
  refine r_istore_n c91_6 (lo' := [(1, _), (0, _)]) rfl rfl rfl ?_
  refine q_R.wk (ks := [1, 0]) (lo' := [(1, _), (0, _)]) rfl ?_
  refine l91_7 hG hZ  ?_ 4294967298 (by first | omega | exact ⟨q_rg1 _, q_rg2 _⟩) (by repeat (first | exact q_Fr.rf | refine q_Fr.ud ?_ (by omega) (by first | assumption | rfl) rfl | refine q_Fr.udz ?_ (by omega) (by first | assumption | decide | omega) | refine q_Fr.tr ?_ (by assumption) (by intro k9 hk9; omega))) (q_mdd (by first | omega | exact ⟨q_rg1 _, q_rg2 _⟩))
  · intro u1_1 g1 f1
    refine r_iconst c91_46 rfl ?_
    refine r_istore_n c91_47 (lo' := [(1, _), (0, _)]) rfl rfl rfl ?_
    refine q_R.wk (ks := [1, 0]) (lo' := [(1, _), (0, _)]) rfl ?_
    refine l91_48 hG hZ  ?_ 4294967298 (by first | omega | exact ⟨q_rg1 _, q_rg2 _⟩) (by repeat (first | exact q_Fr.rf | refine q_Fr.ud ?_ (by omega) (by first | assumption | rfl) rfl | refine q_Fr.udz ?_ (by omega) (by first | assumption | decide | omega) | refine q_Fr.tr ?_ (by assumption) (by intro k9 hk9; omega))) (q_mu (by first | omega | exact ⟨q_rg1 _, q_rg2 _⟩))
    · intro u1_2 g2 f2
      exact r_vret c91_93 ⟨rfl, rfl, rfl⟩ ⟨rfl, (by repeat (first | exact q_Fr.rf | refine q_Fr.ud ?_ (by omega) (by first | assumption | rfl) rfl | refine q_Fr.udz ?_ (by omega) (by first | assumption | decide | omega) | refine q_Fr.tr ?_ (by assumption) (by intro k9 hk9; omega)))⟩
theorem c84_0 : q_cat 84 0 (.aload_n 0) 1 0 0 (0) := ⟨rfl, rfl⟩
theorem c84_1 : q_cat 84 1 (.aload_n 2) 1 2 0 (0) := ⟨rfl, rfl⟩
theorem c84_2 : q_cat 84 2 (.getfield 39) 3 7 1 (0) := ⟨rfl, rfl⟩
theorem c84_5 : q_cat 84 5 (.putfield 45) 3 4 9 (0) := ⟨rfl, rfl⟩
theorem c84_8 : q_cat 84 8 (.aload_n 0) 1 0 0 (0) := ⟨rfl, rfl⟩
theorem c84_9 : q_cat 84 9 (.iload_n 3) 1 3 0 (0) := ⟨rfl, rfl⟩
theorem c84_10 : q_cat 84 10 (.putfield 46) 3 4 10 (0) := ⟨rfl, rfl⟩
theorem c84_13 : q_cat 84 13 (.iconst 0) 1 0 0 (0) := ⟨rfl, rfl⟩
theorem c84_14 : q_cat 84 14 (.istore 4) 2 4 0 (0) := ⟨rfl, rfl⟩
theorem c84_16 : q_cat 84 16 (.iload 4) 2 4 0 (0) := ⟨rfl, rfl⟩
theorem c84_18 : q_cat 84 18 (.iconst 3) 1 0 0 (0) := ⟨rfl, rfl⟩
theorem c84_19 : q_cat 84 19 (.if_icmp .ge 22) 3 41 0 (0) := ⟨rfl, rfl⟩
theorem c84_22 : q_cat 84 22 (.aload_n 0) 1 0 0 (0) := ⟨rfl, rfl⟩
theorem c84_23 : q_cat 84 23 (.aload_n 1) 1 1 0 (0) := ⟨rfl, rfl⟩
theorem c84_24 : q_cat 84 24 (.iload 4) 2 4 0 (0) := ⟨rfl, rfl⟩
theorem c84_26 : q_cat 84 26 (.invokevirtual 49) 3 125 0 (0) := ⟨rfl, rfl⟩
theorem c84_29 : q_cat 84 29 (.aload_n 2) 1 2 0 (0) := ⟨rfl, rfl⟩
theorem c84_30 : q_cat 84 30 (.iload 4) 2 4 0 (0) := ⟨rfl, rfl⟩
theorem c84_32 : q_cat 84 32 (.invokevirtual 55) 3 85 0 (0) := ⟨rfl, rfl⟩
theorem c84_35 : q_cat 84 35 (.iinc 4 1) 3 4 0 (0) := ⟨rfl, rfl⟩
theorem c84_38 : q_cat 84 38 (.goto (-22)) 3 16 0 (0) := ⟨rfl, rfl⟩
theorem c84_41 : q_cat 84 41 (.iconst 0) 1 0 0 (0) := ⟨rfl, rfl⟩
theorem c84_42 : q_cat 84 42 (.istore 4) 2 4 0 (0) := ⟨rfl, rfl⟩
theorem c84_44 : q_cat 84 44 (.iload 4) 2 4 0 (0) := ⟨rfl, rfl⟩
theorem c84_46 : q_cat 84 46 (.aload_n 0) 1 0 0 (0) := ⟨rfl, rfl⟩
theorem c84_47 : q_cat 84 47 (.getfield 45) 3 4 9 (0) := ⟨rfl, rfl⟩
theorem c84_50 : q_cat 84 50 (.if_icmp .ge 16) 3 66 0 (0) := ⟨rfl, rfl⟩
theorem c84_53 : q_cat 84 53 (.aload_n 0) 1 0 0 (0) := ⟨rfl, rfl⟩
theorem c84_54 : q_cat 84 54 (.aload_n 1) 1 1 0 (0) := ⟨rfl, rfl⟩
theorem c84_55 : q_cat 84 55 (.iload 4) 2 4 0 (0) := ⟨rfl, rfl⟩
theorem c84_57 : q_cat 84 57 (.invokevirtual 59) 3 89 0 (0) := ⟨rfl, rfl⟩
theorem c84_60 : q_cat 84 60 (.iinc 4 1) 3 4 0 (0) := ⟨rfl, rfl⟩
theorem c84_63 : q_cat 84 63 (.goto (-19)) 3 44 0 (0) := ⟨rfl, rfl⟩
theorem c84_66 : q_cat 84 66 (.aload_n 0) 1 0 0 (0) := ⟨rfl, rfl⟩
theorem c84_67 : q_cat 84 67 (.getfield 36) 3 4 8 (3) := ⟨rfl, rfl⟩
theorem c84_70 : q_cat 84 70 (.iconst 0) 1 0 0 (0) := ⟨rfl, rfl⟩
theorem c84_71 : q_cat 84 71 (.aload_n 0) 1 0 0 (0) := ⟨rfl, rfl⟩
theorem c84_72 : q_cat 84 72 (.getfield 46) 3 4 10 (0) := ⟨rfl, rfl⟩
theorem c84_75 : q_cat 84 75 (.aload_n 0) 1 0 0 (0) := ⟨rfl, rfl⟩
theorem c84_76 : q_cat 84 76 (.getfield 24) 3 4 4 (3) := ⟨rfl, rfl⟩
theorem c84_79 : q_cat 84 79 (.iconst 0) 1 0 0 (0) := ⟨rfl, rfl⟩
theorem c84_80 : q_cat 84 80 (.invokestatic 63) 3 175 3 (0) := ⟨rfl, rfl⟩
theorem c84_83 : q_cat 84 83 (.invokestatic 67) 3 0 7 (0) := ⟨rfl, rfl⟩
theorem c84_86 : q_cat 84 86 (.invokestatic 73) 3 174 3 (0) := ⟨rfl, rfl⟩
theorem c84_89 : q_cat 84 89 (.iconst 0) 1 0 0 (0) := ⟨rfl, rfl⟩
theorem c84_90 : q_cat 84 90 (.istore 4) 2 4 0 (0) := ⟨rfl, rfl⟩
theorem c84_92 : q_cat 84 92 (.iload 4) 2 4 0 (0) := ⟨rfl, rfl⟩
theorem c84_94 : q_cat 84 94 (.aload_n 0) 1 0 0 (0) := ⟨rfl, rfl⟩
theorem c84_95 : q_cat 84 95 (.getfield 45) 3 4 9 (0) := ⟨rfl, rfl⟩
theorem c84_98 : q_cat 84 98 (.if_icmp .ge 15) 3 113 0 (0) := ⟨rfl, rfl⟩
theorem c84_101 : q_cat 84 101 (.aload_n 0) 1 0 0 (0) := ⟨rfl, rfl⟩
theorem c84_102 : q_cat 84 102 (.iload 4) 2 4 0 (0) := ⟨rfl, rfl⟩
theorem c84_104 : q_cat 84 104 (.invokevirtual 77) 3 82 0 (0) := ⟨rfl, rfl⟩
theorem c84_107 : q_cat 84 107 (.iinc 4 1) 3 4 0 (0) := ⟨rfl, rfl⟩
theorem c84_110 : q_cat 84 110 (.goto (-18)) 3 92 0 (0) := ⟨rfl, rfl⟩
theorem c84_113 : q_cat 84 113 (.aload_n 0) 1 0 0 (0) := ⟨rfl, rfl⟩
theorem c84_114 : q_cat 84 114 (.invokevirtual 81) 3 91 0 (0) := ⟨rfl, rfl⟩
theorem c84_117 : q_cat 84 117 (.return_) 1 0 0 (0) := ⟨rfl, rfl⟩
theorem l84_16 {Γ : q_Γ} (hG : q_GG Γ) {h0 : q_F} (hZ : q_Bz h0) {o1 : Nat} {o2 : Nat} {v3 : Int} {u3 : Int} (ho1 : q_isT o1) (ho2 : q_isG o2)
    (hx41 : ∀ {u4 : Int} {h : q_F}, q_Fr (fun k => 125 ≤ k ∧ k ≤ 134) h0 h → q_R Γ q_K 155 84 (fun t w h' => (t = 0 ∧ q_Fr (fun k => 125 ≤ k ∧ k ≤ 134) h0 h')) (41, [(4, (0, u4)), (0, (2, Int.ofNat 125)), (1, (2, Int.ofNat o1)), (2, (2, Int.ofNat o2)), (3, (0, u3))], [], q_hp q_K 155 h, [], 0, 0))
    : ∀ (m : Nat) {u4 : Int} {h : q_F}, (-2147483648 ≤ u4 ∧ u4 < 2147483648) → q_Fr (fun k => 125 ≤ k ∧ k ≤ 134) h0 h → 2147483648 - u4 < (m : Int) → q_R Γ q_K 155 84 (fun t w h' => (t = 0 ∧ q_Fr (fun k => 125 ≤ k ∧ k ≤ 134) h0 h')) (16, [(4, (0, u4)), (0, (2, Int.ofNat 125)), (1, (2, Int.ofNat o1)), (2, (2, Int.ofNat o2)), (3, (0, u3))], [], q_hp q_K 155 h, [], 0, 0)   := by
  obtain ⟨fo10, fo11, fo12, fo13, fo14, fo15, fo16, fo17, fo18, fo19, fo110⟩ := q_fT ho1
  obtain ⟨fo20, fo21, fo22, fo23⟩ := q_fG ho2
  intro m
  induction m with
  | zero =>
    intro u4 h hinv hf hmu
    exact absurd hmu (by omega)
  | succ m ih =>
    intro u4 h hinv hf hmu
    refine r_iload c84_16 rfl rfl ?_
    refine r_iconst c84_18 rfl ?_
    refine r_ic_ge c84_19 rfl (by first | exact q_w32_id (by omega) (by omega) | exact q_w32w _ | exact rfl) (show q_w32 (3) = 3 from rfl) ?_ ?_
    · intro b1
      refine q_R.wk (ks := [4, 0, 1, 2, 3]) (lo' := [(4, _), (0, _), (1, _), (2, _), (3, _)]) rfl ?_
      exact hx41 (by repeat (first | exact q_Fr.rf | refine q_Fr.ud ?_ (by omega) (by first | assumption | rfl) rfl | refine q_Fr.udz ?_ (by omega) (by first | assumption | decide | omega) | refine q_Fr.tr ?_ (by assumption) (by intro k9 hk9; omega)))
    · intro b1
      refine r_aload_n c84_22 rfl rfl ?_
      refine r_aload_n c84_23 rfl rfl ?_
      refine r_iload c84_24 rfl rfl ?_
      refine r_vcG c84_26 (by first | assumption | omega) (by decide) (by first | assumption | rfl) rfl rfl rfl (k125 hG (q_Fr.bz (S := fun k => 125 ≤ k ∧ k ≤ 134) hZ (by repeat (first | exact q_Fr.rf | refine q_Fr.ud ?_ (by omega) (by first | assumption | rfl) rfl | refine q_Fr.udz ?_ (by omega) (by first | assumption | decide | omega) | refine q_Fr.tr ?_ (by assumption) (by intro k9 hk9; omega)))) (by first | assumption | exact q_hC (by assumption) | exact q_h1 (by assumption) | exact q_h3 (by assumption) | exact q_h5 (by assumption) | exact q_hG (by assumption) | exact q_hP | exact q_hB1 | exact q_hB2 | exact q_hT6 | exact q_hT15 | exact q_hT24)) ?_
      intro t2 w2 g2 p2
      obtain ⟨rfl, ⟨r2, rfl, ha2, hr2⟩, rfl⟩ := p2
      obtain ⟨fr20, fr21, fr22, fr23⟩ := q_fA ha2
      refine Or.inr (Or.inl ⟨rfl, ?_⟩)
      refine r_aload_n c84_29 rfl rfl ?_
      refine r_iload c84_30 rfl rfl ?_
      refine r_vcG c84_32 (by first | assumption | omega) (by decide) (by first | assumption | rfl) rfl rfl rfl (k85 hG (q_Fr.bz (S := fun k => 125 ≤ k ∧ k ≤ 134) hZ (by repeat (first | exact q_Fr.rf | refine q_Fr.ud ?_ (by omega) (by first | assumption | rfl) rfl | refine q_Fr.udz ?_ (by omega) (by first | assumption | decide | omega) | refine q_Fr.tr ?_ (by assumption) (by intro k9 hk9; omega)))) (by first | assumption | exact q_hC (by assumption) | exact q_h1 (by assumption) | exact q_h3 (by assumption) | exact q_h5 (by assumption) | exact q_hG (by assumption) | exact q_hP | exact q_hB1 | exact q_hB2 | exact q_hT6 | exact q_hT15 | exact q_hT24) (by first | assumption | exact q_hC (by assumption) | exact q_h1 (by assumption) | exact q_h3 (by assumption) | exact q_h5 (by assumption) | exact q_hG (by assumption) | exact q_hP | exact q_hB1 | exact q_hB2 | exact q_hT6 | exact q_hT15 | exact q_hT24)) ?_
      intro t3 w3 g3 p3
      obtain ⟨rfl, e3⟩ := p3
      refine Or.inl ⟨rfl, ?_⟩
      refine r_iinc c84_35 rfl (by first | exact q_w32_id (by omega) (by omega) | exact q_w32w _ | exact rfl) (lo' := [(4, _), (0, _), (1, _), (2, _), (3, _)]) rfl rfl rfl ?_
      refine r_goto c84_38 ?_
      refine q_R.wk (ks := [4, 0, 1, 2, 3]) (lo' := [(4, _), (0, _), (1, _), (2, _), (3, _)]) rfl ?_
      exact ih (by first | omega | exact ⟨q_rg1 _, q_rg2 _⟩) (by repeat (first | exact q_Fr.rf | refine q_Fr.ud ?_ (by omega) (by first | assumption | rfl) rfl | refine q_Fr.udz ?_ (by omega) (by first | assumption | decide | omega) | refine q_Fr.tr ?_ (by assumption) (by intro k9 hk9; omega))) (by omega)

theorem l84_44 {Γ : q_Γ} (hG : q_GG Γ) {h0 : q_F} (hZ : q_Bz h0) {o1 : Nat} {o2 : Nat} {v3 : Int} {u3 : Int} (ho1 : q_isT o1) (ho2 : q_isG o2)
    (hx66 : ∀ {u4 : Int} {h : q_F}, q_Fr (fun k => 125 ≤ k ∧ k ≤ 134) h0 h → q_R Γ q_K 155 84 (fun t w h' => (t = 0 ∧ q_Fr (fun k => 125 ≤ k ∧ k ≤ 134) h0 h')) (66, [(4, (0, u4)), (0, (2, Int.ofNat 125)), (1, (2, Int.ofNat o1)), (2, (2, Int.ofNat o2)), (3, (0, u3))], [], q_hp q_K 155 h, [], 0, 0))
    : ∀ (m : Nat) {u4 : Int} {h : q_F}, (-2147483648 ≤ u4 ∧ u4 < 2147483648) → q_Fr (fun k => 125 ≤ k ∧ k ≤ 134) h0 h → 2147483648 - u4 < (m : Int) → q_R Γ q_K 155 84 (fun t w h' => (t = 0 ∧ q_Fr (fun k => 125 ≤ k ∧ k ≤ 134) h0 h')) (44, [(4, (0, u4)), (0, (2, Int.ofNat 125)), (1, (2, Int.ofNat o1)), (2, (2, Int.ofNat o2)), (3, (0, u3))], [], q_hp q_K 155 h, [], 0, 0)   := by
  obtain ⟨fo10, fo11, fo12, fo13, fo14, fo15, fo16, fo17, fo18, fo19, fo110⟩ := q_fT ho1
  obtain ⟨fo20, fo21, fo22, fo23⟩ := q_fG ho2
  intro m
  induction m with
  | zero =>
    intro u4 h hinv hf hmu
    exact absurd hmu (by omega)
  | succ m ih =>
    intro u4 h hinv hf hmu
    refine r_iload c84_44 rfl rfl ?_
    refine r_aload_n c84_46 rfl rfl ?_
    refine r_geti c84_47 (by first | assumption | omega) (by decide) (by first | assumption | rfl) rfl rfl ?_
    refine r_ic_ge c84_50 rfl (by first | exact q_w32_id (by omega) (by omega) | exact q_w32w _ | exact rfl) (by first | exact q_w32_id (by omega) (by omega) | exact q_w32w _ | exact rfl) ?_ ?_
    · intro b2
      refine q_R.wk (ks := [4, 0, 1, 2, 3]) (lo' := [(4, _), (0, _), (1, _), (2, _), (3, _)]) rfl ?_
      exact hx66 (by repeat (first | exact q_Fr.rf | refine q_Fr.ud ?_ (by omega) (by first | assumption | rfl) rfl | refine q_Fr.udz ?_ (by omega) (by first | assumption | decide | omega) | refine q_Fr.tr ?_ (by assumption) (by intro k9 hk9; omega)))
    · intro b2
      refine r_aload_n c84_53 rfl rfl ?_
      refine r_aload_n c84_54 rfl rfl ?_
      refine r_iload c84_55 rfl rfl ?_
      refine r_vcG c84_57 (by first | assumption | omega) (by decide) (by first | assumption | rfl) rfl rfl rfl (k89 hG (q_Fr.bz (S := fun k => 125 ≤ k ∧ k ≤ 134) hZ (by repeat (first | exact q_Fr.rf | refine q_Fr.ud ?_ (by omega) (by first | assumption | rfl) rfl | refine q_Fr.udz ?_ (by omega) (by first | assumption | decide | omega) | refine q_Fr.tr ?_ (by assumption) (by intro k9 hk9; omega)))) (by first | assumption | exact q_hC (by assumption) | exact q_h1 (by assumption) | exact q_h3 (by assumption) | exact q_h5 (by assumption) | exact q_hG (by assumption) | exact q_hP | exact q_hB1 | exact q_hB2 | exact q_hT6 | exact q_hT15 | exact q_hT24)) ?_
      intro t3 w3 g3 p3
      obtain ⟨rfl, e3⟩ := p3
      refine Or.inl ⟨rfl, ?_⟩
      refine r_iinc c84_60 rfl (by first | exact q_w32_id (by omega) (by omega) | exact q_w32w _ | exact rfl) (lo' := [(4, _), (0, _), (1, _), (2, _), (3, _)]) rfl rfl rfl ?_
      refine r_goto c84_63 ?_
      refine q_R.wk (ks := [4, 0, 1, 2, 3]) (lo' := [(4, _), (0, _), (1, _), (2, _), (3, _)]) rfl ?_
      exact ih (by first | omega | exact ⟨q_rg1 _, q_rg2 _⟩) (by repeat (first | exact q_Fr.rf | refine q_Fr.ud ?_ (by omega) (by first | assumption | rfl) rfl | refine q_Fr.udz ?_ (by omega) (by first | assumption | decide | omega) | refine q_Fr.tr ?_ (by assumption) (by intro k9 hk9; omega))) (by omega)

theorem l84_92 {Γ : q_Γ} (hG : q_GG Γ) {h0 : q_F} (hZ : q_Bz h0) {o1 : Nat} {o2 : Nat} {v3 : Int} {u3 : Int} (ho1 : q_isT o1) (ho2 : q_isG o2)
    (hx113 : ∀ {u4 : Int} {h : q_F}, q_Fr (fun k => 125 ≤ k ∧ k ≤ 134) h0 h → q_R Γ q_K 155 84 (fun t w h' => (t = 0 ∧ q_Fr (fun k => 125 ≤ k ∧ k ≤ 134) h0 h')) (113, [(4, (0, u4)), (0, (2, Int.ofNat 125)), (1, (2, Int.ofNat o1)), (2, (2, Int.ofNat o2)), (3, (0, u3))], [], q_hp q_K 155 h, [], 0, 0))
    : ∀ (m : Nat) {u4 : Int} {h : q_F}, (-2147483648 ≤ u4 ∧ u4 < 2147483648) → q_Fr (fun k => 125 ≤ k ∧ k ≤ 134) h0 h → 2147483648 - u4 < (m : Int) → q_R Γ q_K 155 84 (fun t w h' => (t = 0 ∧ q_Fr (fun k => 125 ≤ k ∧ k ≤ 134) h0 h')) (92, [(4, (0, u4)), (0, (2, Int.ofNat 125)), (1, (2, Int.ofNat o1)), (2, (2, Int.ofNat o2)), (3, (0, u3))], [], q_hp q_K 155 h, [], 0, 0)   := by
  obtain ⟨fo10, fo11, fo12, fo13, fo14, fo15, fo16, fo17, fo18, fo19, fo110⟩ := q_fT ho1
  obtain ⟨fo20, fo21, fo22, fo23⟩ := q_fG ho2
  intro m
  induction m with
  | zero =>
    intro u4 h hinv hf hmu
    exact absurd hmu (by omega)
  | succ m ih =>
    intro u4 h hinv hf hmu
    refine r_iload c84_92 rfl rfl ?_
    refine r_aload_n c84_94 rfl rfl ?_
    refine r_geti c84_95 (by first | assumption | omega) (by decide) (by first | assumption | rfl) rfl rfl ?_
    refine r_ic_ge c84_98 rfl (by first | exact q_w32_id (by omega) (by omega) | exact q_w32w _ | exact rfl) (by first | exact q_w32_id (by omega) (by omega) | exact q_w32w _ | exact rfl) ?_ ?_
    · intro b5
      refine q_R.wk (ks := [4, 0, 1, 2, 3]) (lo' := [(4, _), (0, _), (1, _), (2, _), (3, _)]) rfl ?_
      exact hx113 (by repeat (first | exact q_Fr.rf | refine q_Fr.ud ?_ (by omega) (by first | assumption | rfl) rfl | refine q_Fr.udz ?_ (by omega) (by first | assumption | decide | omega) | refine q_Fr.tr ?_ (by assumption) (by intro k9 hk9; omega)))
    · intro b5
      refine r_aload_n c84_101 rfl rfl ?_
      refine r_iload c84_102 rfl rfl ?_
      refine r_vcG c84_104 (by first | assumption | omega) (by decide) (by first | assumption | rfl) rfl rfl rfl (k82 hG (q_Fr.bz (S := fun k => 125 ≤ k ∧ k ≤ 134) hZ (by repeat (first | exact q_Fr.rf | refine q_Fr.ud ?_ (by omega) (by first | assumption | rfl) rfl | refine q_Fr.udz ?_ (by omega) (by first | assumption | decide | omega) | refine q_Fr.tr ?_ (by assumption) (by intro k9 hk9; omega))))) ?_
      intro t6 w6 g6 p6
      obtain ⟨rfl, e6⟩ := p6
      refine Or.inl ⟨rfl, ?_⟩
      refine r_iinc c84_107 rfl (by first | exact q_w32_id (by omega) (by omega) | exact q_w32w _ | exact rfl) (lo' := [(4, _), (0, _), (1, _), (2, _), (3, _)]) rfl rfl rfl ?_
      refine r_goto c84_110 ?_
      refine q_R.wk (ks := [4, 0, 1, 2, 3]) (lo' := [(4, _), (0, _), (1, _), (2, _), (3, _)]) rfl ?_
      exact ih (by first | omega | exact ⟨q_rg1 _, q_rg2 _⟩) (by repeat (first | exact q_Fr.rf | refine q_Fr.ud ?_ (by omega) (by first | assumption | rfl) rfl | refine q_Fr.udz ?_ (by omega) (by first | assumption | decide | omega) | refine q_Fr.tr ?_ (by assumption) (by intro k9 hk9; omega))) (by omega)

theorem k84 {Γ : q_Γ} (hG : q_GG Γ) {h : q_F} (hZ : q_Bz h) {o1 : Nat} {o2 : Nat} {v3 : Int} (ho1 : q_isT o1) (ho2 : q_isG o2) :
    q_M Γ q_K 155 84 [(2, Int.ofNat 125), (2, Int.ofNat o1), (2, Int.ofNat o2), (0, v3)] h (fun t w h' => (t = 0 ∧ q_Fr (fun k => 125 ≤ k ∧ k ≤ 134) h h')) := by
  obtain ⟨fo10, fo11, fo12, fo13, fo14, fo15, fo16, fo17, fo18, fo19, fo110⟩ := q_fT ho1
  obtain ⟨fo20, fo21, fo22, fo23⟩ := q_fG ho2
  refine q_M.of (by decide) (Nat.le_of_ble_eq_true rfl) hG ?_
  refine r_aload_n c84_0 rfl rfl ?_
  refine r_aload_n c84_1 rfl rfl ?_
  refine r_geti c84_2 (by first | assumption | omega) (by decide) (by first | assumption | rfl) rfl rfl ?_
  refine r_puti c84_5 (by first | assumption | omega) (by decide) (by first | assumption | rfl) rfl rfl rfl ?_
  refine r_aload_n c84_8 rfl rfl ?_
  refine r_iload_n c84_9 rfl rfl ?_
  refine r_puti c84_10 (by first | assumption | omega) (by decide) (by first | assumption | rfl) rfl rfl rfl ?_
  refine r_iconst c84_13 rfl ?_
  refine r_istore c84_14 (lo' := [(4, _), (0, _), (1, _), (2, _), (3, _)]) rfl rfl rfl ?_
  refine q_R.wk (ks := [4, 0, 1, 2, 3]) (lo' := [(4, _), (0, _), (1, _), (2, _), (3, _)]) rfl ?_
  refine l84_16 (o1 := o1) (o2 := o2) (v3 := v3) hG hZ ho1 ho2 ?_ 4294967298 (by first | omega | exact ⟨q_rg1 _, q_rg2 _⟩) (by repeat (first | exact q_Fr.rf | refine q_Fr.ud ?_ (by omega) (by first | assumption | rfl) rfl | refine q_Fr.udz ?_ (by omega) (by first | assumption | decide | omega) | refine q_Fr.tr ?_ (by assumption) (by intro k9 hk9; omega))) (q_mu (by first | omega | exact ⟨q_rg1 _, q_rg2 _⟩))
  · intro u4_1 g1 f1
    refine r_iconst c84_41 rfl ?_
    refine r_istore c84_42 (lo' := [(4, _), (0, _), (1, _), (2, _), (3, _)]) rfl rfl rfl ?_
    refine q_R.wk (ks := [4, 0, 1, 2, 3]) (lo' := [(4, _), (0, _), (1, _), (2, _), (3, _)]) rfl ?_
    refine l84_44 (o1 := o1) (o2 := o2) (v3 := v3) hG hZ ho1 ho2 ?_ 4294967298 (by first | omega | exact ⟨q_rg1 _, q_rg2 _⟩) (by repeat (first | exact q_Fr.rf | refine q_Fr.ud ?_ (by omega) (by first | assumption | rfl) rfl | refine q_Fr.udz ?_ (by omega) (by first | assumption | decide | omega) | refine q_Fr.tr ?_ (by assumption) (by intro k9 hk9; omega))) (q_mu (by first | omega | exact ⟨q_rg1 _, q_rg2 _⟩))
    · intro u4_2 g2 f2
      refine r_aload_n c84_66 rfl rfl ?_
      refine r_getr c84_67 (by first | assumption | omega) (by decide) (by first | assumption | rfl) rfl rfl ?_
      refine r_iconst c84_70 rfl ?_
      refine r_aload_n c84_71 rfl rfl ?_
      refine r_geti c84_72 (by first | assumption | omega) (by decide) (by first | assumption | rfl) rfl rfl ?_
      refine r_aload_n c84_75 rfl rfl ?_
      refine r_getr c84_76 (by first | assumption | omega) (by decide) (by first | assumption | rfl) rfl rfl ?_
      refine r_iconst c84_79 rfl ?_
      refine r_callG c84_80 (fun _ => rfl) rfl rfl rfl (k175 hG (q_Fr.bz (S := fun k => 125 ≤ k ∧ k ≤ 134) hZ (by repeat (first | exact q_Fr.rf | refine q_Fr.ud ?_ (by omega) (by first | assumption | rfl) rfl | refine q_Fr.udz ?_ (by omega) (by first | assumption | decide | omega) | refine q_Fr.tr ?_ (by assumption) (by intro k9 hk9; omega)))) (by first | assumption | omega) (by first | assumption | rfl) (by first | assumption | decide)) ?_
      intro t3 w3 g3 p3
      obtain ⟨rfl, ⟨z3, rfl⟩, rfl⟩ := p3
      refine Or.inr (Or.inl ⟨rfl, ?_⟩)
      refine r_min c84_83 rfl rfl ?_
      refine r_callG c84_86 (fun _ => rfl) rfl rfl rfl (k174 hG (q_Fr.bz (S := fun k => 125 ≤ k ∧ k ≤ 134) hZ (by repeat (first | exact q_Fr.rf | refine q_Fr.ud ?_ (by omega) (by first | assumption | rfl) rfl | refine q_Fr.udz ?_ (by omega) (by first | assumption | decide | omega) | refine q_Fr.tr ?_ (by assumption) (by intro k9 hk9; omega)))) (by first | assumption | omega) (by first | assumption | rfl) (by first | assumption | decide)) ?_
      intro t4 w4 g4 p4
      obtain ⟨rfl, e4⟩ := p4
      refine Or.inl ⟨rfl, ?_⟩
      refine r_iconst c84_89 rfl ?_
      refine r_istore c84_90 (lo' := [(4, _), (0, _), (1, _), (2, _), (3, _)]) rfl rfl rfl ?_
      refine q_R.wk (ks := [4, 0, 1, 2, 3]) (lo' := [(4, _), (0, _), (1, _), (2, _), (3, _)]) rfl ?_
      refine l84_92 (o1 := o1) (o2 := o2) (v3 := v3) hG hZ ho1 ho2 ?_ 4294967298 (by first | omega | exact ⟨q_rg1 _, q_rg2 _⟩) (by repeat (first | exact q_Fr.rf | refine q_Fr.ud ?_ (by omega) (by first | assumption | rfl) rfl | refine q_Fr.udz ?_ (by omega) (by first | assumption | decide | omega) | refine q_Fr.tr ?_ (by assumption) (by intro k9 hk9; omega))) (q_mu (by first | omega | exact ⟨q_rg1 _, q_rg2 _⟩))
      · intro u4_5 g5 f5
        refine r_aload_n c84_113 rfl rfl ?_
        refine r_vcG c84_114 (by first | assumption | omega) (by decide) (by first | assumption | rfl) rfl rfl rfl (k91 hG (q_Fr.bz (S := fun k => 125 ≤ k ∧ k ≤ 134) hZ (by repeat (first | exact q_Fr.rf | refine q_Fr.ud ?_ (by omega) (by first | assumption | rfl) rfl | refine q_Fr.udz ?_ (by omega) (by first | assumption | decide | omega) | refine q_Fr.tr ?_ (by assumption) (by intro k9 hk9; omega))))) ?_
        intro t6 w6 g6 p6
        obtain ⟨rfl, e6⟩ := p6
        refine Or.inl ⟨rfl, ?_⟩
        exact r_vret c84_117 ⟨rfl, rfl, rfl⟩ ⟨rfl, (by repeat (first | exact q_Fr.rf | refine q_Fr.ud ?_ (by omega) (by first | assumption | rfl) rfl | refine q_Fr.udz ?_ (by omega) (by first | assumption | decide | omega) | refine q_Fr.tr ?_ (by assumption) (by intro k9 hk9; omega)))⟩
theorem c93_0 : q_cat 93 0 (.aload_n 0) 1 0 0 (0) := ⟨rfl, rfl⟩
theorem c93_1 : q_cat 93 1 (.getfield 27) 3 4 5 (3) := ⟨rfl, rfl⟩
theorem c93_4 : q_cat 93 4 (.iload_n 1) 1 1 0 (0) := ⟨rfl, rfl⟩
theorem c93_5 : q_cat 93 5 (.invokestatic 63) 3 175 3 (0) := ⟨rfl, rfl⟩
theorem c93_8 : q_cat 93 8 (.istore_n 3) 1 3 0 (0) := ⟨rfl, rfl⟩
theorem c93_9 : q_cat 93 9 (.aload_n 0) 1 0 0 (0) := ⟨rfl, rfl⟩
theorem c93_10 : q_cat 93 10 (.getfield 36) 3 4 8 (3) := ⟨rfl, rfl⟩
theorem c93_13 : q_cat 93 13 (.iload_n 1) 1 1 0 (0) := ⟨rfl, rfl⟩
theorem c93_14 : q_cat 93 14 (.invokestatic 63) 3 175 3 (0) := ⟨rfl, rfl⟩
theorem c93_17 : q_cat 93 17 (.iload_n 3) 1 3 0 (0) := ⟨rfl, rfl⟩
theorem c93_18 : q_cat 93 18 (.iload_n 2) 1 2 0 (0) := ⟨rfl, rfl⟩
theorem c93_19 : q_cat 93 19 (.imul) 1 0 0 (0) := ⟨rfl, rfl⟩
theorem c93_20 : q_cat 93 20 (.iadd) 1 0 0 (0) := ⟨rfl, rfl⟩
theorem c93_21 : q_cat 93 21 (.istore 4) 2 4 0 (0) := ⟨rfl, rfl⟩
theorem c93_23 : q_cat 93 23 (.aload_n 0) 1 0 0 (0) := ⟨rfl, rfl⟩
theorem c93_24 : q_cat 93 24 (.getfield 36) 3 4 8 (3) := ⟨rfl, rfl⟩
theorem c93_27 : q_cat 93 27 (.iload_n 1) 1 1 0 (0) := ⟨rfl, rfl⟩
theorem c93_28 : q_cat 93 28 (.iconst 1) 1 0 0 (0) := ⟨rfl, rfl⟩
theorem c93_29 : q_cat 93 29 (.iadd) 1 0 0 (0) := ⟨rfl, rfl⟩
theorem c93_30 : q_cat 93 30 (.invokestatic 63) 3 175 3 (0) := ⟨rfl, rfl⟩
theorem c93_33 : q_cat 93 33 (.iload_n 3) 1 3 0 (0) := ⟨rfl, rfl⟩
theorem c93_34 : q_cat 93 34 (.aload_n 0) 1 0 0 (0) := ⟨rfl, rfl⟩
theorem c93_35 : q_cat 93 35 (.getfield 21) 3 4 3 (3) := ⟨rfl, rfl⟩
theorem c93_38 : q_cat 93 38 (.iload_n 1) 1 1 0 (0) := ⟨rfl, rfl⟩
theorem c93_39 : q_cat 93 39 (.invokestatic 63) 3 175 3 (0) := ⟨rfl, rfl⟩
theorem c93_42 : q_cat 93 42 (.iconst 1) 1 0 0 (0) := ⟨rfl, rfl⟩
theorem c93_43 : q_cat 93 43 (.isub) 1 0 0 (0) := ⟨rfl, rfl⟩
theorem c93_44 : q_cat 93 44 (.iload_n 2) 1 2 0 (0) := ⟨rfl, rfl⟩
theorem c93_45 : q_cat 93 45 (.isub) 1 0 0 (0) := ⟨rfl, rfl⟩
theorem c93_46 : q_cat 93 46 (.imul) 1 0 0 (0) := ⟨rfl, rfl⟩
theorem c93_47 : q_cat 93 47 (.iadd) 1 0 0 (0) := ⟨rfl, rfl⟩
theorem c93_48 : q_cat 93 48 (.istore 5) 2 5 0 (0) := ⟨rfl, rfl⟩
theorem c93_50 : q_cat 93 50 (.aload_n 0) 1 0 0 (0) := ⟨rfl, rfl⟩
theorem c93_51 : q_cat 93 51 (.getfield 24) 3 4 4 (3) := ⟨rfl, rfl⟩
theorem c93_54 : q_cat 93 54 (.iload_n 1) 1 1 0 (0) := ⟨rfl, rfl⟩
theorem c93_55 : q_cat 93 55 (.invokestatic 63) 3 175 3 (0) := ⟨rfl, rfl⟩
theorem c93_58 : q_cat 93 58 (.iload 4) 2 4 0 (0) := ⟨rfl, rfl⟩
theorem c93_60 : q_cat 93 60 (.iload 5) 2 5 0 (0) := ⟨rfl, rfl⟩
theorem c93_62 : q_cat 93 62 (.invokestatic 67) 3 0 7 (0) := ⟨rfl, rfl⟩
theorem c93_65 : q_cat 93 65 (.invokestatic 67) 3 0 7 (0) := ⟨rfl, rfl⟩
theorem c93_68 : q_cat 93 68 (.ireturn) 1 0 0 (0) := ⟨rfl, rfl⟩
theorem k93 {Γ : q_Γ} (hG : q_GG Γ) {h : q_F} (hZ : q_Bz h) {v1 : Int} {v2 : Int}  :
    q_M Γ q_K 155 93 [(2, Int.ofNat 125), (0, v1), (0, v2)] h (fun t w h' => (t = 1 ∧ (∃ z, w = ((0, z) : q_V)) ∧ h' = h)) := by
  refine q_M.of (by decide) (Nat.le_of_ble_eq_true rfl) hG ?_
  refine r_aload_n c93_0 rfl rfl ?_
  refine r_getr c93_1 (by first | assumption | omega) (by decide) (by first | assumption | rfl) rfl rfl ?_
  refine r_iload_n c93_4 rfl rfl ?_
  refine r_callG c93_5 (fun _ => rfl) rfl rfl rfl (k175 hG hZ (by first | assumption | omega) (by first | assumption | rfl) (by first | assumption | decide)) ?_
  intro t1 w1 g1 p1
  obtain ⟨rfl, ⟨z1, rfl⟩, rfl⟩ := p1
  refine Or.inr (Or.inl ⟨rfl, ?_⟩)
  refine r_istore_n c93_8 (lo' := [(3, _), (0, _), (1, _), (2, _)]) rfl rfl rfl ?_
  refine r_aload_n c93_9 rfl rfl ?_
  refine r_getr c93_10 (by first | assumption | omega) (by decide) (by first | assumption | rfl) rfl rfl ?_
  refine r_iload_n c93_13 rfl rfl ?_
  refine r_callG c93_14 (fun _ => rfl) rfl rfl rfl (k175 hG hZ (by first | assumption | omega) (by first | assumption | rfl) (by first | assumption | decide)) ?_
  intro t2 w2 g2 p2
  obtain ⟨rfl, ⟨z2, rfl⟩, rfl⟩ := p2
  refine Or.inr (Or.inl ⟨rfl, ?_⟩)
  refine r_iload_n c93_17 rfl rfl ?_
  refine r_iload_n c93_18 rfl rfl ?_
  refine r_imul c93_19 (by first | exact q_w32_id (by omega) (by omega) | exact q_w32w _ | exact rfl) rfl ?_
  refine r_iadd c93_20 (by first | exact q_w32_id (by omega) (by omega) | exact q_w32w _ | exact rfl) rfl ?_
  refine r_istore c93_21 (lo' := [(4, _), (3, _), (0, _), (1, _), (2, _)]) rfl rfl rfl ?_
  refine r_aload_n c93_23 rfl rfl ?_
  refine r_getr c93_24 (by first | assumption | omega) (by decide) (by first | assumption | rfl) rfl rfl ?_
  refine r_iload_n c93_27 rfl rfl ?_
  refine r_iconst c93_28 rfl ?_
  refine r_iadd c93_29 (by first | exact q_w32_id (by omega) (by omega) | exact q_w32w _ | exact rfl) rfl ?_
  refine r_callG c93_30 (fun _ => rfl) rfl rfl rfl (k175 hG hZ (by first | assumption | omega) (by first | assumption | rfl) (by first | assumption | decide)) ?_
  intro t3 w3 g3 p3
  obtain ⟨rfl, ⟨z3, rfl⟩, rfl⟩ := p3
  refine Or.inr (Or.inl ⟨rfl, ?_⟩)
  refine r_iload_n c93_33 rfl rfl ?_
  refine r_aload_n c93_34 rfl rfl ?_
  refine r_getr c93_35 (by first | assumption | omega) (by decide) (by first | assumption | rfl) rfl rfl ?_
  refine r_iload_n c93_38 rfl rfl ?_
  refine r_callG c93_39 (fun _ => rfl) rfl rfl rfl (k175 hG hZ (by first | assumption | omega) (by first | assumption | rfl) (by first | assumption | decide)) ?_
  intro t4 w4 g4 p4
  obtain ⟨rfl, ⟨z4, rfl⟩, rfl⟩ := p4
  refine Or.inr (Or.inl ⟨rfl, ?_⟩)
  refine r_iconst c93_42 rfl ?_
  refine r_isub c93_43 (by first | exact q_w32_id (by omega) (by omega) | exact q_w32w _ | exact rfl) rfl ?_
  refine r_iload_n c93_44 rfl rfl ?_
  refine r_isub c93_45 (by first | exact q_w32_id (by omega) (by omega) | exact q_w32w _ | exact rfl) rfl ?_
  refine r_imul c93_46 (by first | exact q_w32_id (by omega) (by omega) | exact q_w32w _ | exact rfl) rfl ?_
  refine r_iadd c93_47 (by first | exact q_w32_id (by omega) (by omega) | exact q_w32w _ | exact rfl) rfl ?_
  refine r_istore c93_48 (lo' := [(5, _), (4, _), (3, _), (0, _), (1, _), (2, _)]) rfl rfl rfl ?_
  refine r_aload_n c93_50 rfl rfl ?_
  refine r_getr c93_51 (by first | assumption | omega) (by decide) (by first | assumption | rfl) rfl rfl ?_
  refine r_iload_n c93_54 rfl rfl ?_
  refine r_callG c93_55 (fun _ => rfl) rfl rfl rfl (k175 hG hZ (by first | assumption | omega) (by first | assumption | rfl) (by first | assumption | decide)) ?_
  intro t5 w5 g5 p5
  obtain ⟨rfl, ⟨z5, rfl⟩, rfl⟩ := p5
  refine Or.inr (Or.inl ⟨rfl, ?_⟩)
  refine r_iload c93_58 rfl rfl ?_
  refine r_iload c93_60 rfl rfl ?_
  refine r_min c93_62 rfl rfl ?_
  refine r_min c93_65 rfl rfl ?_
  exact r_iret c93_68 ⟨rfl, rfl, rfl⟩ ⟨rfl, ⟨_, rfl⟩, rfl⟩
theorem c95_0 : q_cat 95 0 (.ldc 153) 2 0 0 (1000000) := ⟨rfl, rfl⟩
theorem c95_2 : q_cat 95 2 (.aload_n 0) 1 0 0 (0) := ⟨rfl, rfl⟩
theorem c95_3 : q_cat 95 3 (.iload_n 1) 1 1 0 (0) := ⟨rfl, rfl⟩
theorem c95_4 : q_cat 95 4 (.iload_n 2) 1 2 0 (0) := ⟨rfl, rfl⟩
theorem c95_5 : q_cat 95 5 (.invokevirtual 154) 3 93 0 (0) := ⟨rfl, rfl⟩
theorem c95_8 : q_cat 95 8 (.invokestatic 114) 3 201 3 (0) := ⟨rfl, rfl⟩
theorem c95_11 : q_cat 95 11 (.ireturn) 1 0 0 (0) := ⟨rfl, rfl⟩
theorem k95 {Γ : q_Γ} (hG : q_GG Γ) {h : q_F} (hZ : q_Bz h) {v1 : Int} {v2 : Int}  :
    q_M Γ q_K 155 95 [(2, Int.ofNat 125), (0, v1), (0, v2)] h (fun t w h' => (t = 1 ∧ (∃ z, w = ((0, z) : q_V)) ∧ h' = h)) := by
  refine q_M.of (by decide) (Nat.le_of_ble_eq_true rfl) hG ?_
  refine r_ldc c95_0 rfl rfl ?_
  refine r_aload_n c95_2 rfl rfl ?_
  refine r_iload_n c95_3 rfl rfl ?_
  refine r_iload_n c95_4 rfl rfl ?_
  refine r_vcG c95_5 (by first | assumption | omega) (by decide) (by first | assumption | rfl) rfl rfl rfl (k93 hG hZ) ?_
  intro t1 w1 g1 p1
  obtain ⟨rfl, ⟨z1, rfl⟩, rfl⟩ := p1
  refine Or.inr (Or.inl ⟨rfl, ?_⟩)
  refine r_callG c95_8 (fun _ => rfl) rfl rfl rfl (k201 hG hZ) ?_
  intro t2 w2 g2 p2
  obtain ⟨rfl, ⟨z2, rfl⟩, rfl⟩ := p2
  refine Or.inr (Or.inl ⟨rfl, ?_⟩)
  exact r_iret c95_11 ⟨rfl, rfl, rfl⟩ ⟨rfl, ⟨_, rfl⟩, rfl⟩
theorem c76_0 : q_cat 76 0 (.iconst 0) 1 0 0 (0) := ⟨rfl, rfl⟩
theorem c76_1 : q_cat 76 1 (.istore_n 2) 1 2 0 (0) := ⟨rfl, rfl⟩
theorem c76_2 : q_cat 76 2 (.iconst 0) 1 0 0 (0) := ⟨rfl, rfl⟩
theorem c76_3 : q_cat 76 3 (.istore_n 3) 1 3 0 (0) := ⟨rfl, rfl⟩
theorem c76_4 : q_cat 76 4 (.iload_n 3) 1 3 0 (0) := ⟨rfl, rfl⟩
theorem c76_5 : q_cat 76 5 (.aload_n 0) 1 0 0 (0) := ⟨rfl, rfl⟩
theorem c76_6 : q_cat 76 6 (.iload_n 1) 1 1 0 (0) := ⟨rfl, rfl⟩
theorem c76_7 : q_cat 76 7 (.invokevirtual 135) 3 79 0 (0) := ⟨rfl, rfl⟩
theorem c76_10 : q_cat 76 10 (.if_icmp .ge 20) 3 30 0 (0) := ⟨rfl, rfl⟩
theorem c76_13 : q_cat 76 13 (.iload_n 2) 1 2 0 (0) := ⟨rfl, rfl⟩
theorem c76_14 : q_cat 76 14 (.aload_n 0) 1 0 0 (0) := ⟨rfl, rfl⟩
theorem c76_15 : q_cat 76 15 (.iload_n 1) 1 1 0 (0) := ⟨rfl, rfl⟩
theorem c76_16 : q_cat 76 16 (.iload_n 3) 1 3 0 (0) := ⟨rfl, rfl⟩
theorem c76_17 : q_cat 76 17 (.invokevirtual 154) 3 93 0 (0) := ⟨rfl, rfl⟩
theorem c76_20 : q_cat 76 20 (.invokestatic 105) 3 0 6 (0) := ⟨rfl, rfl⟩
theorem c76_23 : q_cat 76 23 (.istore_n 2) 1 2 0 (0) := ⟨rfl, rfl⟩
theorem c76_24 : q_cat 76 24 (.iinc 3 1) 3 3 0 (0) := ⟨rfl, rfl⟩
theorem c76_27 : q_cat 76 27 (.goto (-23)) 3 4 0 (0) := ⟨rfl, rfl⟩
theorem c76_30 : q_cat 76 30 (.iload_n 2) 1 2 0 (0) := ⟨rfl, rfl⟩
theorem c76_31 : q_cat 76 31 (.ireturn) 1 0 0 (0) := ⟨rfl, rfl⟩
theorem l76_4 {Γ : q_Γ} (hG : q_GG Γ) {h0 : q_F} (hZ : q_Bz h0) {v1 : Int} {u1 : Int} 
    (hx30 : ∀ {u3 u2 : Int} {h : q_F}, h = h0 → q_R Γ q_K 155 76 (fun t w h' => (t = 1 ∧ (∃ z, w = ((0, z) : q_V)) ∧ h' = h0)) (30, [(3, (0, u3)), (2, (0, u2)), (0, (2, Int.ofNat 125)), (1, (0, u1))], [], q_hp q_K 155 h, [], 0, 0))
    : ∀ (m : Nat) {u3 u2 : Int} {h : q_F}, (-2147483648 ≤ u3 ∧ u3 < 2147483648) → h = h0 → 2147483648 - u3 < (m : Int) → q_R Γ q_K 155 76 (fun t w h' => (t = 1 ∧ (∃ z, w = ((0, z) : q_V)) ∧ h' = h0)) (4, [(3, (0, u3)), (2, (0, u2)), (0, (2, Int.ofNat 125)), (1, (0, u1))], [], q_hp q_K 155 h, [], 0, 0)   := by
  intro m
  induction m with
  | zero =>
    intro u3 u2 h hinv hf hmu
    exact absurd hmu (by omega)
  | succ m ih =>
    intro u3 u2 h hinv hf hmu
    subst hf
    refine r_iload_n c76_4 rfl rfl ?_
    refine r_aload_n c76_5 rfl rfl ?_
    refine r_iload_n c76_6 rfl rfl ?_
    refine r_vcG c76_7 (by first | assumption | omega) (by decide) (by first | assumption | rfl) rfl rfl rfl (k79 hG hZ) ?_
    intro t1 w1 g1 p1
    obtain ⟨rfl, ⟨z1, rfl⟩, rfl⟩ := p1
    refine Or.inr (Or.inl ⟨rfl, ?_⟩)
    refine r_ic_ge c76_10 rfl (by first | exact q_w32_id (by omega) (by omega) | exact q_w32w _ | exact rfl) (by first | exact q_w32_id (by omega) (by omega) | exact q_w32w _ | exact rfl) ?_ ?_
    · intro b2
      refine q_R.wk (ks := [3, 2, 0, 1]) (lo' := [(3, _), (2, _), (0, _), (1, _)]) rfl ?_
      exact hx30 rfl
    · intro b2
      refine r_iload_n c76_13 rfl rfl ?_
      refine r_aload_n c76_14 rfl rfl ?_
      refine r_iload_n c76_15 rfl rfl ?_
      refine r_iload_n c76_16 rfl rfl ?_
      refine r_vcG c76_17 (by first | assumption | omega) (by decide) (by first | assumption | rfl) rfl rfl rfl (k93 hG hZ) ?_
      intro t3 w3 g3 p3
      obtain ⟨rfl, ⟨z3, rfl⟩, rfl⟩ := p3
      refine Or.inr (Or.inl ⟨rfl, ?_⟩)
      refine r_max c76_20 rfl rfl ?_
      refine r_istore_n c76_23 (lo' := [(2, _), (3, _), (0, _), (1, _)]) rfl rfl rfl ?_
      refine r_iinc c76_24 rfl (by first | exact q_w32_id (by omega) (by omega) | exact q_w32w _ | exact rfl) (lo' := [(3, _), (2, _), (0, _), (1, _)]) rfl rfl rfl ?_
      refine r_goto c76_27 ?_
      refine q_R.wk (ks := [3, 2, 0, 1]) (lo' := [(3, _), (2, _), (0, _), (1, _)]) rfl ?_
      exact ih (by first | omega | exact ⟨q_rg1 _, q_rg2 _⟩) rfl (by omega)

theorem k76 {Γ : q_Γ} (hG : q_GG Γ) {h : q_F} (hZ : q_Bz h) {v1 : Int}  :
    q_M Γ q_K 155 76 [(2, Int.ofNat 125), (0, v1)] h (fun t w h' => (t = 1 ∧ (∃ z, w = ((0, z) : q_V)) ∧ h' = h)) := by
  refine q_M.of (by decide) (Nat.le_of_ble_eq_true rfl) hG ?_
  refine r_iconst c76_0 rfl ?_
  refine r_istore_n c76_1 (lo' := [(2, _), (0, _), (1, _)]) rfl rfl rfl ?_
  refine r_iconst c76_2 rfl ?_
  refine r_istore_n c76_3 (lo' := [(3, _), (2, _), (0, _), (1, _)]) rfl rfl rfl ?_
  refine q_R.wk (ks := [3, 2, 0, 1]) (lo' := [(3, _), (2, _), (0, _), (1, _)]) rfl ?_
  refine l76_4 (v1 := v1) hG hZ  ?_ 4294967298 (by first | omega | exact ⟨q_rg1 _, q_rg2 _⟩) rfl (q_mu (by first | omega | exact ⟨q_rg1 _, q_rg2 _⟩))
  · intro u3_1 u2_1 g1 f1
    subst f1
    refine r_iload_n c76_30 rfl rfl ?_
    exact r_iret c76_31 ⟨rfl, rfl, rfl⟩ ⟨rfl, ⟨_, rfl⟩, rfl⟩
theorem c77_0 : q_cat 77 0 (.aload_n 0) 1 0 0 (0) := ⟨rfl, rfl⟩
theorem c77_1 : q_cat 77 1 (.iload_n 1) 1 1 0 (0) := ⟨rfl, rfl⟩
theorem c77_2 : q_cat 77 2 (.invokevirtual 147) 3 76 0 (0) := ⟨rfl, rfl⟩
theorem c77_5 : q_cat 77 5 (.istore_n 2) 1 2 0 (0) := ⟨rfl, rfl⟩
theorem c77_6 : q_cat 77 6 (.iconst 0) 1 0 0 (0) := ⟨rfl, rfl⟩
theorem c77_7 : q_cat 77 7 (.istore_n 3) 1 3 0 (0) := ⟨rfl, rfl⟩
theorem c77_8 : q_cat 77 8 (.iconst 0) 1 0 0 (0) := ⟨rfl, rfl⟩
theorem c77_9 : q_cat 77 9 (.istore 4) 2 4 0 (0) := ⟨rfl, rfl⟩
theorem c77_11 : q_cat 77 11 (.iload 4) 2 4 0 (0) := ⟨rfl, rfl⟩
theorem c77_13 : q_cat 77 13 (.aload_n 0) 1 0 0 (0) := ⟨rfl, rfl⟩
theorem c77_14 : q_cat 77 14 (.iload_n 1) 1 1 0 (0) := ⟨rfl, rfl⟩
theorem c77_15 : q_cat 77 15 (.invokevirtual 135) 3 79 0 (0) := ⟨rfl, rfl⟩
theorem c77_18 : q_cat 77 18 (.if_icmp .ge 28) 3 46 0 (0) := ⟨rfl, rfl⟩
theorem c77_21 : q_cat 77 21 (.iload_n 3) 1 3 0 (0) := ⟨rfl, rfl⟩
theorem c77_22 : q_cat 77 22 (.aload_n 0) 1 0 0 (0) := ⟨rfl, rfl⟩
theorem c77_23 : q_cat 77 23 (.iload_n 1) 1 1 0 (0) := ⟨rfl, rfl⟩
theorem c77_24 : q_cat 77 24 (.iload 4) 2 4 0 (0) := ⟨rfl, rfl⟩
theorem c77_26 : q_cat 77 26 (.invokevirtual 154) 3 93 0 (0) := ⟨rfl, rfl⟩
theorem c77_29 : q_cat 77 29 (.iload_n 2) 1 2 0 (0) := ⟨rfl, rfl⟩
theorem c77_30 : q_cat 77 30 (.if_icmp .ne 7) 3 37 0 (0) := ⟨rfl, rfl⟩
theorem c77_33 : q_cat 77 33 (.iconst 1) 1 0 0 (0) := ⟨rfl, rfl⟩
theorem c77_34 : q_cat 77 34 (.goto 4) 3 38 0 (0) := ⟨rfl, rfl⟩
theorem c77_37 : q_cat 77 37 (.iconst 0) 1 0 0 (0) := ⟨rfl, rfl⟩
theorem c77_38 : q_cat 77 38 (.iadd) 1 0 0 (0) := ⟨rfl, rfl⟩
theorem c77_39 : q_cat 77 39 (.istore_n 3) 1 3 0 (0) := ⟨rfl, rfl⟩
theorem c77_40 : q_cat 77 40 (.iinc 4 1) 3 4 0 (0) := ⟨rfl, rfl⟩
theorem c77_43 : q_cat 77 43 (.goto (-32)) 3 11 0 (0) := ⟨rfl, rfl⟩
theorem c77_46 : q_cat 77 46 (.iload_n 3) 1 3 0 (0) := ⟨rfl, rfl⟩
theorem c77_47 : q_cat 77 47 (.ireturn) 1 0 0 (0) := ⟨rfl, rfl⟩
theorem l77_11 {Γ : q_Γ} (hG : q_GG Γ) {h0 : q_F} (hZ : q_Bz h0) {v1 : Int} {u2 : Int} {u1 : Int} 
    (hx46 : ∀ {u4 u3 : Int} {h : q_F}, h = h0 → q_R Γ q_K 155 77 (fun t w h' => (t = 1 ∧ (∃ z, w = ((0, z) : q_V)) ∧ h' = h0)) (46, [(4, (0, u4)), (3, (0, u3)), (2, (0, u2)), (0, (2, Int.ofNat 125)), (1, (0, u1))], [], q_hp q_K 155 h, [], 0, 0))
    : ∀ (m : Nat) {u4 u3 : Int} {h : q_F}, (-2147483648 ≤ u4 ∧ u4 < 2147483648) → h = h0 → 2147483648 - u4 < (m : Int) → q_R Γ q_K 155 77 (fun t w h' => (t = 1 ∧ (∃ z, w = ((0, z) : q_V)) ∧ h' = h0)) (11, [(4, (0, u4)), (3, (0, u3)), (2, (0, u2)), (0, (2, Int.ofNat 125)), (1, (0, u1))], [], q_hp q_K 155 h, [], 0, 0)   := by
  intro m
  induction m with
  | zero =>
    intro u4 u3 h hinv hf hmu
    exact absurd hmu (by omega)
  | succ m ih =>
    intro u4 u3 h hinv hf hmu
    subst hf
    refine r_iload c77_11 rfl rfl ?_
    refine r_aload_n c77_13 rfl rfl ?_
    refine r_iload_n c77_14 rfl rfl ?_
    refine r_vcG c77_15 (by first | assumption | omega) (by decide) (by first | assumption | rfl) rfl rfl rfl (k79 hG hZ) ?_
    intro t2 w2 g2 p2
    obtain ⟨rfl, ⟨z2, rfl⟩, rfl⟩ := p2
    refine Or.inr (Or.inl ⟨rfl, ?_⟩)
    refine r_ic_ge c77_18 rfl (by first | exact q_w32_id (by omega) (by omega) | exact q_w32w _ | exact rfl) (by first | exact q_w32_id (by omega) (by omega) | exact q_w32w _ | exact rfl) ?_ ?_
    · intro b3
      refine q_R.wk (ks := [4, 3, 2, 0, 1]) (lo' := [(4, _), (3, _), (2, _), (0, _), (1, _)]) rfl ?_
      exact hx46 rfl
    · intro b3
      refine r_iload_n c77_21 rfl rfl ?_
      refine r_aload_n c77_22 rfl rfl ?_
      refine r_iload_n c77_23 rfl rfl ?_
      refine r_iload c77_24 rfl rfl ?_
      refine r_vcG c77_26 (by first | assumption | omega) (by decide) (by first | assumption | rfl) rfl rfl rfl (k93 hG hZ) ?_
      intro t4 w4 g4 p4
      obtain ⟨rfl, ⟨z4, rfl⟩, rfl⟩ := p4
      refine Or.inr (Or.inl ⟨rfl, ?_⟩)
      refine r_iload_n c77_29 rfl rfl ?_
      refine r_ic_ne c77_30 rfl (by first | exact q_w32_id (by omega) (by omega) | exact q_w32w _ | exact rfl) (by first | exact q_w32_id (by omega) (by omega) | exact q_w32w _ | exact rfl) ?_ ?_
      · intro b5
        refine r_iconst c77_37 rfl ?_
        refine r_iadd c77_38 (by first | exact q_w32_id (by omega) (by omega) | exact q_w32w _ | exact rfl) rfl ?_
        refine r_istore_n c77_39 (lo' := [(3, _), (4, _), (2, _), (0, _), (1, _)]) rfl rfl rfl ?_
        refine r_iinc c77_40 rfl (by first | exact q_w32_id (by omega) (by omega) | exact q_w32w _ | exact rfl) (lo' := [(4, _), (3, _), (2, _), (0, _), (1, _)]) rfl rfl rfl ?_
        refine r_goto c77_43 ?_
        refine q_R.wk (ks := [4, 3, 2, 0, 1]) (lo' := [(4, _), (3, _), (2, _), (0, _), (1, _)]) rfl ?_
        exact ih (by first | omega | exact ⟨q_rg1 _, q_rg2 _⟩) rfl (by omega)
      · intro b5
        refine r_iconst c77_33 rfl ?_
        refine r_goto c77_34 ?_
        refine r_iadd c77_38 (by first | exact q_w32_id (by omega) (by omega) | exact q_w32w _ | exact rfl) rfl ?_
        refine r_istore_n c77_39 (lo' := [(3, _), (4, _), (2, _), (0, _), (1, _)]) rfl rfl rfl ?_
        refine r_iinc c77_40 rfl (by first | exact q_w32_id (by omega) (by omega) | exact q_w32w _ | exact rfl) (lo' := [(4, _), (3, _), (2, _), (0, _), (1, _)]) rfl rfl rfl ?_
        refine r_goto c77_43 ?_
        refine q_R.wk (ks := [4, 3, 2, 0, 1]) (lo' := [(4, _), (3, _), (2, _), (0, _), (1, _)]) rfl ?_
        exact ih (by first | omega | exact ⟨q_rg1 _, q_rg2 _⟩) rfl (by omega)

theorem k77 {Γ : q_Γ} (hG : q_GG Γ) {h : q_F} (hZ : q_Bz h) {v1 : Int}  :
    q_M Γ q_K 155 77 [(2, Int.ofNat 125), (0, v1)] h (fun t w h' => (t = 1 ∧ (∃ z, w = ((0, z) : q_V)) ∧ h' = h)) := by
  refine q_M.of (by decide) (Nat.le_of_ble_eq_true rfl) hG ?_
  refine r_aload_n c77_0 rfl rfl ?_
  refine r_iload_n c77_1 rfl rfl ?_
  refine r_vcG c77_2 (by first | assumption | omega) (by decide) (by first | assumption | rfl) rfl rfl rfl (k76 hG hZ) ?_
  intro t1 w1 g1 p1
  obtain ⟨rfl, ⟨z1, rfl⟩, rfl⟩ := p1
  refine Or.inr (Or.inl ⟨rfl, ?_⟩)
  refine r_istore_n c77_5 (lo' := [(2, _), (0, _), (1, _)]) rfl rfl rfl ?_
  refine r_iconst c77_6 rfl ?_
  refine r_istore_n c77_7 (lo' := [(3, _), (2, _), (0, _), (1, _)]) rfl rfl rfl ?_
  refine r_iconst c77_8 rfl ?_
  refine r_istore c77_9 (lo' := [(4, _), (3, _), (2, _), (0, _), (1, _)]) rfl rfl rfl ?_
  refine q_R.wk (ks := [4, 3, 2, 0, 1]) (lo' := [(4, _), (3, _), (2, _), (0, _), (1, _)]) rfl ?_
  refine l77_11 (v1 := v1) hG hZ  ?_ 4294967298 (by first | omega | exact ⟨q_rg1 _, q_rg2 _⟩) rfl (q_mu (by first | omega | exact ⟨q_rg1 _, q_rg2 _⟩))
  · intro u4_2 u3_2 g2 f2
    subst f2
    refine r_iload_n c77_46 rfl rfl ?_
    exact r_iret c77_47 ⟨rfl, rfl, rfl⟩ ⟨rfl, ⟨_, rfl⟩, rfl⟩
theorem c88_0 : q_cat 88 0 (.iload_n 2) 1 2 0 (0) := ⟨rfl, rfl⟩
theorem c88_1 : q_cat 88 1 (.tableswitch 91 0 6 #[43, 49, 58, 67, 73, 79, 85]) 43 0 0 (0) := ⟨rfl, rfl⟩
theorem c88_44 : q_cat 88 44 (.aload_n 0) 1 0 0 (0) := ⟨rfl, rfl⟩
theorem c88_45 : q_cat 88 45 (.iload_n 1) 1 1 0 (0) := ⟨rfl, rfl⟩
theorem c88_46 : q_cat 88 46 (.invokevirtual 135) 3 79 0 (0) := ⟨rfl, rfl⟩
theorem c88_49 : q_cat 88 49 (.ireturn) 1 0 0 (0) := ⟨rfl, rfl⟩
theorem c88_50 : q_cat 88 50 (.aload_n 0) 1 0 0 (0) := ⟨rfl, rfl⟩
theorem c88_51 : q_cat 88 51 (.getfield 24) 3 4 4 (3) := ⟨rfl, rfl⟩
theorem c88_54 : q_cat 88 54 (.iload_n 1) 1 1 0 (0) := ⟨rfl, rfl⟩
theorem c88_55 : q_cat 88 55 (.invokestatic 63) 3 175 3 (0) := ⟨rfl, rfl⟩
theorem c88_58 : q_cat 88 58 (.ireturn) 1 0 0 (0) := ⟨rfl, rfl⟩
theorem c88_59 : q_cat 88 59 (.aload_n 0) 1 0 0 (0) := ⟨rfl, rfl⟩
theorem c88_60 : q_cat 88 60 (.getfield 27) 3 4 5 (3) := ⟨rfl, rfl⟩
theorem c88_63 : q_cat 88 63 (.iload_n 1) 1 1 0 (0) := ⟨rfl, rfl⟩
theorem c88_64 : q_cat 88 64 (.invokestatic 63) 3 175 3 (0) := ⟨rfl, rfl⟩
theorem c88_67 : q_cat 88 67 (.ireturn) 1 0 0 (0) := ⟨rfl, rfl⟩
theorem c88_68 : q_cat 88 68 (.aload_n 0) 1 0 0 (0) := ⟨rfl, rfl⟩
theorem c88_69 : q_cat 88 69 (.iload_n 1) 1 1 0 (0) := ⟨rfl, rfl⟩
theorem c88_70 : q_cat 88 70 (.invokevirtual 144) 3 92 0 (0) := ⟨rfl, rfl⟩
theorem c88_73 : q_cat 88 73 (.ireturn) 1 0 0 (0) := ⟨rfl, rfl⟩
theorem c88_74 : q_cat 88 74 (.aload_n 0) 1 0 0 (0) := ⟨rfl, rfl⟩
theorem c88_75 : q_cat 88 75 (.iload_n 1) 1 1 0 (0) := ⟨rfl, rfl⟩
theorem c88_76 : q_cat 88 76 (.invokevirtual 138) 3 94 0 (0) := ⟨rfl, rfl⟩
theorem c88_79 : q_cat 88 79 (.ireturn) 1 0 0 (0) := ⟨rfl, rfl⟩
theorem c88_80 : q_cat 88 80 (.aload_n 0) 1 0 0 (0) := ⟨rfl, rfl⟩
theorem c88_81 : q_cat 88 81 (.iload_n 1) 1 1 0 (0) := ⟨rfl, rfl⟩
theorem c88_82 : q_cat 88 82 (.invokevirtual 147) 3 76 0 (0) := ⟨rfl, rfl⟩
theorem c88_85 : q_cat 88 85 (.ireturn) 1 0 0 (0) := ⟨rfl, rfl⟩
theorem c88_86 : q_cat 88 86 (.aload_n 0) 1 0 0 (0) := ⟨rfl, rfl⟩
theorem c88_87 : q_cat 88 87 (.iload_n 1) 1 1 0 (0) := ⟨rfl, rfl⟩
theorem c88_88 : q_cat 88 88 (.invokevirtual 150) 3 77 0 (0) := ⟨rfl, rfl⟩
theorem c88_91 : q_cat 88 91 (.ireturn) 1 0 0 (0) := ⟨rfl, rfl⟩
theorem c88_92 : q_cat 88 92 (.aload_n 0) 1 0 0 (0) := ⟨rfl, rfl⟩
theorem c88_93 : q_cat 88 93 (.getfield 30) 3 4 6 (3) := ⟨rfl, rfl⟩
theorem c88_96 : q_cat 88 96 (.iload_n 1) 1 1 0 (0) := ⟨rfl, rfl⟩
theorem c88_97 : q_cat 88 97 (.invokestatic 63) 3 175 3 (0) := ⟨rfl, rfl⟩
theorem c88_100 : q_cat 88 100 (.ireturn) 1 0 0 (0) := ⟨rfl, rfl⟩
theorem k88 {Γ : q_Γ} (hG : q_GG Γ) {h : q_F} (hZ : q_Bz h) {v1 : Int} {v2 : Int}  :
    q_M Γ q_K 155 88 [(2, Int.ofNat 125), (0, v1), (0, v2)] h (fun t w h' => (t = 1 ∧ (∃ z, w = ((0, z) : q_V)) ∧ h' = h)) := by
  refine q_M.of (by decide) (Nat.le_of_ble_eq_true rfl) hG ?_
  refine r_iload_n c88_0 rfl rfl ?_
  refine r_tsw c88_1 (td := 92) (by first | exact q_w32_id (by omega) (by omega) | exact q_w32w _ | exact rfl) (by decide) (by decide) rfl rfl ?_ ?_
  · intro b1
    refine r_aload_n c88_92 rfl rfl ?_
    refine r_getr c88_93 (by first | assumption | omega) (by decide) (by first | assumption | rfl) rfl rfl ?_
    refine r_iload_n c88_96 rfl rfl ?_
    refine r_callG c88_97 (fun _ => rfl) rfl rfl rfl (k175 hG hZ (by first | assumption | omega) (by first | assumption | rfl) (by first | assumption | decide)) ?_
    intro t2 w2 g2 p2
    obtain ⟨rfl, ⟨z2, rfl⟩, rfl⟩ := p2
    refine Or.inr (Or.inl ⟨rfl, ?_⟩)
    exact r_iret c88_100 ⟨rfl, rfl, rfl⟩ ⟨rfl, ⟨_, rfl⟩, rfl⟩
  · intro b1 b1b
    obtain e0 | e1 | e2 | e3 | e4 | e5 | e6 : _ = (0 : Int) ∨ _ = (1 : Int) ∨ _ = (2 : Int) ∨ _ = (3 : Int) ∨ _ = (4 : Int) ∨ _ = (5 : Int) ∨ _ = (6 : Int) := q_sw6 b1 b1b
    · refine ⟨44, by rw [e0]; rfl, ?_⟩
      refine r_aload_n c88_44 rfl rfl ?_
      refine r_iload_n c88_45 rfl rfl ?_
      refine r_vcG c88_46 (by first | assumption | omega) (by decide) (by first | assumption | rfl) rfl rfl rfl (k79 hG hZ) ?_
      intro t3 w3 g3 p3
      obtain ⟨rfl, ⟨z3, rfl⟩, rfl⟩ := p3
      refine Or.inr (Or.inl ⟨rfl, ?_⟩)
      exact r_iret c88_49 ⟨rfl, rfl, rfl⟩ ⟨rfl, ⟨_, rfl⟩, rfl⟩
    · refine ⟨50, by rw [e1]; rfl, ?_⟩
      refine r_aload_n c88_50 rfl rfl ?_
      refine r_getr c88_51 (by first | assumption | omega) (by decide) (by first | assumption | rfl) rfl rfl ?_
      refine r_iload_n c88_54 rfl rfl ?_
      refine r_callG c88_55 (fun _ => rfl) rfl rfl rfl (k175 hG hZ (by first | assumption | omega) (by first | assumption | rfl) (by first | assumption | decide)) ?_
      intro t4 w4 g4 p4
      obtain ⟨rfl, ⟨z4, rfl⟩, rfl⟩ := p4
      refine Or.inr (Or.inl ⟨rfl, ?_⟩)
      exact r_iret c88_58 ⟨rfl, rfl, rfl⟩ ⟨rfl, ⟨_, rfl⟩, rfl⟩
    · refine ⟨59, by rw [e2]; rfl, ?_⟩
      refine r_aload_n c88_59 rfl rfl ?_
      refine r_getr c88_60 (by first | assumption | omega) (by decide) (by first | assumption | rfl) rfl rfl ?_
      refine r_iload_n c88_63 rfl rfl ?_
      refine r_callG c88_64 (fun _ => rfl) rfl rfl rfl (k175 hG hZ (by first | assumption | omega) (by first | assumption | rfl) (by first | assumption | decide)) ?_
      intro t5 w5 g5 p5
      obtain ⟨rfl, ⟨z5, rfl⟩, rfl⟩ := p5
      refine Or.inr (Or.inl ⟨rfl, ?_⟩)
      exact r_iret c88_67 ⟨rfl, rfl, rfl⟩ ⟨rfl, ⟨_, rfl⟩, rfl⟩
    · refine ⟨68, by rw [e3]; rfl, ?_⟩
      refine r_aload_n c88_68 rfl rfl ?_
      refine r_iload_n c88_69 rfl rfl ?_
      refine r_vcG c88_70 (by first | assumption | omega) (by decide) (by first | assumption | rfl) rfl rfl rfl (k92 hG hZ) ?_
      intro t6 w6 g6 p6
      obtain ⟨rfl, ⟨z6, rfl⟩, rfl⟩ := p6
      refine Or.inr (Or.inl ⟨rfl, ?_⟩)
      exact r_iret c88_73 ⟨rfl, rfl, rfl⟩ ⟨rfl, ⟨_, rfl⟩, rfl⟩
    · refine ⟨74, by rw [e4]; rfl, ?_⟩
      refine r_aload_n c88_74 rfl rfl ?_
      refine r_iload_n c88_75 rfl rfl ?_
      refine r_vcG c88_76 (by first | assumption | omega) (by decide) (by first | assumption | rfl) rfl rfl rfl (k94 hG hZ) ?_
      intro t7 w7 g7 p7
      obtain ⟨rfl, ⟨z7, rfl⟩, rfl⟩ := p7
      refine Or.inr (Or.inl ⟨rfl, ?_⟩)
      exact r_iret c88_79 ⟨rfl, rfl, rfl⟩ ⟨rfl, ⟨_, rfl⟩, rfl⟩
    · refine ⟨80, by rw [e5]; rfl, ?_⟩
      refine r_aload_n c88_80 rfl rfl ?_
      refine r_iload_n c88_81 rfl rfl ?_
      refine r_vcG c88_82 (by first | assumption | omega) (by decide) (by first | assumption | rfl) rfl rfl rfl (k76 hG hZ) ?_
      intro t8 w8 g8 p8
      obtain ⟨rfl, ⟨z8, rfl⟩, rfl⟩ := p8
      refine Or.inr (Or.inl ⟨rfl, ?_⟩)
      exact r_iret c88_85 ⟨rfl, rfl, rfl⟩ ⟨rfl, ⟨_, rfl⟩, rfl⟩
    · refine ⟨86, by rw [e6]; rfl, ?_⟩
      refine r_aload_n c88_86 rfl rfl ?_
      refine r_iload_n c88_87 rfl rfl ?_
      refine r_vcG c88_88 (by first | assumption | omega) (by decide) (by first | assumption | rfl) rfl rfl rfl (k77 hG hZ) ?_
      intro t9 w9 g9 p9
      obtain ⟨rfl, ⟨z9, rfl⟩, rfl⟩ := p9
      refine Or.inr (Or.inl ⟨rfl, ?_⟩)
      exact r_iret c88_91 ⟨rfl, rfl, rfl⟩ ⟨rfl, ⟨_, rfl⟩, rfl⟩
theorem c70_0 : q_cat 70 0 (.iconst 0) 1 0 0 (0) := ⟨rfl, rfl⟩
theorem c70_1 : q_cat 70 1 (.istore_n 3) 1 3 0 (0) := ⟨rfl, rfl⟩
theorem c70_2 : q_cat 70 2 (.iconst 1) 1 0 0 (0) := ⟨rfl, rfl⟩
theorem c70_3 : q_cat 70 3 (.istore 4) 2 4 0 (0) := ⟨rfl, rfl⟩
theorem c70_5 : q_cat 70 5 (.iload 4) 2 4 0 (0) := ⟨rfl, rfl⟩
theorem c70_7 : q_cat 70 7 (.aload_n 0) 1 0 0 (0) := ⟨rfl, rfl⟩
theorem c70_8 : q_cat 70 8 (.iload_n 1) 1 1 0 (0) := ⟨rfl, rfl⟩
theorem c70_9 : q_cat 70 9 (.invokevirtual 135) 3 79 0 (0) := ⟨rfl, rfl⟩
theorem c70_12 : q_cat 70 12 (.if_icmp .ge 53) 3 65 0 (0) := ⟨rfl, rfl⟩
theorem c70_15 : q_cat 70 15 (.aload_n 0) 1 0 0 (0) := ⟨rfl, rfl⟩
theorem c70_16 : q_cat 70 16 (.iload_n 1) 1 1 0 (0) := ⟨rfl, rfl⟩
theorem c70_17 : q_cat 70 17 (.iload 4) 2 4 0 (0) := ⟨rfl, rfl⟩
theorem c70_19 : q_cat 70 19 (.invokevirtual 154) 3 93 0 (0) := ⟨rfl, rfl⟩
theorem c70_22 : q_cat 70 22 (.aload_n 0) 1 0 0 (0) := ⟨rfl, rfl⟩
theorem c70_23 : q_cat 70 23 (.iload_n 1) 1 1 0 (0) := ⟨rfl, rfl⟩
theorem c70_24 : q_cat 70 24 (.iload 4) 2 4 0 (0) := ⟨rfl, rfl⟩
theorem c70_26 : q_cat 70 26 (.iconst 1) 1 0 0 (0) := ⟨rfl, rfl⟩
theorem c70_27 : q_cat 70 27 (.isub) 1 0 0 (0) := ⟨rfl, rfl⟩
theorem c70_28 : q_cat 70 28 (.invokevirtual 154) 3 93 0 (0) := ⟨rfl, rfl⟩
theorem c70_31 : q_cat 70 31 (.isub) 1 0 0 (0) := ⟨rfl, rfl⟩
theorem c70_32 : q_cat 70 32 (.istore 5) 2 5 0 (0) := ⟨rfl, rfl⟩
theorem c70_34 : q_cat 70 34 (.iload_n 3) 1 3 0 (0) := ⟨rfl, rfl⟩
theorem c70_35 : q_cat 70 35 (.iload_n 2) 1 2 0 (0) := ⟨rfl, rfl⟩
theorem c70_36 : q_cat 70 36 (.ifCond .eq 11) 3 47 0 (0) := ⟨rfl, rfl⟩
theorem c70_39 : q_cat 70 39 (.iload 5) 2 5 0 (0) := ⟨rfl, rfl⟩
theorem c70_41 : q_cat 70 41 (.ifCond .le 15) 3 56 0 (0) := ⟨rfl, rfl⟩
theorem c70_44 : q_cat 70 44 (.goto 8) 3 52 0 (0) := ⟨rfl, rfl⟩
theorem c70_47 : q_cat 70 47 (.iload 5) 2 5 0 (0) := ⟨rfl, rfl⟩
theorem c70_49 : q_cat 70 49 (.ifCond .ge 7) 3 56 0 (0) := ⟨rfl, rfl⟩
theorem c70_52 : q_cat 70 52 (.iconst 1) 1 0 0 (0) := ⟨rfl, rfl⟩
theorem c70_53 : q_cat 70 53 (.goto 4) 3 57 0 (0) := ⟨rfl, rfl⟩
theorem c70_56 : q_cat 70 56 (.iconst 0) 1 0 0 (0) := ⟨rfl, rfl⟩
theorem c70_57 : q_cat 70 57 (.iadd) 1 0 0 (0) := ⟨rfl, rfl⟩
theorem c70_58 : q_cat 70 58 (.istore_n 3) 1 3 0 (0) := ⟨rfl, rfl⟩
theorem c70_59 : q_cat 70 59 (.iinc 4 1) 3 4 0 (0) := ⟨rfl, rfl⟩
theorem c70_62 : q_cat 70 62 (.goto (-57)) 3 5 0 (0) := ⟨rfl, rfl⟩
theorem c70_65 : q_cat 70 65 (.iload_n 3) 1 3 0 (0) := ⟨rfl, rfl⟩
theorem c70_66 : q_cat 70 66 (.ireturn) 1 0 0 (0) := ⟨rfl, rfl⟩
theorem l70_5 {Γ : q_Γ} (hG : q_GG Γ) {h0 : q_F} (hZ : q_Bz h0) {v1 : Int} {v2 : Int} {u1 : Int} {u2 : Int} (hz2 : v2 = 0 ∨ v2 = 1)
    (hx65 : ∀ {u4 u3 : Int} {h : q_F}, h = h0 → q_R Γ q_K 155 70 (fun t w h' => (t = 1 ∧ (∃ z, w = ((0, z) : q_V)) ∧ h' = h0)) (65, [(4, (0, u4)), (3, (0, u3)), (0, (2, Int.ofNat 125)), (1, (0, u1)), (2, (0, u2))], [], q_hp q_K 155 h, [], 0, 0))
    : ∀ (m : Nat) {u4 u3 : Int} {h : q_F}, (-2147483648 ≤ u4 ∧ u4 < 2147483648) → h = h0 → 2147483648 - u4 < (m : Int) → q_R Γ q_K 155 70 (fun t w h' => (t = 1 ∧ (∃ z, w = ((0, z) : q_V)) ∧ h' = h0)) (5, [(4, (0, u4)), (3, (0, u3)), (0, (2, Int.ofNat 125)), (1, (0, u1)), (2, (0, u2))], [], q_hp q_K 155 h, [], 0, 0)   := by
  intro m
  induction m with
  | zero =>
    intro u4 u3 h hinv hf hmu
    exact absurd hmu (by omega)
  | succ m ih =>
    intro u4 u3 h hinv hf hmu
    subst hf
    refine r_iload c70_5 rfl rfl ?_
    refine r_aload_n c70_7 rfl rfl ?_
    refine r_iload_n c70_8 rfl rfl ?_
    refine r_vcG c70_9 (by first | assumption | omega) (by decide) (by first | assumption | rfl) rfl rfl rfl (k79 hG hZ) ?_
    intro t1 w1 g1 p1
    obtain ⟨rfl, ⟨z1, rfl⟩, rfl⟩ := p1
    refine Or.inr (Or.inl ⟨rfl, ?_⟩)
    refine r_ic_ge c70_12 rfl (by first | exact q_w32_id (by omega) (by omega) | exact q_w32w _ | exact rfl) (by first | exact q_w32_id (by omega) (by omega) | exact q_w32w _ | exact rfl) ?_ ?_
    · intro b2
      refine q_R.wk (ks := [4, 3, 0, 1, 2]) (lo' := [(4, _), (3, _), (0, _), (1, _), (2, _)]) rfl ?_
      exact hx65 rfl
    · intro b2
      refine r_aload_n c70_15 rfl rfl ?_
      refine r_iload_n c70_16 rfl rfl ?_
      refine r_iload c70_17 rfl rfl ?_
      refine r_vcG c70_19 (by first | assumption | omega) (by decide) (by first | assumption | rfl) rfl rfl rfl (k93 hG hZ) ?_
      intro t3 w3 g3 p3
      obtain ⟨rfl, ⟨z3, rfl⟩, rfl⟩ := p3
      refine Or.inr (Or.inl ⟨rfl, ?_⟩)
      refine r_aload_n c70_22 rfl rfl ?_
      refine r_iload_n c70_23 rfl rfl ?_
      refine r_iload c70_24 rfl rfl ?_
      refine r_iconst c70_26 rfl ?_
      refine r_isub c70_27 (by first | exact q_w32_id (by omega) (by omega) | exact q_w32w _ | exact rfl) rfl ?_
      refine r_vcG c70_28 (by first | assumption | omega) (by decide) (by first | assumption | rfl) rfl rfl rfl (k93 hG hZ) ?_
      intro t4 w4 g4 p4
      obtain ⟨rfl, ⟨z4, rfl⟩, rfl⟩ := p4
      refine Or.inr (Or.inl ⟨rfl, ?_⟩)
      refine r_isub c70_31 (by first | exact q_w32_id (by omega) (by omega) | exact q_w32w _ | exact rfl) rfl ?_
      refine r_istore c70_32 (lo' := [(5, _), (4, _), (3, _), (0, _), (1, _), (2, _)]) rfl rfl rfl ?_
      refine r_iload_n c70_34 rfl rfl ?_
      refine r_iload_n c70_35 rfl rfl ?_
      refine r_if_eq c70_36 rfl (by first | exact q_w32_id (by omega) (by omega) | exact q_w32w _ | exact rfl) ?_ ?_
      · intro b5
        refine r_iload c70_47 rfl rfl ?_
        refine r_if_ge c70_49 rfl (by first | exact q_w32_id (by omega) (by omega) | exact q_w32w _ | exact rfl) ?_ ?_
        · intro b6
          refine r_iconst c70_56 rfl ?_
          refine r_iadd c70_57 (by first | exact q_w32_id (by omega) (by omega) | exact q_w32w _ | exact rfl) rfl ?_
          refine r_istore_n c70_58 (lo' := [(3, _), (5, _), (4, _), (0, _), (1, _), (2, _)]) rfl rfl rfl ?_
          refine r_iinc c70_59 rfl (by first | exact q_w32_id (by omega) (by omega) | exact q_w32w _ | exact rfl) (lo' := [(4, _), (3, _), (5, _), (0, _), (1, _), (2, _)]) rfl rfl rfl ?_
          refine r_goto c70_62 ?_
          refine q_R.wk (ks := [4, 3, 0, 1, 2]) (lo' := [(4, _), (3, _), (0, _), (1, _), (2, _)]) rfl ?_
          exact ih (by first | omega | exact ⟨q_rg1 _, q_rg2 _⟩) rfl (by omega)
        · intro b6
          refine r_iconst c70_52 rfl ?_
          refine r_goto c70_53 ?_
          refine r_iadd c70_57 (by first | exact q_w32_id (by omega) (by omega) | exact q_w32w _ | exact rfl) rfl ?_
          refine r_istore_n c70_58 (lo' := [(3, _), (5, _), (4, _), (0, _), (1, _), (2, _)]) rfl rfl rfl ?_
          refine r_iinc c70_59 rfl (by first | exact q_w32_id (by omega) (by omega) | exact q_w32w _ | exact rfl) (lo' := [(4, _), (3, _), (5, _), (0, _), (1, _), (2, _)]) rfl rfl rfl ?_
          refine r_goto c70_62 ?_
          refine q_R.wk (ks := [4, 3, 0, 1, 2]) (lo' := [(4, _), (3, _), (0, _), (1, _), (2, _)]) rfl ?_
          exact ih (by first | omega | exact ⟨q_rg1 _, q_rg2 _⟩) rfl (by omega)
      · intro b5
        refine r_iload c70_39 rfl rfl ?_
        refine r_if_le c70_41 rfl (by first | exact q_w32_id (by omega) (by omega) | exact q_w32w _ | exact rfl) ?_ ?_
        · intro b7
          refine r_iconst c70_56 rfl ?_
          refine r_iadd c70_57 (by first | exact q_w32_id (by omega) (by omega) | exact q_w32w _ | exact rfl) rfl ?_
          refine r_istore_n c70_58 (lo' := [(3, _), (5, _), (4, _), (0, _), (1, _), (2, _)]) rfl rfl rfl ?_
          refine r_iinc c70_59 rfl (by first | exact q_w32_id (by omega) (by omega) | exact q_w32w _ | exact rfl) (lo' := [(4, _), (3, _), (5, _), (0, _), (1, _), (2, _)]) rfl rfl rfl ?_
          refine r_goto c70_62 ?_
          refine q_R.wk (ks := [4, 3, 0, 1, 2]) (lo' := [(4, _), (3, _), (0, _), (1, _), (2, _)]) rfl ?_
          exact ih (by first | omega | exact ⟨q_rg1 _, q_rg2 _⟩) rfl (by omega)
        · intro b7
          refine r_goto c70_44 ?_
          refine r_iconst c70_52 rfl ?_
          refine r_goto c70_53 ?_
          refine r_iadd c70_57 (by first | exact q_w32_id (by omega) (by omega) | exact q_w32w _ | exact rfl) rfl ?_
          refine r_istore_n c70_58 (lo' := [(3, _), (5, _), (4, _), (0, _), (1, _), (2, _)]) rfl rfl rfl ?_
          refine r_iinc c70_59 rfl (by first | exact q_w32_id (by omega) (by omega) | exact q_w32w _ | exact rfl) (lo' := [(4, _), (3, _), (5, _), (0, _), (1, _), (2, _)]) rfl rfl rfl ?_
          refine r_goto c70_62 ?_
          refine q_R.wk (ks := [4, 3, 0, 1, 2]) (lo' := [(4, _), (3, _), (0, _), (1, _), (2, _)]) rfl ?_
          exact ih (by first | omega | exact ⟨q_rg1 _, q_rg2 _⟩) rfl (by omega)

theorem k70 {Γ : q_Γ} (hG : q_GG Γ) {h : q_F} (hZ : q_Bz h) {v1 : Int} {v2 : Int} (hz2 : v2 = 0 ∨ v2 = 1) :
    q_M Γ q_K 155 70 [(2, Int.ofNat 125), (0, v1), (0, v2)] h (fun t w h' => (t = 1 ∧ (∃ z, w = ((0, z) : q_V)) ∧ h' = h)) := by
  refine q_M.of (by decide) (Nat.le_of_ble_eq_true rfl) hG ?_
  refine r_iconst c70_0 rfl ?_
  refine r_istore_n c70_1 (lo' := [(3, _), (0, _), (1, _), (2, _)]) rfl rfl rfl ?_
  refine r_iconst c70_2 rfl ?_
  refine r_istore c70_3 (lo' := [(4, _), (3, _), (0, _), (1, _), (2, _)]) rfl rfl rfl ?_
  refine q_R.wk (ks := [4, 3, 0, 1, 2]) (lo' := [(4, _), (3, _), (0, _), (1, _), (2, _)]) rfl ?_
  refine l70_5 (v1 := v1) (v2 := v2) hG hZ hz2 ?_ 4294967298 (by first | omega | exact ⟨q_rg1 _, q_rg2 _⟩) rfl (q_mu (by first | omega | exact ⟨q_rg1 _, q_rg2 _⟩))
  · intro u4_1 u3_1 g1 f1
    subst f1
    refine r_iload_n c70_65 rfl rfl ?_
    exact r_iret c70_66 ⟨rfl, rfl, rfl⟩ ⟨rfl, ⟨_, rfl⟩, rfl⟩
theorem c81_0 : q_cat 81 0 (.iconst (-1)) 1 0 0 (0) := ⟨rfl, rfl⟩
theorem c81_1 : q_cat 81 1 (.istore_n 3) 1 3 0 (0) := ⟨rfl, rfl⟩
theorem c81_2 : q_cat 81 2 (.iconst 0) 1 0 0 (0) := ⟨rfl, rfl⟩
theorem c81_3 : q_cat 81 3 (.istore 4) 2 4 0 (0) := ⟨rfl, rfl⟩
theorem c81_5 : q_cat 81 5 (.iconst 0) 1 0 0 (0) := ⟨rfl, rfl⟩
theorem c81_6 : q_cat 81 6 (.istore 5) 2 5 0 (0) := ⟨rfl, rfl⟩
theorem c81_8 : q_cat 81 8 (.iload 5) 2 5 0 (0) := ⟨rfl, rfl⟩
theorem c81_10 : q_cat 81 10 (.iconst 3) 1 0 0 (0) := ⟨rfl, rfl⟩
theorem c81_11 : q_cat 81 11 (.if_icmp .ge 66) 3 77 0 (0) := ⟨rfl, rfl⟩
theorem c81_14 : q_cat 81 14 (.aload_n 0) 1 0 0 (0) := ⟨rfl, rfl⟩
theorem c81_15 : q_cat 81 15 (.iload_n 2) 1 2 0 (0) := ⟨rfl, rfl⟩
theorem c81_16 : q_cat 81 16 (.iload 5) 2 5 0 (0) := ⟨rfl, rfl⟩
theorem c81_18 : q_cat 81 18 (.invokevirtual 98) 3 73 0 (0) := ⟨rfl, rfl⟩
theorem c81_21 : q_cat 81 21 (.invokestatic 101) 3 0 8 (0) := ⟨rfl, rfl⟩
theorem c81_24 : q_cat 81 24 (.istore 6) 2 6 0 (0) := ⟨rfl, rfl⟩
theorem c81_26 : q_cat 81 26 (.aload_n 1) 1 1 0 (0) := ⟨rfl, rfl⟩
theorem c81_27 : q_cat 81 27 (.iload 5) 2 5 0 (0) := ⟨rfl, rfl⟩
theorem c81_29 : q_cat 81 29 (.invokevirtual 49) 3 125 0 (0) := ⟨rfl, rfl⟩
theorem c81_32 : q_cat 81 32 (.getfield 111) 3 1 2 (0) := ⟨rfl, rfl⟩
theorem c81_35 : q_cat 81 35 (.aload_n 0) 1 0 0 (0) := ⟨rfl, rfl⟩
theorem c81_36 : q_cat 81 36 (.iload_n 2) 1 2 0 (0) := ⟨rfl, rfl⟩
theorem c81_37 : q_cat 81 37 (.invokevirtual 135) 3 79 0 (0) := ⟨rfl, rfl⟩
theorem c81_40 : q_cat 81 40 (.imul) 1 0 0 (0) := ⟨rfl, rfl⟩
theorem c81_41 : q_cat 81 41 (.iload 6) 2 6 0 (0) := ⟨rfl, rfl⟩
theorem c81_43 : q_cat 81 43 (.invokestatic 114) 3 201 3 (0) := ⟨rfl, rfl⟩
theorem c81_46 : q_cat 81 46 (.istore 7) 2 7 0 (0) := ⟨rfl, rfl⟩
theorem c81_48 : q_cat 81 48 (.iload 6) 2 6 0 (0) := ⟨rfl, rfl⟩
theorem c81_50 : q_cat 81 50 (.ifCond .le 21) 3 71 0 (0) := ⟨rfl, rfl⟩
theorem c81_53 : q_cat 81 53 (.iload_n 3) 1 3 0 (0) := ⟨rfl, rfl⟩
theorem c81_54 : q_cat 81 54 (.ifCond .lt 10) 3 64 0 (0) := ⟨rfl, rfl⟩
theorem c81_57 : q_cat 81 57 (.iload 7) 2 7 0 (0) := ⟨rfl, rfl⟩
theorem c81_59 : q_cat 81 59 (.iload 4) 2 4 0 (0) := ⟨rfl, rfl⟩
theorem c81_61 : q_cat 81 61 (.if_icmp .ge 10) 3 71 0 (0) := ⟨rfl, rfl⟩
theorem c81_64 : q_cat 81 64 (.iload 5) 2 5 0 (0) := ⟨rfl, rfl⟩
theorem c81_66 : q_cat 81 66 (.istore_n 3) 1 3 0 (0) := ⟨rfl, rfl⟩
theorem c81_67 : q_cat 81 67 (.iload 7) 2 7 0 (0) := ⟨rfl, rfl⟩
theorem c81_69 : q_cat 81 69 (.istore 4) 2 4 0 (0) := ⟨rfl, rfl⟩
theorem c81_71 : q_cat 81 71 (.iinc 5 1) 3 5 0 (0) := ⟨rfl, rfl⟩
theorem c81_74 : q_cat 81 74 (.goto (-66)) 3 8 0 (0) := ⟨rfl, rfl⟩
theorem c81_77 : q_cat 81 77 (.iload_n 3) 1 3 0 (0) := ⟨rfl, rfl⟩
theorem c81_78 : q_cat 81 78 (.ireturn) 1 0 0 (0) := ⟨rfl, rfl⟩
theorem l81_8 {Γ : q_Γ} (hG : q_GG Γ) {h0 : q_F} (hZ : q_Bz h0) {o1 : Nat} {v2 : Int} {u2 : Int} (ho1 : q_isT o1)
    (hx77 : ∀ {u5 u4 u3 : Int} {h : q_F}, h = h0 → q_R Γ q_K 155 81 (fun t w h' => (t = 1 ∧ (∃ z, w = ((0, z) : q_V)) ∧ h' = h0)) (77, [(5, (0, u5)), (4, (0, u4)), (3, (0, u3)), (0, (2, Int.ofNat 125)), (1, (2, Int.ofNat o1)), (2, (0, u2))], [], q_hp q_K 155 h, [], 0, 0))
    : ∀ (m : Nat) {u5 u4 u3 : Int} {h : q_F}, (-2147483648 ≤ u5 ∧ u5 < 2147483648) → h = h0 → 2147483648 - u5 < (m : Int) → q_R Γ q_K 155 81 (fun t w h' => (t = 1 ∧ (∃ z, w = ((0, z) : q_V)) ∧ h' = h0)) (8, [(5, (0, u5)), (4, (0, u4)), (3, (0, u3)), (0, (2, Int.ofNat 125)), (1, (2, Int.ofNat o1)), (2, (0, u2))], [], q_hp q_K 155 h, [], 0, 0)   := by
  obtain ⟨fo10, fo11, fo12, fo13, fo14, fo15, fo16, fo17, fo18, fo19, fo110⟩ := q_fT ho1
  intro m
  induction m with
  | zero =>
    intro u5 u4 u3 h hinv hf hmu
    exact absurd hmu (by omega)
  | succ m ih =>
    intro u5 u4 u3 h hinv hf hmu
    subst hf
    refine r_iload c81_8 rfl rfl ?_
    refine r_iconst c81_10 rfl ?_
    refine r_ic_ge c81_11 rfl (by first | exact q_w32_id (by omega) (by omega) | exact q_w32w _ | exact rfl) (show q_w32 (3) = 3 from rfl) ?_ ?_
    · intro b1
      refine q_R.wk (ks := [5, 4, 3, 0, 1, 2]) (lo' := [(5, _), (4, _), (3, _), (0, _), (1, _), (2, _)]) rfl ?_
      exact hx77 rfl
    · intro b1
      refine r_aload_n c81_14 rfl rfl ?_
      refine r_iload_n c81_15 rfl rfl ?_
      refine r_iload c81_16 rfl rfl ?_
      refine r_vcG c81_18 (by first | assumption | omega) (by decide) (by first | assumption | rfl) rfl rfl rfl (k73 hG hZ) ?_
      intro t2 w2 g2 p2
      obtain ⟨rfl, ⟨z2, rfl⟩, rfl⟩ := p2
      refine Or.inr (Or.inl ⟨rfl, ?_⟩)
      refine r_abs c81_21 rfl rfl ?_
      refine r_istore c81_24 (lo' := [(6, _), (5, _), (4, _), (3, _), (0, _), (1, _), (2, _)]) rfl rfl rfl ?_
      refine r_aload_n c81_26 rfl rfl ?_
      refine r_iload c81_27 rfl rfl ?_
      refine r_vcG c81_29 (by first | assumption | omega) (by decide) (by first | assumption | rfl) rfl rfl rfl (k125 hG hZ (by first | assumption | exact q_hC (by assumption) | exact q_h1 (by assumption) | exact q_h3 (by assumption) | exact q_h5 (by assumption) | exact q_hG (by assumption) | exact q_hP | exact q_hB1 | exact q_hB2 | exact q_hT6 | exact q_hT15 | exact q_hT24)) ?_
      intro t3 w3 g3 p3
      obtain ⟨rfl, ⟨r3, rfl, ha3, hr3⟩, rfl⟩ := p3
      obtain ⟨fr30, fr31, fr32, fr33⟩ := q_fA ha3
      refine Or.inr (Or.inl ⟨rfl, ?_⟩)
      refine r_geti c81_32 (by first | assumption | omega) (by decide) (by first | assumption | rfl) rfl rfl ?_
      refine r_aload_n c81_35 rfl rfl ?_
      refine r_iload_n c81_36 rfl rfl ?_
      refine r_vcG c81_37 (by first | assumption | omega) (by decide) (by first | assumption | rfl) rfl rfl rfl (k79 hG hZ) ?_
      intro t4 w4 g4 p4
      obtain ⟨rfl, ⟨z4, rfl⟩, rfl⟩ := p4
      refine Or.inr (Or.inl ⟨rfl, ?_⟩)
      refine r_imul c81_40 (by first | exact q_w32_id (by omega) (by omega) | exact q_w32w _ | exact rfl) rfl ?_
      refine r_iload c81_41 rfl rfl ?_
      refine r_callG c81_43 (fun _ => rfl) rfl rfl rfl (k201 hG hZ) ?_
      intro t5 w5 g5 p5
      obtain ⟨rfl, ⟨z5, rfl⟩, rfl⟩ := p5
      refine Or.inr (Or.inl ⟨rfl, ?_⟩)
      refine r_istore c81_46 (lo' := [(7, _), (6, _), (5, _), (4, _), (3, _), (0, _), (1, _), (2, _)]) rfl rfl rfl ?_
      refine r_iload c81_48 rfl rfl ?_
      refine r_if_le c81_50 rfl (by first | exact q_w32_id (by omega) (by omega) | exact q_w32w _ | exact rfl) ?_ ?_
      · intro b6
        refine r_iinc c81_71 rfl (by first | exact q_w32_id (by omega) (by omega) | exact q_w32w _ | exact rfl) (lo' := [(5, _), (7, _), (6, _), (4, _), (3, _), (0, _), (1, _), (2, _)]) rfl rfl rfl ?_
        refine r_goto c81_74 ?_
        refine q_R.wk (ks := [5, 4, 3, 0, 1, 2]) (lo' := [(5, _), (4, _), (3, _), (0, _), (1, _), (2, _)]) rfl ?_
        exact ih (by first | omega | exact ⟨q_rg1 _, q_rg2 _⟩) rfl (by omega)
      · intro b6
        refine r_iload_n c81_53 rfl rfl ?_
        refine r_if_lt c81_54 rfl (by first | exact q_w32_id (by omega) (by omega) | exact q_w32w _ | exact rfl) ?_ ?_
        · intro b7
          refine r_iload c81_64 rfl rfl ?_
          refine r_istore_n c81_66 (lo' := [(3, _), (7, _), (6, _), (5, _), (4, _), (0, _), (1, _), (2, _)]) rfl rfl rfl ?_
          refine r_iload c81_67 rfl rfl ?_
          refine r_istore c81_69 (lo' := [(4, _), (3, _), (7, _), (6, _), (5, _), (0, _), (1, _), (2, _)]) rfl rfl rfl ?_
          refine r_iinc c81_71 rfl (by first | exact q_w32_id (by omega) (by omega) | exact q_w32w _ | exact rfl) (lo' := [(5, _), (4, _), (3, _), (7, _), (6, _), (0, _), (1, _), (2, _)]) rfl rfl rfl ?_
          refine r_goto c81_74 ?_
          refine q_R.wk (ks := [5, 4, 3, 0, 1, 2]) (lo' := [(5, _), (4, _), (3, _), (0, _), (1, _), (2, _)]) rfl ?_
          exact ih (by first | omega | exact ⟨q_rg1 _, q_rg2 _⟩) rfl (by omega)
        · intro b7
          refine r_iload c81_57 rfl rfl ?_
          refine r_iload c81_59 rfl rfl ?_
          refine r_ic_ge c81_61 rfl (by first | exact q_w32_id (by omega) (by omega) | exact q_w32w _ | exact rfl) (by first | exact q_w32_id (by omega) (by omega) | exact q_w32w _ | exact rfl) ?_ ?_
          · intro b8
            refine r_iinc c81_71 rfl (by first | exact q_w32_id (by omega) (by omega) | exact q_w32w _ | exact rfl) (lo' := [(5, _), (7, _), (6, _), (4, _), (3, _), (0, _), (1, _), (2, _)]) rfl rfl rfl ?_
            refine r_goto c81_74 ?_
            refine q_R.wk (ks := [5, 4, 3, 0, 1, 2]) (lo' := [(5, _), (4, _), (3, _), (0, _), (1, _), (2, _)]) rfl ?_
            exact ih (by first | omega | exact ⟨q_rg1 _, q_rg2 _⟩) rfl (by omega)
          · intro b8
            refine r_iload c81_64 rfl rfl ?_
            refine r_istore_n c81_66 (lo' := [(3, _), (7, _), (6, _), (5, _), (4, _), (0, _), (1, _), (2, _)]) rfl rfl rfl ?_
            refine r_iload c81_67 rfl rfl ?_
            refine r_istore c81_69 (lo' := [(4, _), (3, _), (7, _), (6, _), (5, _), (0, _), (1, _), (2, _)]) rfl rfl rfl ?_
            refine r_iinc c81_71 rfl (by first | exact q_w32_id (by omega) (by omega) | exact q_w32w _ | exact rfl) (lo' := [(5, _), (4, _), (3, _), (7, _), (6, _), (0, _), (1, _), (2, _)]) rfl rfl rfl ?_
            refine r_goto c81_74 ?_
            refine q_R.wk (ks := [5, 4, 3, 0, 1, 2]) (lo' := [(5, _), (4, _), (3, _), (0, _), (1, _), (2, _)]) rfl ?_
            exact ih (by first | omega | exact ⟨q_rg1 _, q_rg2 _⟩) rfl (by omega)

theorem k81 {Γ : q_Γ} (hG : q_GG Γ) {h : q_F} (hZ : q_Bz h) {o1 : Nat} {v2 : Int} (ho1 : q_isT o1) :
    q_M Γ q_K 155 81 [(2, Int.ofNat 125), (2, Int.ofNat o1), (0, v2)] h (fun t w h' => (t = 1 ∧ (∃ z, w = ((0, z) : q_V)) ∧ h' = h)) := by
  obtain ⟨fo10, fo11, fo12, fo13, fo14, fo15, fo16, fo17, fo18, fo19, fo110⟩ := q_fT ho1
  refine q_M.of (by decide) (Nat.le_of_ble_eq_true rfl) hG ?_
  refine r_iconst c81_0 rfl ?_
  refine r_istore_n c81_1 (lo' := [(3, _), (0, _), (1, _), (2, _)]) rfl rfl rfl ?_
  refine r_iconst c81_2 rfl ?_
  refine r_istore c81_3 (lo' := [(4, _), (3, _), (0, _), (1, _), (2, _)]) rfl rfl rfl ?_
  refine r_iconst c81_5 rfl ?_
  refine r_istore c81_6 (lo' := [(5, _), (4, _), (3, _), (0, _), (1, _), (2, _)]) rfl rfl rfl ?_
  refine q_R.wk (ks := [5, 4, 3, 0, 1, 2]) (lo' := [(5, _), (4, _), (3, _), (0, _), (1, _), (2, _)]) rfl ?_
  refine l81_8 (o1 := o1) (v2 := v2) hG hZ ho1 ?_ 4294967298 (by first | omega | exact ⟨q_rg1 _, q_rg2 _⟩) rfl (q_mu (by first | omega | exact ⟨q_rg1 _, q_rg2 _⟩))
  · intro u5_1 u4_1 u3_1 g1 f1
    subst f1
    refine r_iload_n c81_77 rfl rfl ?_
    exact r_iret c81_78 ⟨rfl, rfl, rfl⟩ ⟨rfl, ⟨_, rfl⟩, rfl⟩
theorem c98_0 : q_cat 98 0 (.iconst 0) 1 0 0 (0) := ⟨rfl, rfl⟩
theorem c98_1 : q_cat 98 1 (.istore_n 1) 1 1 0 (0) := ⟨rfl, rfl⟩
theorem c98_2 : q_cat 98 2 (.iconst 0) 1 0 0 (0) := ⟨rfl, rfl⟩
theorem c98_3 : q_cat 98 3 (.istore_n 2) 1 2 0 (0) := ⟨rfl, rfl⟩
theorem c98_4 : q_cat 98 4 (.iload_n 2) 1 2 0 (0) := ⟨rfl, rfl⟩
theorem c98_5 : q_cat 98 5 (.aload_n 0) 1 0 0 (0) := ⟨rfl, rfl⟩
theorem c98_6 : q_cat 98 6 (.getfield 45) 3 4 9 (0) := ⟨rfl, rfl⟩
theorem c98_9 : q_cat 98 9 (.if_icmp .ge 20) 3 29 0 (0) := ⟨rfl, rfl⟩
theorem c98_12 : q_cat 98 12 (.iload_n 1) 1 1 0 (0) := ⟨rfl, rfl⟩
theorem c98_13 : q_cat 98 13 (.aload_n 0) 1 0 0 (0) := ⟨rfl, rfl⟩
theorem c98_14 : q_cat 98 14 (.getfield 30) 3 4 6 (3) := ⟨rfl, rfl⟩
theorem c98_17 : q_cat 98 17 (.iload_n 2) 1 2 0 (0) := ⟨rfl, rfl⟩
theorem c98_18 : q_cat 98 18 (.invokestatic 63) 3 175 3 (0) := ⟨rfl, rfl⟩
theorem c98_21 : q_cat 98 21 (.iadd) 1 0 0 (0) := ⟨rfl, rfl⟩
theorem c98_22 : q_cat 98 22 (.istore_n 1) 1 1 0 (0) := ⟨rfl, rfl⟩
theorem c98_23 : q_cat 98 23 (.iinc 2 1) 3 2 0 (0) := ⟨rfl, rfl⟩
theorem c98_26 : q_cat 98 26 (.goto (-22)) 3 4 0 (0) := ⟨rfl, rfl⟩
theorem c98_29 : q_cat 98 29 (.iload_n 1) 1 1 0 (0) := ⟨rfl, rfl⟩
theorem c98_30 : q_cat 98 30 (.ireturn) 1 0 0 (0) := ⟨rfl, rfl⟩
theorem l98_4 {Γ : q_Γ} (hG : q_GG Γ) {h0 : q_F} (hZ : q_Bz h0)  
    (hx29 : ∀ {u2 u1 : Int} {h : q_F}, h = h0 → q_R Γ q_K 155 98 (fun t w h' => (t = 1 ∧ (∃ z, w = ((0, z) : q_V)) ∧ h' = h0)) (29, [(2, (0, u2)), (1, (0, u1)), (0, (2, Int.ofNat 125))], [], q_hp q_K 155 h, [], 0, 0))
    : ∀ (m : Nat) {u2 u1 : Int} {h : q_F}, (-2147483648 ≤ u2 ∧ u2 < 2147483648) → h = h0 → 2147483648 - u2 < (m : Int) → q_R Γ q_K 155 98 (fun t w h' => (t = 1 ∧ (∃ z, w = ((0, z) : q_V)) ∧ h' = h0)) (4, [(2, (0, u2)), (1, (0, u1)), (0, (2, Int.ofNat 125))], [], q_hp q_K 155 h, [], 0, 0)   := by
  intro m
  induction m with
  | zero =>
    intro u2 u1 h hinv hf hmu
    exact absurd hmu (by omega)
  | succ m ih =>
    intro u2 u1 h hinv hf hmu
    subst hf
    refine r_iload_n c98_4 rfl rfl ?_
    refine r_aload_n c98_5 rfl rfl ?_
    refine r_geti c98_6 (by first | assumption | omega) (by decide) (by first | assumption | rfl) rfl rfl ?_
    refine r_ic_ge c98_9 rfl (by first | exact q_w32_id (by omega) (by omega) | exact q_w32w _ | exact rfl) (by first | exact q_w32_id (by omega) (by omega) | exact q_w32w _ | exact rfl) ?_ ?_
    · intro b1
      refine q_R.wk (ks := [2, 1, 0]) (lo' := [(2, _), (1, _), (0, _)]) rfl ?_
      exact hx29 rfl
    · intro b1
      refine r_iload_n c98_12 rfl rfl ?_
      refine r_aload_n c98_13 rfl rfl ?_
      refine r_getr c98_14 (by first | assumption | omega) (by decide) (by first | assumption | rfl) rfl rfl ?_
      refine r_iload_n c98_17 rfl rfl ?_
      refine r_callG c98_18 (fun _ => rfl) rfl rfl rfl (k175 hG hZ (by first | assumption | omega) (by first | assumption | rfl) (by first | assumption | decide)) ?_
      intro t2 w2 g2 p2
      obtain ⟨rfl, ⟨z2, rfl⟩, rfl⟩ := p2
      refine Or.inr (Or.inl ⟨rfl, ?_⟩)
      refine r_iadd c98_21 (by first | exact q_w32_id (by omega) (by omega) | exact q_w32w _ | exact rfl) rfl ?_
      refine r_istore_n c98_22 (lo' := [(1, _), (2, _), (0, _)]) rfl rfl rfl ?_
      refine r_iinc c98_23 rfl (by first | exact q_w32_id (by omega) (by omega) | exact q_w32w _ | exact rfl) (lo' := [(2, _), (1, _), (0, _)]) rfl rfl rfl ?_
      refine r_goto c98_26 ?_
      refine q_R.wk (ks := [2, 1, 0]) (lo' := [(2, _), (1, _), (0, _)]) rfl ?_
      exact ih (by first | omega | exact ⟨q_rg1 _, q_rg2 _⟩) rfl (by omega)

theorem k98 {Γ : q_Γ} (hG : q_GG Γ) {h : q_F} (hZ : q_Bz h)   :
    q_M Γ q_K 155 98 [(2, Int.ofNat 125)] h (fun t w h' => (t = 1 ∧ (∃ z, w = ((0, z) : q_V)) ∧ h' = h)) := by
  refine q_M.of (by decide) (Nat.le_of_ble_eq_true rfl) hG ?_
  refine r_iconst c98_0 rfl ?_
  refine r_istore_n c98_1 (lo' := [(1, _), (0, _)]) rfl rfl rfl ?_
  refine r_iconst c98_2 rfl ?_
  refine r_istore_n c98_3 (lo' := [(2, _), (1, _), (0, _)]) rfl rfl rfl ?_
  refine q_R.wk (ks := [2, 1, 0]) (lo' := [(2, _), (1, _), (0, _)]) rfl ?_
  refine l98_4 hG hZ  ?_ 4294967298 (by first | omega | exact ⟨q_rg1 _, q_rg2 _⟩) rfl (q_mu (by first | omega | exact ⟨q_rg1 _, q_rg2 _⟩))
  · intro u2_1 u1_1 g1 f1
    subst f1
    refine r_iload_n c98_29 rfl rfl ?_
    exact r_iret c98_30 ⟨rfl, rfl, rfl⟩ ⟨rfl, ⟨_, rfl⟩, rfl⟩
theorem c83_0 : q_cat 83 0 (.aload_n 0) 1 0 0 (0) := ⟨rfl, rfl⟩
theorem c83_1 : q_cat 83 1 (.getfield 21) 3 4 3 (3) := ⟨rfl, rfl⟩
theorem c83_4 : q_cat 83 4 (.iload_n 1) 1 1 0 (0) := ⟨rfl, rfl⟩
theorem c83_5 : q_cat 83 5 (.invokestatic 63) 3 175 3 (0) := ⟨rfl, rfl⟩
theorem c83_8 : q_cat 83 8 (.istore 4) 2 4 0 (0) := ⟨rfl, rfl⟩
theorem c83_10 : q_cat 83 10 (.aload_n 0) 1 0 0 (0) := ⟨rfl, rfl⟩
theorem c83_11 : q_cat 83 11 (.getfield 15) 3 4 1 (3) := ⟨rfl, rfl⟩
theorem c83_14 : q_cat 83 14 (.iload_n 1) 1 1 0 (0) := ⟨rfl, rfl⟩
theorem c83_15 : q_cat 83 15 (.iconst 3) 1 0 0 (0) := ⟨rfl, rfl⟩
theorem c83_16 : q_cat 83 16 (.imul) 1 0 0 (0) := ⟨rfl, rfl⟩
theorem c83_17 : q_cat 83 17 (.iload_n 2) 1 2 0 (0) := ⟨rfl, rfl⟩
theorem c83_18 : q_cat 83 18 (.iadd) 1 0 0 (0) := ⟨rfl, rfl⟩
theorem c83_19 : q_cat 83 19 (.invokestatic 63) 3 175 3 (0) := ⟨rfl, rfl⟩
theorem c83_22 : q_cat 83 22 (.invokestatic 101) 3 0 8 (0) := ⟨rfl, rfl⟩
theorem c83_25 : q_cat 83 25 (.istore 5) 2 5 0 (0) := ⟨rfl, rfl⟩
theorem c83_27 : q_cat 83 27 (.iconst 2) 1 0 0 (0) := ⟨rfl, rfl⟩
theorem c83_28 : q_cat 83 28 (.iload_n 3) 1 3 0 (0) := ⟨rfl, rfl⟩
theorem c83_29 : q_cat 83 29 (.imul) 1 0 0 (0) := ⟨rfl, rfl⟩
theorem c83_30 : q_cat 83 30 (.iload 5) 2 5 0 (0) := ⟨rfl, rfl⟩
theorem c83_32 : q_cat 83 32 (.imul) 1 0 0 (0) := ⟨rfl, rfl⟩
theorem c83_33 : q_cat 83 33 (.iload 4) 2 4 0 (0) := ⟨rfl, rfl⟩
theorem c83_35 : q_cat 83 35 (.iadd) 1 0 0 (0) := ⟨rfl, rfl⟩
theorem c83_36 : q_cat 83 36 (.iconst 2) 1 0 0 (0) := ⟨rfl, rfl⟩
theorem c83_37 : q_cat 83 37 (.iload 4) 2 4 0 (0) := ⟨rfl, rfl⟩
theorem c83_39 : q_cat 83 39 (.imul) 1 0 0 (0) := ⟨rfl, rfl⟩
theorem c83_40 : q_cat 83 40 (.invokestatic 114) 3 201 3 (0) := ⟨rfl, rfl⟩
theorem c83_43 : q_cat 83 43 (.ireturn) 1 0 0 (0) := ⟨rfl, rfl⟩
theorem k83 {Γ : q_Γ} (hG : q_GG Γ) {h : q_F} (hZ : q_Bz h) {v1 : Int} {v2 : Int} {v3 : Int}  :
    q_M Γ q_K 155 83 [(2, Int.ofNat 125), (0, v1), (0, v2), (0, v3)] h (fun t w h' => (t = 1 ∧ (∃ z, w = ((0, z) : q_V)) ∧ h' = h)) := by
  refine q_M.of (by decide) (Nat.le_of_ble_eq_true rfl) hG ?_
  refine r_aload_n c83_0 rfl rfl ?_
  refine r_getr c83_1 (by first | assumption | omega) (by decide) (by first | assumption | rfl) rfl rfl ?_
  refine r_iload_n c83_4 rfl rfl ?_
  refine r_callG c83_5 (fun _ => rfl) rfl rfl rfl (k175 hG hZ (by first | assumption | omega) (by first | assumption | rfl) (by first | assumption | decide)) ?_
  intro t1 w1 g1 p1
  obtain ⟨rfl, ⟨z1, rfl⟩, rfl⟩ := p1
  refine Or.inr (Or.inl ⟨rfl, ?_⟩)
  refine r_istore c83_8 (lo' := [(4, _), (0, _), (1, _), (2, _), (3, _)]) rfl rfl rfl ?_
  refine r_aload_n c83_10 rfl rfl ?_
  refine r_getr c83_11 (by first | assumption | omega) (by decide) (by first | assumption | rfl) rfl rfl ?_
  refine r_iload_n c83_14 rfl rfl ?_
  refine r_iconst c83_15 rfl ?_
  refine r_imul c83_16 (by first | exact q_w32_id (by omega) (by omega) | exact q_w32w _ | exact rfl) rfl ?_
  refine r_iload_n c83_17 rfl rfl ?_
  refine r_iadd c83_18 (by first | exact q_w32_id (by omega) (by omega) | exact q_w32w _ | exact rfl) rfl ?_
  refine r_callG c83_19 (fun _ => rfl) rfl rfl rfl (k175 hG hZ (by first | assumption | omega) (by first | assumption | rfl) (by first | assumption | decide)) ?_
  intro t2 w2 g2 p2
  obtain ⟨rfl, ⟨z2, rfl⟩, rfl⟩ := p2
  refine Or.inr (Or.inl ⟨rfl, ?_⟩)
  refine r_abs c83_22 rfl rfl ?_
  refine r_istore c83_25 (lo' := [(5, _), (4, _), (0, _), (1, _), (2, _), (3, _)]) rfl rfl rfl ?_
  refine r_iconst c83_27 rfl ?_
  refine r_iload_n c83_28 rfl rfl ?_
  refine r_imul c83_29 (by first | exact q_w32_id (by omega) (by omega) | exact q_w32w _ | exact rfl) rfl ?_
  refine r_iload c83_30 rfl rfl ?_
  refine r_imul c83_32 (by first | exact q_w32_id (by omega) (by omega) | exact q_w32w _ | exact rfl) rfl ?_
  refine r_iload c83_33 rfl rfl ?_
  refine r_iadd c83_35 (by first | exact q_w32_id (by omega) (by omega) | exact q_w32w _ | exact rfl) rfl ?_
  refine r_iconst c83_36 rfl ?_
  refine r_iload c83_37 rfl rfl ?_
  refine r_imul c83_39 (by first | exact q_w32_id (by omega) (by omega) | exact q_w32w _ | exact rfl) rfl ?_
  refine r_callG c83_40 (fun _ => rfl) rfl rfl rfl (k201 hG hZ) ?_
  intro t3 w3 g3 p3
  obtain ⟨rfl, ⟨z3, rfl⟩, rfl⟩ := p3
  refine Or.inr (Or.inl ⟨rfl, ?_⟩)
  exact r_iret c83_43 ⟨rfl, rfl, rfl⟩ ⟨rfl, ⟨_, rfl⟩, rfl⟩
theorem c87_0 : q_cat 87 0 (.aload_n 0) 1 0 0 (0) := ⟨rfl, rfl⟩
theorem c87_1 : q_cat 87 1 (.getfield 9) 3 4 0 (3) := ⟨rfl, rfl⟩
theorem c87_4 : q_cat 87 4 (.iload_n 1) 1 1 0 (0) := ⟨rfl, rfl⟩
theorem c87_5 : q_cat 87 5 (.iconst 3) 1 0 0 (0) := ⟨rfl, rfl⟩
theorem c87_6 : q_cat 87 6 (.imul) 1 0 0 (0) := ⟨rfl, rfl⟩
theorem c87_7 : q_cat 87 7 (.iload_n 2) 1 2 0 (0) := ⟨rfl, rfl⟩
theorem c87_8 : q_cat 87 8 (.iadd) 1 0 0 (0) := ⟨rfl, rfl⟩
theorem c87_9 : q_cat 87 9 (.invokestatic 63) 3 175 3 (0) := ⟨rfl, rfl⟩
theorem c87_12 : q_cat 87 12 (.aload_n 0) 1 0 0 (0) := ⟨rfl, rfl⟩
theorem c87_13 : q_cat 87 13 (.iload_n 1) 1 1 0 (0) := ⟨rfl, rfl⟩
theorem c87_14 : q_cat 87 14 (.iload_n 2) 1 2 0 (0) := ⟨rfl, rfl⟩
theorem c87_15 : q_cat 87 15 (.invokevirtual 157) 3 101 0 (0) := ⟨rfl, rfl⟩
theorem c87_18 : q_cat 87 18 (.aload_n 0) 1 0 0 (0) := ⟨rfl, rfl⟩
theorem c87_19 : q_cat 87 19 (.iload_n 1) 1 1 0 (0) := ⟨rfl, rfl⟩
theorem c87_20 : q_cat 87 20 (.iload_n 2) 1 2 0 (0) := ⟨rfl, rfl⟩
theorem c87_21 : q_cat 87 21 (.iload_n 3) 1 3 0 (0) := ⟨rfl, rfl⟩
theorem c87_22 : q_cat 87 22 (.invokevirtual 160) 3 83 0 (0) := ⟨rfl, rfl⟩
theorem c87_25 : q_cat 87 25 (.imul) 1 0 0 (0) := ⟨rfl, rfl⟩
theorem c87_26 : q_cat 87 26 (.iadd) 1 0 0 (0) := ⟨rfl, rfl⟩
theorem c87_27 : q_cat 87 27 (.ireturn) 1 0 0 (0) := ⟨rfl, rfl⟩
theorem k87 {Γ : q_Γ} (hG : q_GG Γ) {h : q_F} (hZ : q_Bz h) {v1 : Int} {v2 : Int} {v3 : Int}  :
    q_M Γ q_K 155 87 [(2, Int.ofNat 125), (0, v1), (0, v2), (0, v3)] h (fun t w h' => (t = 1 ∧ (∃ z, w = ((0, z) : q_V)) ∧ h' = h)) := by
  refine q_M.of (by decide) (Nat.le_of_ble_eq_true rfl) hG ?_
  refine r_aload_n c87_0 rfl rfl ?_
  refine r_getr c87_1 (by first | assumption | omega) (by decide) (by first | assumption | rfl) rfl rfl ?_
  refine r_iload_n c87_4 rfl rfl ?_
  refine r_iconst c87_5 rfl ?_
  refine r_imul c87_6 (by first | exact q_w32_id (by omega) (by omega) | exact q_w32w _ | exact rfl) rfl ?_
  refine r_iload_n c87_7 rfl rfl ?_
  refine r_iadd c87_8 (by first | exact q_w32_id (by omega) (by omega) | exact q_w32w _ | exact rfl) rfl ?_
  refine r_callG c87_9 (fun _ => rfl) rfl rfl rfl (k175 hG hZ (by first | assumption | omega) (by first | assumption | rfl) (by first | assumption | decide)) ?_
  intro t1 w1 g1 p1
  obtain ⟨rfl, ⟨z1, rfl⟩, rfl⟩ := p1
  refine Or.inr (Or.inl ⟨rfl, ?_⟩)
  refine r_aload_n c87_12 rfl rfl ?_
  refine r_iload_n c87_13 rfl rfl ?_
  refine r_iload_n c87_14 rfl rfl ?_
  refine r_vcG c87_15 (by first | assumption | omega) (by decide) (by first | assumption | rfl) rfl rfl rfl (k101 hG hZ) ?_
  intro t2 w2 g2 p2
  obtain ⟨rfl, ⟨z2, rfl⟩, rfl⟩ := p2
  refine Or.inr (Or.inl ⟨rfl, ?_⟩)
  refine r_aload_n c87_18 rfl rfl ?_
  refine r_iload_n c87_19 rfl rfl ?_
  refine r_iload_n c87_20 rfl rfl ?_
  refine r_iload_n c87_21 rfl rfl ?_
  refine r_vcG c87_22 (by first | assumption | omega) (by decide) (by first | assumption | rfl) rfl rfl rfl (k83 hG hZ) ?_
  intro t3 w3 g3 p3
  obtain ⟨rfl, ⟨z3, rfl⟩, rfl⟩ := p3
  refine Or.inr (Or.inl ⟨rfl, ?_⟩)
  refine r_imul c87_25 (by first | exact q_w32_id (by omega) (by omega) | exact q_w32w _ | exact rfl) rfl ?_
  refine r_iadd c87_26 (by first | exact q_w32_id (by omega) (by omega) | exact q_w32w _ | exact rfl) rfl ?_
  exact r_iret c87_27 ⟨rfl, rfl, rfl⟩ ⟨rfl, ⟨_, rfl⟩, rfl⟩
theorem c97_0 : q_cat 97 0 (.lload_n 2) 1 2 0 (0) := ⟨rfl, rfl⟩
theorem c97_1 : q_cat 97 1 (.lstore 4) 2 4 0 (0) := ⟨rfl, rfl⟩
theorem c97_3 : q_cat 97 3 (.iconst 0) 1 0 0 (0) := ⟨rfl, rfl⟩
theorem c97_4 : q_cat 97 4 (.istore 6) 2 6 0 (0) := ⟨rfl, rfl⟩
theorem c97_6 : q_cat 97 6 (.iload 6) 2 6 0 (0) := ⟨rfl, rfl⟩
theorem c97_8 : q_cat 97 8 (.aload_n 0) 1 0 0 (0) := ⟨rfl, rfl⟩
theorem c97_9 : q_cat 97 9 (.iload_n 1) 1 1 0 (0) := ⟨rfl, rfl⟩
theorem c97_10 : q_cat 97 10 (.invokevirtual 135) 3 79 0 (0) := ⟨rfl, rfl⟩
theorem c97_13 : q_cat 97 13 (.if_icmp .ge 36) 3 49 0 (0) := ⟨rfl, rfl⟩
theorem c97_16 : q_cat 97 16 (.aload_n 0) 1 0 0 (0) := ⟨rfl, rfl⟩
theorem c97_17 : q_cat 97 17 (.iload_n 1) 1 1 0 (0) := ⟨rfl, rfl⟩
theorem c97_18 : q_cat 97 18 (.iload 6) 2 6 0 (0) := ⟨rfl, rfl⟩
theorem c97_20 : q_cat 97 20 (.invokevirtual 170) 3 95 0 (0) := ⟨rfl, rfl⟩
theorem c97_23 : q_cat 97 23 (.i2l) 1 0 0 (0) := ⟨rfl, rfl⟩
theorem c97_24 : q_cat 97 24 (.lload 4) 2 4 0 (0) := ⟨rfl, rfl⟩
theorem c97_26 : q_cat 97 26 (.lcmp) 1 0 0 (0) := ⟨rfl, rfl⟩
theorem c97_27 : q_cat 97 27 (.ifCond .gt 22) 3 49 0 (0) := ⟨rfl, rfl⟩
theorem c97_30 : q_cat 97 30 (.lload 4) 2 4 0 (0) := ⟨rfl, rfl⟩
theorem c97_32 : q_cat 97 32 (.aload_n 0) 1 0 0 (0) := ⟨rfl, rfl⟩
theorem c97_33 : q_cat 97 33 (.iload_n 1) 1 1 0 (0) := ⟨rfl, rfl⟩
theorem c97_34 : q_cat 97 34 (.iload 6) 2 6 0 (0) := ⟨rfl, rfl⟩
theorem c97_36 : q_cat 97 36 (.invokevirtual 170) 3 95 0 (0) := ⟨rfl, rfl⟩
theorem c97_39 : q_cat 97 39 (.i2l) 1 0 0 (0) := ⟨rfl, rfl⟩
theorem c97_40 : q_cat 97 40 (.lsub) 1 0 0 (0) := ⟨rfl, rfl⟩
theorem c97_41 : q_cat 97 41 (.lstore 4) 2 4 0 (0) := ⟨rfl, rfl⟩
theorem c97_43 : q_cat 97 43 (.iinc 6 1) 3 6 0 (0) := ⟨rfl, rfl⟩
theorem c97_46 : q_cat 97 46 (.goto (-40)) 3 6 0 (0) := ⟨rfl, rfl⟩
theorem c97_49 : q_cat 97 49 (.iload 6) 2 6 0 (0) := ⟨rfl, rfl⟩
theorem c97_51 : q_cat 97 51 (.ireturn) 1 0 0 (0) := ⟨rfl, rfl⟩
theorem l97_6 {Γ : q_Γ} (hG : q_GG Γ) {h0 : q_F} (hZ : q_Bz h0) {v1 : Int} {v2 : Int} {u1 : Int} {u2 : Int} 
    (hx49 : ∀ {u6 u4 : Int} {h : q_F}, h = h0 → q_R Γ q_K 155 97 (fun t w h' => (t = 1 ∧ (∃ z, w = ((0, z) : q_V)) ∧ h' = h0)) (49, [(6, (0, u6)), (4, (1, u4)), (0, (2, Int.ofNat 125)), (1, (0, u1)), (2, (1, u2))], [], q_hp q_K 155 h, [], 0, 0))
    : ∀ (m : Nat) {u6 u4 : Int} {h : q_F}, (-2147483648 ≤ u6 ∧ u6 < 2147483648) → h = h0 → 2147483648 - u6 < (m : Int) → q_R Γ q_K 155 97 (fun t w h' => (t = 1 ∧ (∃ z, w = ((0, z) : q_V)) ∧ h' = h0)) (6, [(6, (0, u6)), (4, (1, u4)), (0, (2, Int.ofNat 125)), (1, (0, u1)), (2, (1, u2))], [], q_hp q_K 155 h, [], 0, 0)   := by
  intro m
  induction m with
  | zero =>
    intro u6 u4 h hinv hf hmu
    exact absurd hmu (by omega)
  | succ m ih =>
    intro u6 u4 h hinv hf hmu
    subst hf
    refine r_iload c97_6 rfl rfl ?_
    refine r_aload_n c97_8 rfl rfl ?_
    refine r_iload_n c97_9 rfl rfl ?_
    refine r_vcG c97_10 (by first | assumption | omega) (by decide) (by first | assumption | rfl) rfl rfl rfl (k79 hG hZ) ?_
    intro t1 w1 g1 p1
    obtain ⟨rfl, ⟨z1, rfl⟩, rfl⟩ := p1
    refine Or.inr (Or.inl ⟨rfl, ?_⟩)
    refine r_ic_ge c97_13 rfl (by first | exact q_w32_id (by omega) (by omega) | exact q_w32w _ | exact rfl) (by first | exact q_w32_id (by omega) (by omega) | exact q_w32w _ | exact rfl) ?_ ?_
    · intro b2
      refine q_R.wk (ks := [6, 4, 0, 1, 2]) (lo' := [(6, _), (4, _), (0, _), (1, _), (2, _)]) rfl ?_
      exact hx49 rfl
    · intro b2
      refine r_aload_n c97_16 rfl rfl ?_
      refine r_iload_n c97_17 rfl rfl ?_
      refine r_iload c97_18 rfl rfl ?_
      refine r_vcG c97_20 (by first | assumption | omega) (by decide) (by first | assumption | rfl) rfl rfl rfl (k95 hG hZ) ?_
      intro t3 w3 g3 p3
      obtain ⟨rfl, ⟨z3, rfl⟩, rfl⟩ := p3
      refine Or.inr (Or.inl ⟨rfl, ?_⟩)
      refine r_i2l c97_23 (by first | exact q_w32_id (by omega) (by omega) | exact q_w32w _ | exact rfl) rfl ?_
      refine r_lload c97_24 rfl rfl ?_
      refine r_lcmp c97_26 rfl ?_ ?_ ?_
      · intro b4
        refine r_if_gt c97_27 rfl (show q_w32 (-1) = -1 from rfl) ?_ ?_
        · intro b5
          exact absurd b5.1 (by decide)
        · intro b5
          refine r_lload c97_30 rfl rfl ?_
          refine r_aload_n c97_32 rfl rfl ?_
          refine r_iload_n c97_33 rfl rfl ?_
          refine r_iload c97_34 rfl rfl ?_
          refine r_vcG c97_36 (by first | assumption | omega) (by decide) (by first | assumption | rfl) rfl rfl rfl (k95 hG hZ) ?_
          intro t6 w6 g6 p6
          obtain ⟨rfl, ⟨z6, rfl⟩, rfl⟩ := p6
          refine Or.inr (Or.inl ⟨rfl, ?_⟩)
          refine r_i2l c97_39 (by first | exact q_w32_id (by omega) (by omega) | exact q_w32w _ | exact rfl) rfl ?_
          refine r_lsub c97_40 rfl rfl ?_
          refine r_lstore c97_41 (lo' := [(4, _), (6, _), (0, _), (1, _), (2, _)]) rfl rfl rfl ?_
          refine r_iinc c97_43 rfl (by first | exact q_w32_id (by omega) (by omega) | exact q_w32w _ | exact rfl) (lo' := [(6, _), (4, _), (0, _), (1, _), (2, _)]) rfl rfl rfl ?_
          refine r_goto c97_46 ?_
          refine q_R.wk (ks := [6, 4, 0, 1, 2]) (lo' := [(6, _), (4, _), (0, _), (1, _), (2, _)]) rfl ?_
          exact ih (by first | omega | exact ⟨q_rg1 _, q_rg2 _⟩) rfl (by omega)
      · intro b4
        refine r_if_gt c97_27 rfl (show q_w32 (0) = 0 from rfl) ?_ ?_
        · intro b7
          exact absurd b7.1 (by decide)
        · intro b7
          refine r_lload c97_30 rfl rfl ?_
          refine r_aload_n c97_32 rfl rfl ?_
          refine r_iload_n c97_33 rfl rfl ?_
          refine r_iload c97_34 rfl rfl ?_
          refine r_vcG c97_36 (by first | assumption | omega) (by decide) (by first | assumption | rfl) rfl rfl rfl (k95 hG hZ) ?_
          intro t8 w8 g8 p8
          obtain ⟨rfl, ⟨z8, rfl⟩, rfl⟩ := p8
          refine Or.inr (Or.inl ⟨rfl, ?_⟩)
          refine r_i2l c97_39 (by first | exact q_w32_id (by omega) (by omega) | exact q_w32w _ | exact rfl) rfl ?_
          refine r_lsub c97_40 rfl rfl ?_
          refine r_lstore c97_41 (lo' := [(4, _), (6, _), (0, _), (1, _), (2, _)]) rfl rfl rfl ?_
          refine r_iinc c97_43 rfl (by first | exact q_w32_id (by omega) (by omega) | exact q_w32w _ | exact rfl) (lo' := [(6, _), (4, _), (0, _), (1, _), (2, _)]) rfl rfl rfl ?_
          refine r_goto c97_46 ?_
          refine q_R.wk (ks := [6, 4, 0, 1, 2]) (lo' := [(6, _), (4, _), (0, _), (1, _), (2, _)]) rfl ?_
          exact ih (by first | omega | exact ⟨q_rg1 _, q_rg2 _⟩) rfl (by omega)
      · intro b4
        refine r_if_gt c97_27 rfl (show q_w32 (1) = 1 from rfl) ?_ ?_
        · intro b9
          refine q_R.wk (ks := [6, 4, 0, 1, 2]) (lo' := [(6, _), (4, _), (0, _), (1, _), (2, _)]) rfl ?_
          exact hx49 rfl
        · intro b9
          exact absurd b9.1 (by decide)

theorem k97 {Γ : q_Γ} (hG : q_GG Γ) {h : q_F} (hZ : q_Bz h) {v1 : Int} {v2 : Int}  :
    q_M Γ q_K 155 97 [(2, Int.ofNat 125), (0, v1), (1, v2)] h (fun t w h' => (t = 1 ∧ (∃ z, w = ((0, z) : q_V)) ∧ h' = h)) := by
  refine q_M.of (by decide) (Nat.le_of_ble_eq_true rfl) hG ?_
  refine r_lload_n c97_0 rfl rfl ?_
  refine r_lstore c97_1 (lo' := [(4, _), (0, _), (1, _), (2, _)]) rfl rfl rfl ?_
  refine r_iconst c97_3 rfl ?_
  refine r_istore c97_4 (lo' := [(6, _), (4, _), (0, _), (1, _), (2, _)]) rfl rfl rfl ?_
  refine q_R.wk (ks := [6, 4, 0, 1, 2]) (lo' := [(6, _), (4, _), (0, _), (1, _), (2, _)]) rfl ?_
  refine l97_6 (v1 := v1) (v2 := v2) hG hZ  ?_ 4294967298 (by first | omega | exact ⟨q_rg1 _, q_rg2 _⟩) rfl (q_mu (by first | omega | exact ⟨q_rg1 _, q_rg2 _⟩))
  · intro u6_1 u4_1 g1 f1
    subst f1
    refine r_iload c97_49 rfl rfl ?_
    exact r_iret c97_51 ⟨rfl, rfl, rfl⟩ ⟨rfl, ⟨_, rfl⟩, rfl⟩
theorem c71_0 : q_cat 71 0 (.aload_n 0) 1 0 0 (0) := ⟨rfl, rfl⟩
theorem c71_1 : q_cat 71 1 (.getfield 33) 3 4 7 (3) := ⟨rfl, rfl⟩
theorem c71_4 : q_cat 71 4 (.iload_n 1) 1 1 0 (0) := ⟨rfl, rfl⟩
theorem c71_5 : q_cat 71 5 (.invokestatic 63) 3 175 3 (0) := ⟨rfl, rfl⟩
theorem c71_8 : q_cat 71 8 (.i2l) 1 0 0 (0) := ⟨rfl, rfl⟩
theorem c71_9 : q_cat 71 9 (.ldc 153) 2 0 0 (1000000) := ⟨rfl, rfl⟩
theorem c71_11 : q_cat 71 11 (.aload_n 0) 1 0 0 (0) := ⟨rfl, rfl⟩
theorem c71_12 : q_cat 71 12 (.getfield 46) 3 4 10 (0) := ⟨rfl, rfl⟩
theorem c71_15 : q_cat 71 15 (.invokestatic 114) 3 201 3 (0) := ⟨rfl, rfl⟩
theorem c71_18 : q_cat 71 18 (.i2l) 1 0 0 (0) := ⟨rfl, rfl⟩
theorem c71_19 : q_cat 71 19 (.lmul) 1 0 0 (0) := ⟨rfl, rfl⟩
theorem c71_20 : q_cat 71 20 (.lreturn) 1 0 0 (0) := ⟨rfl, rfl⟩
theorem k71 {Γ : q_Γ} (hG : q_GG Γ) {h : q_F} (hZ : q_Bz h) {v1 : Int}  :
    q_M Γ q_K 155 71 [(2, Int.ofNat 125), (0, v1)] h (fun t w h' => (t = 1 ∧ (∃ z, w = ((1, z) : q_V)) ∧ h' = h)) := by
  refine q_M.of (by decide) (Nat.le_of_ble_eq_true rfl) hG ?_
  refine r_aload_n c71_0 rfl rfl ?_
  refine r_getr c71_1 (by first | assumption | omega) (by decide) (by first | assumption | rfl) rfl rfl ?_
  refine r_iload_n c71_4 rfl rfl ?_
  refine r_callG c71_5 (fun _ => rfl) rfl rfl rfl (k175 hG hZ (by first | assumption | omega) (by first | assumption | rfl) (by first | assumption | decide)) ?_
  intro t1 w1 g1 p1
  obtain ⟨rfl, ⟨z1, rfl⟩, rfl⟩ := p1
  refine Or.inr (Or.inl ⟨rfl, ?_⟩)
  refine r_i2l c71_8 (by first | exact q_w32_id (by omega) (by omega) | exact q_w32w _ | exact rfl) rfl ?_
  refine r_ldc c71_9 rfl rfl ?_
  refine r_aload_n c71_11 rfl rfl ?_
  refine r_geti c71_12 (by first | assumption | omega) (by decide) (by first | assumption | rfl) rfl rfl ?_
  refine r_callG c71_15 (fun _ => rfl) rfl rfl rfl (k201 hG hZ) ?_
  intro t2 w2 g2 p2
  obtain ⟨rfl, ⟨z2, rfl⟩, rfl⟩ := p2
  refine Or.inr (Or.inl ⟨rfl, ?_⟩)
  refine r_i2l c71_18 (by first | exact q_w32_id (by omega) (by omega) | exact q_w32w _ | exact rfl) rfl ?_
  refine r_lmul c71_19 rfl rfl ?_
  exact r_lret c71_20 ⟨rfl, rfl, rfl⟩ ⟨rfl, ⟨_, rfl⟩, rfl⟩
theorem c96_0 : q_cat 96 0 (.aload_n 0) 1 0 0 (0) := ⟨rfl, rfl⟩
theorem c96_1 : q_cat 96 1 (.getfield 24) 3 4 4 (3) := ⟨rfl, rfl⟩
theorem c96_4 : q_cat 96 4 (.iload_n 1) 1 1 0 (0) := ⟨rfl, rfl⟩
theorem c96_5 : q_cat 96 5 (.invokestatic 63) 3 175 3 (0) := ⟨rfl, rfl⟩
theorem c96_8 : q_cat 96 8 (.istore_n 2) 1 2 0 (0) := ⟨rfl, rfl⟩
theorem c96_9 : q_cat 96 9 (.aload_n 0) 1 0 0 (0) := ⟨rfl, rfl⟩
theorem c96_10 : q_cat 96 10 (.iload_n 1) 1 1 0 (0) := ⟨rfl, rfl⟩
theorem c96_11 : q_cat 96 11 (.invokevirtual 135) 3 79 0 (0) := ⟨rfl, rfl⟩
theorem c96_14 : q_cat 96 14 (.istore_n 3) 1 3 0 (0) := ⟨rfl, rfl⟩
theorem c96_15 : q_cat 96 15 (.lconst 0) 1 0 0 (0) := ⟨rfl, rfl⟩
theorem c96_16 : q_cat 96 16 (.lstore 4) 2 4 0 (0) := ⟨rfl, rfl⟩
theorem c96_18 : q_cat 96 18 (.iconst 0) 1 0 0 (0) := ⟨rfl, rfl⟩
theorem c96_19 : q_cat 96 19 (.istore 6) 2 6 0 (0) := ⟨rfl, rfl⟩
theorem c96_21 : q_cat 96 21 (.iload 6) 2 6 0 (0) := ⟨rfl, rfl⟩
theorem c96_23 : q_cat 96 23 (.iload_n 3) 1 3 0 (0) := ⟨rfl, rfl⟩
theorem c96_24 : q_cat 96 24 (.if_icmp .ge 33) 3 57 0 (0) := ⟨rfl, rfl⟩
theorem c96_27 : q_cat 96 27 (.aload_n 0) 1 0 0 (0) := ⟨rfl, rfl⟩
theorem c96_28 : q_cat 96 28 (.iload_n 1) 1 1 0 (0) := ⟨rfl, rfl⟩
theorem c96_29 : q_cat 96 29 (.iload 6) 2 6 0 (0) := ⟨rfl, rfl⟩
theorem c96_31 : q_cat 96 31 (.invokevirtual 154) 3 93 0 (0) := ⟨rfl, rfl⟩
theorem c96_34 : q_cat 96 34 (.iload_n 2) 1 2 0 (0) := ⟨rfl, rfl⟩
theorem c96_35 : q_cat 96 35 (.if_icmp .ge 22) 3 57 0 (0) := ⟨rfl, rfl⟩
theorem c96_38 : q_cat 96 38 (.lload 4) 2 4 0 (0) := ⟨rfl, rfl⟩
theorem c96_40 : q_cat 96 40 (.aload_n 0) 1 0 0 (0) := ⟨rfl, rfl⟩
theorem c96_41 : q_cat 96 41 (.iload_n 1) 1 1 0 (0) := ⟨rfl, rfl⟩
theorem c96_42 : q_cat 96 42 (.iload 6) 2 6 0 (0) := ⟨rfl, rfl⟩
theorem c96_44 : q_cat 96 44 (.invokevirtual 170) 3 95 0 (0) := ⟨rfl, rfl⟩
theorem c96_47 : q_cat 96 47 (.i2l) 1 0 0 (0) := ⟨rfl, rfl⟩
theorem c96_48 : q_cat 96 48 (.ladd) 1 0 0 (0) := ⟨rfl, rfl⟩
theorem c96_49 : q_cat 96 49 (.lstore 4) 2 4 0 (0) := ⟨rfl, rfl⟩
theorem c96_51 : q_cat 96 51 (.iinc 6 1) 3 6 0 (0) := ⟨rfl, rfl⟩
theorem c96_54 : q_cat 96 54 (.goto (-33)) 3 21 0 (0) := ⟨rfl, rfl⟩
theorem c96_57 : q_cat 96 57 (.iload_n 3) 1 3 0 (0) := ⟨rfl, rfl⟩
theorem c96_58 : q_cat 96 58 (.istore 7) 2 7 0 (0) := ⟨rfl, rfl⟩
theorem c96_60 : q_cat 96 60 (.iload 7) 2 7 0 (0) := ⟨rfl, rfl⟩
theorem c96_62 : q_cat 96 62 (.iload 6) 2 6 0 (0) := ⟨rfl, rfl⟩
theorem c96_64 : q_cat 96 64 (.if_icmp .le 35) 3 99 0 (0) := ⟨rfl, rfl⟩
theorem c96_67 : q_cat 96 67 (.aload_n 0) 1 0 0 (0) := ⟨rfl, rfl⟩
theorem c96_68 : q_cat 96 68 (.iload_n 1) 1 1 0 (0) := ⟨rfl, rfl⟩
theorem c96_69 : q_cat 96 69 (.iload 7) 2 7 0 (0) := ⟨rfl, rfl⟩
theorem c96_71 : q_cat 96 71 (.iconst 1) 1 0 0 (0) := ⟨rfl, rfl⟩
theorem c96_72 : q_cat 96 72 (.isub) 1 0 0 (0) := ⟨rfl, rfl⟩
theorem c96_73 : q_cat 96 73 (.invokevirtual 154) 3 93 0 (0) := ⟨rfl, rfl⟩
theorem c96_76 : q_cat 96 76 (.iload_n 2) 1 2 0 (0) := ⟨rfl, rfl⟩
theorem c96_77 : q_cat 96 77 (.if_icmp .ge 22) 3 99 0 (0) := ⟨rfl, rfl⟩
theorem c96_80 : q_cat 96 80 (.iinc 7 (-1)) 3 7 0 (0) := ⟨rfl, rfl⟩
theorem c96_83 : q_cat 96 83 (.lload 4) 2 4 0 (0) := ⟨rfl, rfl⟩
theorem c96_85 : q_cat 96 85 (.aload_n 0) 1 0 0 (0) := ⟨rfl, rfl⟩
theorem c96_86 : q_cat 96 86 (.iload_n 1) 1 1 0 (0) := ⟨rfl, rfl⟩
theorem c96_87 : q_cat 96 87 (.iload 7) 2 7 0 (0) := ⟨rfl, rfl⟩
theorem c96_89 : q_cat 96 89 (.invokevirtual 170) 3 95 0 (0) := ⟨rfl, rfl⟩
theorem c96_92 : q_cat 96 92 (.i2l) 1 0 0 (0) := ⟨rfl, rfl⟩
theorem c96_93 : q_cat 96 93 (.ladd) 1 0 0 (0) := ⟨rfl, rfl⟩
theorem c96_94 : q_cat 96 94 (.lstore 4) 2 4 0 (0) := ⟨rfl, rfl⟩
theorem c96_96 : q_cat 96 96 (.goto (-36)) 3 60 0 (0) := ⟨rfl, rfl⟩
theorem c96_99 : q_cat 96 99 (.lload 4) 2 4 0 (0) := ⟨rfl, rfl⟩
theorem c96_101 : q_cat 96 101 (.iload 7) 2 7 0 (0) := ⟨rfl, rfl⟩
theorem c96_103 : q_cat 96 103 (.iload 6) 2 6 0 (0) := ⟨rfl, rfl⟩
theorem c96_105 : q_cat 96 105 (.isub) 1 0 0 (0) := ⟨rfl, rfl⟩
theorem c96_106 : q_cat 96 106 (.i2l) 1 0 0 (0) := ⟨rfl, rfl⟩
theorem c96_107 : q_cat 96 107 (.ldc 153) 2 0 0 (1000000) := ⟨rfl, rfl⟩
theorem c96_109 : q_cat 96 109 (.iload_n 2) 1 2 0 (0) := ⟨rfl, rfl⟩
theorem c96_110 : q_cat 96 110 (.invokestatic 114) 3 201 3 (0) := ⟨rfl, rfl⟩
theorem c96_113 : q_cat 96 113 (.i2l) 1 0 0 (0) := ⟨rfl, rfl⟩
theorem c96_114 : q_cat 96 114 (.lmul) 1 0 0 (0) := ⟨rfl, rfl⟩
theorem c96_115 : q_cat 96 115 (.ladd) 1 0 0 (0) := ⟨rfl, rfl⟩
theorem c96_116 : q_cat 96 116 (.lreturn) 1 0 0 (0) := ⟨rfl, rfl⟩
theorem l96_21 {Γ : q_Γ} (hG : q_GG Γ) {h0 : q_F} (hZ : q_Bz h0) {v1 : Int} {u3 : Int} {u2 : Int} {u1 : Int} 
    (hx57 : ∀ {u6 u4 : Int} {h : q_F}, h = h0 → q_R Γ q_K 155 96 (fun t w h' => (t = 1 ∧ (∃ z, w = ((1, z) : q_V)) ∧ h' = h0)) (57, [(6, (0, u6)), (4, (1, u4)), (3, (0, u3)), (2, (0, u2)), (0, (2, Int.ofNat 125)), (1, (0, u1))], [], q_hp q_K 155 h, [], 0, 0))
    : ∀ (m : Nat) {u6 u4 : Int} {h : q_F}, (-2147483648 ≤ u6 ∧ u6 < 2147483648) → h = h0 → 2147483648 - u6 < (m : Int) → q_R Γ q_K 155 96 (fun t w h' => (t = 1 ∧ (∃ z, w = ((1, z) : q_V)) ∧ h' = h0)) (21, [(6, (0, u6)), (4, (1, u4)), (3, (0, u3)), (2, (0, u2)), (0, (2, Int.ofNat 125)), (1, (0, u1))], [], q_hp q_K 155 h, [], 0, 0)   := by
  intro m
  induction m with
  | zero =>
    intro u6 u4 h hinv hf hmu
    exact absurd hmu (by omega)
  | succ m ih =>
    intro u6 u4 h hinv hf hmu
    subst hf
    refine r_iload c96_21 rfl rfl ?_
    refine r_iload_n c96_23 rfl rfl ?_
    refine r_ic_ge c96_24 rfl (by first | exact q_w32_id (by omega) (by omega) | exact q_w32w _ | exact rfl) (by first | exact q_w32_id (by omega) (by omega) | exact q_w32w _ | exact rfl) ?_ ?_
    · intro b3
      refine q_R.wk (ks := [6, 4, 3, 2, 0, 1]) (lo' := [(6, _), (4, _), (3, _), (2, _), (0, _), (1, _)]) rfl ?_
      exact hx57 rfl
    · intro b3
      refine r_aload_n c96_27 rfl rfl ?_
      refine r_iload_n c96_28 rfl rfl ?_
      refine r_iload c96_29 rfl rfl ?_
      refine r_vcG c96_31 (by first | assumption | omega) (by decide) (by first | assumption | rfl) rfl rfl rfl (k93 hG hZ) ?_
      intro t4 w4 g4 p4
      obtain ⟨rfl, ⟨z4, rfl⟩, rfl⟩ := p4
      refine Or.inr (Or.inl ⟨rfl, ?_⟩)
      refine r_iload_n c96_34 rfl rfl ?_
      refine r_ic_ge c96_35 rfl (by first | exact q_w32_id (by omega) (by omega) | exact q_w32w _ | exact rfl) (by first | exact q_w32_id (by omega) (by omega) | exact q_w32w _ | exact rfl) ?_ ?_
      · intro b5
        refine q_R.wk (ks := [6, 4, 3, 2, 0, 1]) (lo' := [(6, _), (4, _), (3, _), (2, _), (0, _), (1, _)]) rfl ?_
        exact hx57 rfl
      · intro b5
        refine r_lload c96_38 rfl rfl ?_
        refine r_aload_n c96_40 rfl rfl ?_
        refine r_iload_n c96_41 rfl rfl ?_
        refine r_iload c96_42 rfl rfl ?_
        refine r_vcG c96_44 (by first | assumption | omega) (by decide) (by first | assumption | rfl) rfl rfl rfl (k95 hG hZ) ?_
        intro t6 w6 g6 p6
        obtain ⟨rfl, ⟨z6, rfl⟩, rfl⟩ := p6
        refine Or.inr (Or.inl ⟨rfl, ?_⟩)
        refine r_i2l c96_47 (by first | exact q_w32_id (by omega) (by omega) | exact q_w32w _ | exact rfl) rfl ?_
        refine r_ladd c96_48 rfl rfl ?_
        refine r_lstore c96_49 (lo' := [(4, _), (6, _), (3, _), (2, _), (0, _), (1, _)]) rfl rfl rfl ?_
        refine r_iinc c96_51 rfl (by first | exact q_w32_id (by omega) (by omega) | exact q_w32w _ | exact rfl) (lo' := [(6, _), (4, _), (3, _), (2, _), (0, _), (1, _)]) rfl rfl rfl ?_
        refine r_goto c96_54 ?_
        refine q_R.wk (ks := [6, 4, 3, 2, 0, 1]) (lo' := [(6, _), (4, _), (3, _), (2, _), (0, _), (1, _)]) rfl ?_
        exact ih (by first | omega | exact ⟨q_rg1 _, q_rg2 _⟩) rfl (by omega)

theorem l96_60 {Γ : q_Γ} (hG : q_GG Γ) {h0 : q_F} (hZ : q_Bz h0) {v1 : Int} {u6 : Int} {u3 : Int} {u2 : Int} {u1 : Int} 
    (hx99 : ∀ {u7 u4 : Int} {h : q_F}, h = h0 → q_R Γ q_K 155 96 (fun t w h' => (t = 1 ∧ (∃ z, w = ((1, z) : q_V)) ∧ h' = h0)) (99, [(7, (0, u7)), (6, (0, u6)), (4, (1, u4)), (3, (0, u3)), (2, (0, u2)), (0, (2, Int.ofNat 125)), (1, (0, u1))], [], q_hp q_K 155 h, [], 0, 0))
    : ∀ (m : Nat) {u7 u4 : Int} {h : q_F}, (-2147483648 ≤ q_w32 u7 ∧ q_w32 u7 < 2147483648) → h = h0 → q_w32 u7 + 2147483648 < (m : Int) → q_R Γ q_K 155 96 (fun t w h' => (t = 1 ∧ (∃ z, w = ((1, z) : q_V)) ∧ h' = h0)) (60, [(7, (0, u7)), (6, (0, u6)), (4, (1, u4)), (3, (0, u3)), (2, (0, u2)), (0, (2, Int.ofNat 125)), (1, (0, u1))], [], q_hp q_K 155 h, [], 0, 0)   := by
  intro m
  induction m with
  | zero =>
    intro u7 u4 h hinv hf hmu
    exact absurd hmu (by omega)
  | succ m ih =>
    intro u7 u4 h hinv hf hmu
    subst hf
    refine r_iload c96_60 rfl rfl ?_
    refine r_iload c96_62 rfl rfl ?_
    refine r_ic_le c96_64 rfl (by first | exact q_w32_id (by omega) (by omega) | exact q_w32w _ | exact rfl) (by first | exact q_w32_id (by omega) (by omega) | exact q_w32w _ | exact rfl) ?_ ?_
    · intro b4
      refine q_R.wk (ks := [7, 6, 4, 3, 2, 0, 1]) (lo' := [(7, _), (6, _), (4, _), (3, _), (2, _), (0, _), (1, _)]) rfl ?_
      exact hx99 rfl
    · intro b4
      refine r_aload_n c96_67 rfl rfl ?_
      refine r_iload_n c96_68 rfl rfl ?_
      refine r_iload c96_69 rfl rfl ?_
      refine r_iconst c96_71 rfl ?_
      refine r_isub c96_72 (by first | exact q_w32_id (by omega) (by omega) | exact q_w32w _ | exact rfl) rfl ?_
      refine r_vcG c96_73 (by first | assumption | omega) (by decide) (by first | assumption | rfl) rfl rfl rfl (k93 hG hZ) ?_
      intro t5 w5 g5 p5
      obtain ⟨rfl, ⟨z5, rfl⟩, rfl⟩ := p5
      refine Or.inr (Or.inl ⟨rfl, ?_⟩)
      refine r_iload_n c96_76 rfl rfl ?_
      refine r_ic_ge c96_77 rfl (by first | exact q_w32_id (by omega) (by omega) | exact q_w32w _ | exact rfl) (by first | exact q_w32_id (by omega) (by omega) | exact q_w32w _ | exact rfl) ?_ ?_
      · intro b6
        refine q_R.wk (ks := [7, 6, 4, 3, 2, 0, 1]) (lo' := [(7, _), (6, _), (4, _), (3, _), (2, _), (0, _), (1, _)]) rfl ?_
        exact hx99 rfl
      · intro b6
        refine r_iinc c96_80 rfl (by first | exact q_w32_id (by omega) (by omega) | exact q_w32w _ | exact rfl) (lo' := [(7, _), (6, _), (4, _), (3, _), (2, _), (0, _), (1, _)]) rfl rfl rfl ?_
        refine r_lload c96_83 rfl rfl ?_
        refine r_aload_n c96_85 rfl rfl ?_
        refine r_iload_n c96_86 rfl rfl ?_
        refine r_iload c96_87 rfl rfl ?_
        refine r_vcG c96_89 (by first | assumption | omega) (by decide) (by first | assumption | rfl) rfl rfl rfl (k95 hG hZ) ?_
        intro t7 w7 g7 p7
        obtain ⟨rfl, ⟨z7, rfl⟩, rfl⟩ := p7
        refine Or.inr (Or.inl ⟨rfl, ?_⟩)
        refine r_i2l c96_92 (by first | exact q_w32_id (by omega) (by omega) | exact q_w32w _ | exact rfl) rfl ?_
        refine r_ladd c96_93 rfl rfl ?_
        refine r_lstore c96_94 (lo' := [(4, _), (7, _), (6, _), (3, _), (2, _), (0, _), (1, _)]) rfl rfl rfl ?_
        refine r_goto c96_96 ?_
        refine q_R.wk (ks := [7, 6, 4, 3, 2, 0, 1]) (lo' := [(7, _), (6, _), (4, _), (3, _), (2, _), (0, _), (1, _)]) rfl ?_
        exact ih (by first | omega | exact ⟨q_rg1 _, q_rg2 _⟩) rfl (by rw [q_w32w, q_w32_pd (by omega)]; omega)

theorem k96 {Γ : q_Γ} (hG : q_GG Γ) {h : q_F} (hZ : q_Bz h) {v1 : Int}  :
    q_M Γ q_K 155 96 [(2, Int.ofNat 125), (0, v1)] h (fun t w h' => (t = 1 ∧ (∃ z, w = ((1, z) : q_V)) ∧ h' = h)) := by
  refine q_M.of (by decide) (Nat.le_of_ble_eq_true rfl) hG ?_
  refine r_aload_n c96_0 rfl rfl ?_
  refine r_getr c96_1 (by first | assumption | omega) (by decide) (by first | assumption | rfl) rfl rfl ?_
  refine r_iload_n c96_4 rfl rfl ?_
  refine r_callG c96_5 (fun _ => rfl) rfl rfl rfl (k175 hG hZ (by first | assumption | omega) (by first | assumption | rfl) (by first | assumption | decide)) ?_
  intro t1 w1 g1 p1
  obtain ⟨rfl, ⟨z1, rfl⟩, rfl⟩ := p1
  refine Or.inr (Or.inl ⟨rfl, ?_⟩)
  refine r_istore_n c96_8 (lo' := [(2, _), (0, _), (1, _)]) rfl rfl rfl ?_
  refine r_aload_n c96_9 rfl rfl ?_
  refine r_iload_n c96_10 rfl rfl ?_
  refine r_vcG c96_11 (by first | assumption | omega) (by decide) (by first | assumption | rfl) rfl rfl rfl (k79 hG hZ) ?_
  intro t2 w2 g2 p2
  obtain ⟨rfl, ⟨z2, rfl⟩, rfl⟩ := p2
  refine Or.inr (Or.inl ⟨rfl, ?_⟩)
  refine r_istore_n c96_14 (lo' := [(3, _), (2, _), (0, _), (1, _)]) rfl rfl rfl ?_
  refine r_lconst c96_15 rfl ?_
  refine r_lstore c96_16 (lo' := [(4, _), (3, _), (2, _), (0, _), (1, _)]) rfl rfl rfl ?_
  refine r_iconst c96_18 rfl ?_
  refine r_istore c96_19 (lo' := [(6, _), (4, _), (3, _), (2, _), (0, _), (1, _)]) rfl rfl rfl ?_
  refine q_R.wk (ks := [6, 4, 3, 2, 0, 1]) (lo' := [(6, _), (4, _), (3, _), (2, _), (0, _), (1, _)]) rfl ?_
  refine l96_21 (v1 := v1) hG hZ  ?_ 4294967298 (by first | omega | exact ⟨q_rg1 _, q_rg2 _⟩) rfl (q_mu (by first | omega | exact ⟨q_rg1 _, q_rg2 _⟩))
  · intro u6_3 u4_3 g3 f3
    subst f3
    refine r_iload_n c96_57 rfl rfl ?_
    refine r_istore c96_58 (lo' := [(7, _), (6, _), (4, _), (3, _), (2, _), (0, _), (1, _)]) rfl rfl rfl ?_
    refine q_R.wk (ks := [7, 6, 4, 3, 2, 0, 1]) (lo' := [(7, _), (6, _), (4, _), (3, _), (2, _), (0, _), (1, _)]) rfl ?_
    refine l96_60 (v1 := v1) hG hZ  ?_ 4294967298 (by first | omega | exact ⟨q_rg1 _, q_rg2 _⟩) rfl (q_mdd (by first | omega | exact ⟨q_rg1 _, q_rg2 _⟩))
    · intro u7_4 u4_4 g4 f4
      subst f4
      refine r_lload c96_99 rfl rfl ?_
      refine r_iload c96_101 rfl rfl ?_
      refine r_iload c96_103 rfl rfl ?_
      refine r_isub c96_105 (by first | exact q_w32_id (by omega) (by omega) | exact q_w32w _ | exact rfl) rfl ?_
      refine r_i2l c96_106 (by first | exact q_w32_id (by omega) (by omega) | exact q_w32w _ | exact rfl) rfl ?_
      refine r_ldc c96_107 rfl rfl ?_
      refine r_iload_n c96_109 rfl rfl ?_
      refine r_callG c96_110 (fun _ => rfl) rfl rfl rfl (k201 hG hZ) ?_
      intro t5 w5 g5 p5
      obtain ⟨rfl, ⟨z5, rfl⟩, rfl⟩ := p5
      refine Or.inr (Or.inl ⟨rfl, ?_⟩)
      refine r_i2l c96_113 (by first | exact q_w32_id (by omega) (by omega) | exact q_w32w _ | exact rfl) rfl ?_
      refine r_lmul c96_114 rfl rfl ?_
      refine r_ladd c96_115 rfl rfl ?_
      exact r_lret c96_116 ⟨rfl, rfl, rfl⟩ ⟨rfl, ⟨_, rfl⟩, rfl⟩
theorem c99_0 : q_cat 99 0 (.lconst 0) 1 0 0 (0) := ⟨rfl, rfl⟩
theorem c99_1 : q_cat 99 1 (.lstore_n 2) 1 2 0 (0) := ⟨rfl, rfl⟩
theorem c99_2 : q_cat 99 2 (.iconst 0) 1 0 0 (0) := ⟨rfl, rfl⟩
theorem c99_3 : q_cat 99 3 (.istore 4) 2 4 0 (0) := ⟨rfl, rfl⟩
theorem c99_5 : q_cat 99 5 (.iload 4) 2 4 0 (0) := ⟨rfl, rfl⟩
theorem c99_7 : q_cat 99 7 (.iload_n 1) 1 1 0 (0) := ⟨rfl, rfl⟩
theorem c99_8 : q_cat 99 8 (.if_icmp .gt 34) 3 42 0 (0) := ⟨rfl, rfl⟩
theorem c99_11 : q_cat 99 11 (.iload 4) 2 4 0 (0) := ⟨rfl, rfl⟩
theorem c99_13 : q_cat 99 13 (.aload_n 0) 1 0 0 (0) := ⟨rfl, rfl⟩
theorem c99_14 : q_cat 99 14 (.getfield 45) 3 4 9 (0) := ⟨rfl, rfl⟩
theorem c99_17 : q_cat 99 17 (.if_icmp .ge 25) 3 42 0 (0) := ⟨rfl, rfl⟩
theorem c99_20 : q_cat 99 20 (.lload_n 2) 1 2 0 (0) := ⟨rfl, rfl⟩
theorem c99_21 : q_cat 99 21 (.aload_n 0) 1 0 0 (0) := ⟨rfl, rfl⟩
theorem c99_22 : q_cat 99 22 (.iload 4) 2 4 0 (0) := ⟨rfl, rfl⟩
theorem c99_24 : q_cat 99 24 (.invokevirtual 173) 3 71 0 (0) := ⟨rfl, rfl⟩
theorem c99_27 : q_cat 99 27 (.aload_n 0) 1 0 0 (0) := ⟨rfl, rfl⟩
theorem c99_28 : q_cat 99 28 (.iload 4) 2 4 0 (0) := ⟨rfl, rfl⟩
theorem c99_30 : q_cat 99 30 (.invokevirtual 177) 3 96 0 (0) := ⟨rfl, rfl⟩
theorem c99_33 : q_cat 99 33 (.ladd) 1 0 0 (0) := ⟨rfl, rfl⟩
theorem c99_34 : q_cat 99 34 (.ladd) 1 0 0 (0) := ⟨rfl, rfl⟩
theorem c99_35 : q_cat 99 35 (.lstore_n 2) 1 2 0 (0) := ⟨rfl, rfl⟩
theorem c99_36 : q_cat 99 36 (.iinc 4 1) 3 4 0 (0) := ⟨rfl, rfl⟩
theorem c99_39 : q_cat 99 39 (.goto (-34)) 3 5 0 (0) := ⟨rfl, rfl⟩
theorem c99_42 : q_cat 99 42 (.lload_n 2) 1 2 0 (0) := ⟨rfl, rfl⟩
theorem c99_43 : q_cat 99 43 (.lreturn) 1 0 0 (0) := ⟨rfl, rfl⟩
theorem l99_5 {Γ : q_Γ} (hG : q_GG Γ) {h0 : q_F} (hZ : q_Bz h0) {v1 : Int} {u1 : Int} 
    (hx42 : ∀ {u4 u2 : Int} {h : q_F}, h = h0 → q_R Γ q_K 155 99 (fun t w h' => (t = 1 ∧ (∃ z, w = ((1, z) : q_V)) ∧ h' = h0)) (42, [(4, (0, u4)), (2, (1, u2)), (0, (2, Int.ofNat 125)), (1, (0, u1))], [], q_hp q_K 155 h, [], 0, 0))
    : ∀ (m : Nat) {u4 u2 : Int} {h : q_F}, (-2147483648 ≤ u4 ∧ u4 < 2147483648) → h = h0 → 2147483648 - u4 < (m : Int) → q_R Γ q_K 155 99 (fun t w h' => (t = 1 ∧ (∃ z, w = ((1, z) : q_V)) ∧ h' = h0)) (5, [(4, (0, u4)), (2, (1, u2)), (0, (2, Int.ofNat 125)), (1, (0, u1))], [], q_hp q_K 155 h, [], 0, 0)   := by
  intro m
  induction m with
  | zero =>
    intro u4 u2 h hinv hf hmu
    exact absurd hmu (by omega)
  | succ m ih =>
    intro u4 u2 h hinv hf hmu
    subst hf
    refine r_iload c99_5 rfl rfl ?_
    refine r_iload_n c99_7 rfl rfl ?_
    refine r_ic_gt c99_8 rfl (by first | exact q_w32_id (by omega) (by omega) | exact q_w32w _ | exact rfl) (by first | exact q_w32_id (by omega) (by omega) | exact q_w32w _ | exact rfl) ?_ ?_
    · intro b1
      refine q_R.wk (ks := [4, 2, 0, 1]) (lo' := [(4, _), (2, _), (0, _), (1, _)]) rfl ?_
      exact hx42 rfl
    · intro b1
      refine r_iload c99_11 rfl rfl ?_
      refine r_aload_n c99_13 rfl rfl ?_
      refine r_geti c99_14 (by first | assumption | omega) (by decide) (by first | assumption | rfl) rfl rfl ?_
      refine r_ic_ge c99_17 rfl (by first | exact q_w32_id (by omega) (by omega) | exact q_w32w _ | exact rfl) (by first | exact q_w32_id (by omega) (by omega) | exact q_w32w _ | exact rfl) ?_ ?_
      · intro b2
        refine q_R.wk (ks := [4, 2, 0, 1]) (lo' := [(4, _), (2, _), (0, _), (1, _)]) rfl ?_
        exact hx42 rfl
      · intro b2
        refine r_lload_n c99_20 rfl rfl ?_
        refine r_aload_n c99_21 rfl rfl ?_
        refine r_iload c99_22 rfl rfl ?_
        refine r_vcG c99_24 (by first | assumption | omega) (by decide) (by first | assumption | rfl) rfl rfl rfl (k71 hG hZ) ?_
        intro t3 w3 g3 p3
        obtain ⟨rfl, ⟨z3, rfl⟩, rfl⟩ := p3
        refine Or.inr (Or.inl ⟨rfl, ?_⟩)
        refine r_aload_n c99_27 rfl rfl ?_
        refine r_iload c99_28 rfl rfl ?_
        refine r_vcG c99_30 (by first | assumption | omega) (by decide) (by first | assumption | rfl) rfl rfl rfl (k96 hG hZ) ?_
        intro t4 w4 g4 p4
        obtain ⟨rfl, ⟨z4, rfl⟩, rfl⟩ := p4
        refine Or.inr (Or.inl ⟨rfl, ?_⟩)
        refine r_ladd c99_33 rfl rfl ?_
        refine r_ladd c99_34 rfl rfl ?_
        refine r_lstore_n c99_35 (lo' := [(2, _), (4, _), (0, _), (1, _)]) rfl rfl rfl ?_
        refine r_iinc c99_36 rfl (by first | exact q_w32_id (by omega) (by omega) | exact q_w32w _ | exact rfl) (lo' := [(4, _), (2, _), (0, _), (1, _)]) rfl rfl rfl ?_
        refine r_goto c99_39 ?_
        refine q_R.wk (ks := [4, 2, 0, 1]) (lo' := [(4, _), (2, _), (0, _), (1, _)]) rfl ?_
        exact ih (by first | omega | exact ⟨q_rg1 _, q_rg2 _⟩) rfl (by omega)

theorem k99 {Γ : q_Γ} (hG : q_GG Γ) {h : q_F} (hZ : q_Bz h) {v1 : Int}  :
    q_M Γ q_K 155 99 [(2, Int.ofNat 125), (0, v1)] h (fun t w h' => (t = 1 ∧ (∃ z, w = ((1, z) : q_V)) ∧ h' = h)) := by
  refine q_M.of (by decide) (Nat.le_of_ble_eq_true rfl) hG ?_
  refine r_lconst c99_0 rfl ?_
  refine r_lstore_n c99_1 (lo' := [(2, _), (0, _), (1, _)]) rfl rfl rfl ?_
  refine r_iconst c99_2 rfl ?_
  refine r_istore c99_3 (lo' := [(4, _), (2, _), (0, _), (1, _)]) rfl rfl rfl ?_
  refine q_R.wk (ks := [4, 2, 0, 1]) (lo' := [(4, _), (2, _), (0, _), (1, _)]) rfl ?_
  refine l99_5 (v1 := v1) hG hZ  ?_ 4294967298 (by first | omega | exact ⟨q_rg1 _, q_rg2 _⟩) rfl (q_mu (by first | omega | exact ⟨q_rg1 _, q_rg2 _⟩))
  · intro u4_1 u2_1 g1 f1
    subst f1
    refine r_lload_n c99_42 rfl rfl ?_
    exact r_lret c99_43 ⟨rfl, rfl, rfl⟩ ⟨rfl, ⟨_, rfl⟩, rfl⟩
theorem c102_0 : q_cat 102 0 (.aload_n 0) 1 0 0 (0) := ⟨rfl, rfl⟩
theorem c102_1 : q_cat 102 1 (.aload_n 0) 1 0 0 (0) := ⟨rfl, rfl⟩
theorem c102_2 : q_cat 102 2 (.getfield 45) 3 4 9 (0) := ⟨rfl, rfl⟩
theorem c102_5 : q_cat 102 5 (.iconst 1) 1 0 0 (0) := ⟨rfl, rfl⟩
theorem c102_6 : q_cat 102 6 (.isub) 1 0 0 (0) := ⟨rfl, rfl⟩
theorem c102_7 : q_cat 102 7 (.invokevirtual 180) 3 99 0 (0) := ⟨rfl, rfl⟩
theorem c102_10 : q_cat 102 10 (.lreturn) 1 0 0 (0) := ⟨rfl, rfl⟩
theorem k102 {Γ : q_Γ} (hG : q_GG Γ) {h : q_F} (hZ : q_Bz h)   :
    q_M Γ q_K 155 102 [(2, Int.ofNat 125)] h (fun t w h' => (t = 1 ∧ (∃ z, w = ((1, z) : q_V)) ∧ h' = h)) := by
  refine q_M.of (by decide) (Nat.le_of_ble_eq_true rfl) hG ?_
  refine r_aload_n c102_0 rfl rfl ?_
  refine r_aload_n c102_1 rfl rfl ?_
  refine r_geti c102_2 (by first | assumption | omega) (by decide) (by first | assumption | rfl) rfl rfl ?_
  refine r_iconst c102_5 rfl ?_
  refine r_isub c102_6 (by first | exact q_w32_id (by omega) (by omega) | exact q_w32w _ | exact rfl) rfl ?_
  refine r_vcG c102_7 (by first | assumption | omega) (by decide) (by first | assumption | rfl) rfl rfl rfl (k99 hG hZ) ?_
  intro t1 w1 g1 p1
  obtain ⟨rfl, ⟨z1, rfl⟩, rfl⟩ := p1
  refine Or.inr (Or.inl ⟨rfl, ?_⟩)
  exact r_lret c102_10 ⟨rfl, rfl, rfl⟩ ⟨rfl, ⟨_, rfl⟩, rfl⟩
theorem c128_0 : q_cat 128 0 (.iconst 0) 1 0 0 (0) := ⟨rfl, rfl⟩
theorem c128_1 : q_cat 128 1 (.istore_n 3) 1 3 0 (0) := ⟨rfl, rfl⟩
theorem c128_2 : q_cat 128 2 (.iload_n 3) 1 3 0 (0) := ⟨rfl, rfl⟩
theorem c128_3 : q_cat 128 3 (.iconst 3) 1 0 0 (0) := ⟨rfl, rfl⟩
theorem c128_4 : q_cat 128 4 (.if_icmp .ge 48) 3 52 0 (0) := ⟨rfl, rfl⟩
theorem c128_7 : q_cat 128 7 (.aload_n 0) 1 0 0 (0) := ⟨rfl, rfl⟩
theorem c128_8 : q_cat 128 8 (.iload_n 3) 1 3 0 (0) := ⟨rfl, rfl⟩
theorem c128_9 : q_cat 128 9 (.invokevirtual 95) 3 125 0 (0) := ⟨rfl, rfl⟩
theorem c128_12 : q_cat 128 12 (.astore 4) 2 4 0 (0) := ⟨rfl, rfl⟩
theorem c128_14 : q_cat 128 14 (.aload 4) 2 4 0 (0) := ⟨rfl, rfl⟩
theorem c128_16 : q_cat 128 16 (.getfield 79) 3 1 14 (3) := ⟨rfl, rfl⟩
theorem c128_19 : q_cat 128 19 (.dup) 1 0 0 (0) := ⟨rfl, rfl⟩
theorem c128_20 : q_cat 128 20 (.getfield 187) 3 0 6 (0) := ⟨rfl, rfl⟩
theorem c128_23 : q_cat 128 23 (.aload 4) 2 4 0 (0) := ⟨rfl, rfl⟩
theorem c128_25 : q_cat 128 25 (.aload_n 1) 1 1 0 (0) := ⟨rfl, rfl⟩
theorem c128_26 : q_cat 128 26 (.iload_n 2) 1 2 0 (0) := ⟨rfl, rfl⟩
theorem c128_27 : q_cat 128 27 (.iload_n 3) 1 3 0 (0) := ⟨rfl, rfl⟩
theorem c128_28 : q_cat 128 28 (.invokevirtual 184) 3 73 0 (0) := ⟨rfl, rfl⟩
theorem c128_31 : q_cat 128 31 (.invokevirtual 190) 3 58 0 (0) := ⟨rfl, rfl⟩
theorem c128_34 : q_cat 128 34 (.ifCond .eq 7) 3 41 0 (0) := ⟨rfl, rfl⟩
theorem c128_37 : q_cat 128 37 (.iconst 1) 1 0 0 (0) := ⟨rfl, rfl⟩
theorem c128_38 : q_cat 128 38 (.goto 4) 3 42 0 (0) := ⟨rfl, rfl⟩
theorem c128_41 : q_cat 128 41 (.iconst 0) 1 0 0 (0) := ⟨rfl, rfl⟩
theorem c128_42 : q_cat 128 42 (.iadd) 1 0 0 (0) := ⟨rfl, rfl⟩
theorem c128_43 : q_cat 128 43 (.putfield 187) 3 0 6 (0) := ⟨rfl, rfl⟩
theorem c128_46 : q_cat 128 46 (.iinc 3 1) 3 3 0 (0) := ⟨rfl, rfl⟩
theorem c128_49 : q_cat 128 49 (.goto (-47)) 3 2 0 (0) := ⟨rfl, rfl⟩
theorem c128_52 : q_cat 128 52 (.return_) 1 0 0 (0) := ⟨rfl, rfl⟩
theorem l128_2 {Γ : q_Γ} (hG : q_GG Γ) {h0 : q_F} (hZ : q_Bz h0) {o0 : Nat} {v2 : Int} {u2 : Int} (ho0 : q_isT o0)
    (hx52 : ∀ {u3 : Int} {h : q_F}, q_Fr (fun k => o0 ≤ k ∧ k ≤ o0 + 8) h0 h → q_R Γ q_K 155 128 (fun t w h' => (t = 0 ∧ q_Fr (fun k => o0 ≤ k ∧ k ≤ o0 + 8) h0 h')) (52, [(3, (0, u3)), (0, (2, Int.ofNat o0)), (1, (2, Int.ofNat 125)), (2, (0, u2))], [], q_hp q_K 155 h, [], 0, 0))
    : ∀ (m : Nat) {u3 : Int} {h : q_F}, (-2147483648 ≤ u3 ∧ u3 < 2147483648) → q_Fr (fun k => o0 ≤ k ∧ k ≤ o0 + 8) h0 h → 2147483648 - u3 < (m : Int) → q_R Γ q_K 155 128 (fun t w h' => (t = 0 ∧ q_Fr (fun k => o0 ≤ k ∧ k ≤ o0 + 8) h0 h')) (2, [(3, (0, u3)), (0, (2, Int.ofNat o0)), (1, (2, Int.ofNat 125)), (2, (0, u2))], [], q_hp q_K 155 h, [], 0, 0)   := by
  obtain ⟨fo00, fo01, fo02, fo03, fo04, fo05, fo06, fo07, fo08, fo09, fo010⟩ := q_fT ho0
  intro m
  induction m with
  | zero =>
    intro u3 h hinv hf hmu
    exact absurd hmu (by omega)
  | succ m ih =>
    intro u3 h hinv hf hmu
    refine r_iload_n c128_2 rfl rfl ?_
    refine r_iconst c128_3 rfl ?_
    refine r_ic_ge c128_4 rfl (by first | exact q_w32_id (by omega) (by omega) | exact q_w32w _ | exact rfl) (show q_w32 (3) = 3 from rfl) ?_ ?_
    · intro b1
      refine q_R.wk (ks := [3, 0, 1, 2]) (lo' := [(3, _), (0, _), (1, _), (2, _)]) rfl ?_
      exact hx52 (by repeat (first | exact q_Fr.rf | refine q_Fr.ud ?_ (by omega) (by first | assumption | rfl) rfl | refine q_Fr.udz ?_ (by omega) (by first | assumption | decide | omega) | refine q_Fr.tr ?_ (by assumption) (by intro k9 hk9; omega)))
    · intro b1
      refine r_aload_n c128_7 rfl rfl ?_
      refine r_iload_n c128_8 rfl rfl ?_
      refine r_vcG c128_9 (by first | assumption | omega) (by decide) (by first | assumption | rfl) rfl rfl rfl (k125 hG (q_Fr.bz (S := fun k => o0 ≤ k ∧ k ≤ o0 + 8) hZ (by repeat (first | exact q_Fr.rf | refine q_Fr.ud ?_ (by omega) (by first | assumption | rfl) rfl | refine q_Fr.udz ?_ (by omega) (by first | assumption | decide | omega) | refine q_Fr.tr ?_ (by assumption) (by intro k9 hk9; omega)))) (by first | assumption | exact q_hC (by assumption) | exact q_h1 (by assumption) | exact q_h3 (by assumption) | exact q_h5 (by assumption) | exact q_hG (by assumption) | exact q_hP | exact q_hB1 | exact q_hB2 | exact q_hT6 | exact q_hT15 | exact q_hT24)) ?_
      intro t2 w2 g2 p2
      obtain ⟨rfl, ⟨r2, rfl, ha2, hr2⟩, rfl⟩ := p2
      obtain ⟨fr20, fr21, fr22, fr23⟩ := q_fA ha2
      refine Or.inr (Or.inl ⟨rfl, ?_⟩)
      refine r_astore c128_12 (lo' := [(4, _), (3, _), (0, _), (1, _), (2, _)]) rfl rfl rfl ?_
      refine r_aload c128_14 rfl rfl ?_
      refine r_getr c128_16 (by first | assumption | omega) (by decide) (by first | assumption | rfl) rfl rfl ?_
      refine r_dup c128_19 rfl rfl ?_
      refine r_geti c128_20 (by first | assumption | omega) (by decide) (by first | assumption | rfl) rfl rfl ?_
      refine r_aload c128_23 rfl rfl ?_
      refine r_aload_n c128_25 rfl rfl ?_
      refine r_iload_n c128_26 rfl rfl ?_
      refine r_iload_n c128_27 rfl rfl ?_
      refine r_vcG c128_28 (by first | assumption | omega) (by decide) (by first | assumption | rfl) rfl rfl rfl (k73 hG (q_Fr.bz (S := fun k => o0 ≤ k ∧ k ≤ o0 + 8) hZ (by repeat (first | exact q_Fr.rf | refine q_Fr.ud ?_ (by omega) (by first | assumption | rfl) rfl | refine q_Fr.udz ?_ (by omega) (by first | assumption | decide | omega) | refine q_Fr.tr ?_ (by assumption) (by intro k9 hk9; omega))))) ?_
      intro t3 w3 g3 p3
      obtain ⟨rfl, ⟨z3, rfl⟩, rfl⟩ := p3
      refine Or.inr (Or.inl ⟨rfl, ?_⟩)
      refine r_vcG c128_31 (by first | assumption | omega) (by decide) (by first | assumption | rfl) rfl rfl rfl (k58 hG (q_Fr.bz (S := fun k => o0 ≤ k ∧ k ≤ o0 + 8) hZ (by repeat (first | exact q_Fr.rf | refine q_Fr.ud ?_ (by omega) (by first | assumption | rfl) rfl | refine q_Fr.udz ?_ (by omega) (by first | assumption | decide | omega) | refine q_Fr.tr ?_ (by assumption) (by intro k9 hk9; omega)))) (by first | assumption | exact q_hC (by assumption) | exact q_h1 (by assumption) | exact q_h3 (by assumption) | exact q_h5 (by assumption) | exact q_hG (by assumption) | exact q_hP | exact q_hB1 | exact q_hB2 | exact q_hT6 | exact q_hT15 | exact q_hT24)) ?_
      intro t4 w4 g4 p4
      obtain ⟨rfl, ⟨z4, rfl, hz4⟩, rfl⟩ := p4
      refine Or.inr (Or.inl ⟨rfl, ?_⟩)
      refine r_if_eq c128_34 rfl (by first | exact q_w32_id (by omega) (by omega) | exact q_w32w _ | exact rfl) ?_ ?_
      · intro b5
        refine r_iconst c128_41 rfl ?_
        refine r_iadd c128_42 (by first | exact q_w32_id (by omega) (by omega) | exact q_w32w _ | exact rfl) rfl ?_
        refine r_puti c128_43 (by first | assumption | omega) (by decide) (by first | assumption | rfl) rfl rfl rfl ?_
        refine r_iinc c128_46 rfl (by first | exact q_w32_id (by omega) (by omega) | exact q_w32w _ | exact rfl) (lo' := [(3, _), (4, _), (0, _), (1, _), (2, _)]) rfl rfl rfl ?_
        refine r_goto c128_49 ?_
        refine q_R.wk (ks := [3, 0, 1, 2]) (lo' := [(3, _), (0, _), (1, _), (2, _)]) rfl ?_
        exact ih (by first | omega | exact ⟨q_rg1 _, q_rg2 _⟩) (by repeat (first | exact q_Fr.rf | refine q_Fr.ud ?_ (by omega) (by first | assumption | rfl) rfl | refine q_Fr.udz ?_ (by omega) (by first | assumption | decide | omega) | refine q_Fr.tr ?_ (by assumption) (by intro k9 hk9; omega))) (by omega)
      · intro b5
        refine r_iconst c128_37 rfl ?_
        refine r_goto c128_38 ?_
        refine r_iadd c128_42 (by first | exact q_w32_id (by omega) (by omega) | exact q_w32w _ | exact rfl) rfl ?_
        refine r_puti c128_43 (by first | assumption | omega) (by decide) (by first | assumption | rfl) rfl rfl rfl ?_
        refine r_iinc c128_46 rfl (by first | exact q_w32_id (by omega) (by omega) | exact q_w32w _ | exact rfl) (lo' := [(3, _), (4, _), (0, _), (1, _), (2, _)]) rfl rfl rfl ?_
        refine r_goto c128_49 ?_
        refine q_R.wk (ks := [3, 0, 1, 2]) (lo' := [(3, _), (0, _), (1, _), (2, _)]) rfl ?_
        exact ih (by first | omega | exact ⟨q_rg1 _, q_rg2 _⟩) (by repeat (first | exact q_Fr.rf | refine q_Fr.ud ?_ (by omega) (by first | assumption | rfl) rfl | refine q_Fr.udz ?_ (by omega) (by first | assumption | decide | omega) | refine q_Fr.tr ?_ (by assumption) (by intro k9 hk9; omega))) (by omega)

theorem k128 {Γ : q_Γ} (hG : q_GG Γ) {h : q_F} (hZ : q_Bz h) {o0 : Nat} {v2 : Int} (ho0 : q_isT o0) :
    q_M Γ q_K 155 128 [(2, Int.ofNat o0), (2, Int.ofNat 125), (0, v2)] h (fun t w h' => (t = 0 ∧ q_Fr (fun k => o0 ≤ k ∧ k ≤ o0 + 8) h h')) := by
  obtain ⟨fo00, fo01, fo02, fo03, fo04, fo05, fo06, fo07, fo08, fo09, fo010⟩ := q_fT ho0
  refine q_M.of (by decide) (Nat.le_of_ble_eq_true rfl) hG ?_
  refine r_iconst c128_0 rfl ?_
  refine r_istore_n c128_1 (lo' := [(3, _), (0, _), (1, _), (2, _)]) rfl rfl rfl ?_
  refine q_R.wk (ks := [3, 0, 1, 2]) (lo' := [(3, _), (0, _), (1, _), (2, _)]) rfl ?_
  refine l128_2 (o0 := o0) (v2 := v2) hG hZ ho0 ?_ 4294967298 (by first | omega | exact ⟨q_rg1 _, q_rg2 _⟩) (by repeat (first | exact q_Fr.rf | refine q_Fr.ud ?_ (by omega) (by first | assumption | rfl) rfl | refine q_Fr.udz ?_ (by omega) (by first | assumption | decide | omega) | refine q_Fr.tr ?_ (by assumption) (by intro k9 hk9; omega))) (q_mu (by first | omega | exact ⟨q_rg1 _, q_rg2 _⟩))
  · intro u3_1 g1 f1
    exact r_vret c128_52 ⟨rfl, rfl, rfl⟩ ⟨rfl, (by repeat (first | exact q_Fr.rf | refine q_Fr.ud ?_ (by omega) (by first | assumption | rfl) rfl | refine q_Fr.udz ?_ (by omega) (by first | assumption | decide | omega) | refine q_Fr.tr ?_ (by assumption) (by intro k9 hk9; omega)))⟩
theorem c126_0 : q_cat 126 0 (.iconst 1) 1 0 0 (0) := ⟨rfl, rfl⟩
theorem c126_1 : q_cat 126 1 (.istore_n 3) 1 3 0 (0) := ⟨rfl, rfl⟩
theorem c126_2 : q_cat 126 2 (.iconst 0) 1 0 0 (0) := ⟨rfl, rfl⟩
theorem c126_3 : q_cat 126 3 (.istore 4) 2 4 0 (0) := ⟨rfl, rfl⟩
theorem c126_5 : q_cat 126 5 (.iload 4) 2 4 0 (0) := ⟨rfl, rfl⟩
theorem c126_7 : q_cat 126 7 (.iconst 3) 1 0 0 (0) := ⟨rfl, rfl⟩
theorem c126_8 : q_cat 126 8 (.if_icmp .ge 123) 3 131 0 (0) := ⟨rfl, rfl⟩
theorem c126_11 : q_cat 126 11 (.iload_n 3) 1 3 0 (0) := ⟨rfl, rfl⟩
theorem c126_12 : q_cat 126 12 (.ifCond .eq 119) 3 131 0 (0) := ⟨rfl, rfl⟩
theorem c126_15 : q_cat 126 15 (.aload_n 0) 1 0 0 (0) := ⟨rfl, rfl⟩
theorem c126_16 : q_cat 126 16 (.iload 4) 2 4 0 (0) := ⟨rfl, rfl⟩
theorem c126_18 : q_cat 126 18 (.invokevirtual 95) 3 125 0 (0) := ⟨rfl, rfl⟩
theorem c126_21 : q_cat 126 21 (.astore 5) 2 5 0 (0) := ⟨rfl, rfl⟩
theorem c126_23 : q_cat 126 23 (.aload 5) 2 5 0 (0) := ⟨rfl, rfl⟩
theorem c126_25 : q_cat 126 25 (.aload_n 1) 1 1 0 (0) := ⟨rfl, rfl⟩
theorem c126_26 : q_cat 126 26 (.iload_n 2) 1 2 0 (0) := ⟨rfl, rfl⟩
theorem c126_27 : q_cat 126 27 (.iload 4) 2 4 0 (0) := ⟨rfl, rfl⟩
theorem c126_29 : q_cat 126 29 (.invokevirtual 184) 3 73 0 (0) := ⟨rfl, rfl⟩
theorem c126_32 : q_cat 126 32 (.invokevirtual 190) 3 58 0 (0) := ⟨rfl, rfl⟩
theorem c126_35 : q_cat 126 35 (.ifCond .eq 11) 3 46 0 (0) := ⟨rfl, rfl⟩
theorem c126_38 : q_cat 126 38 (.aload 5) 2 5 0 (0) := ⟨rfl, rfl⟩
theorem c126_40 : q_cat 126 40 (.getfield 193) 3 1 1 (0) := ⟨rfl, rfl⟩
theorem c126_43 : q_cat 126 43 (.goto 4) 3 47 0 (0) := ⟨rfl, rfl⟩
theorem c126_46 : q_cat 126 46 (.iconst 0) 1 0 0 (0) := ⟨rfl, rfl⟩
theorem c126_47 : q_cat 126 47 (.istore 6) 2 6 0 (0) := ⟨rfl, rfl⟩
theorem c126_49 : q_cat 126 49 (.iconst 0) 1 0 0 (0) := ⟨rfl, rfl⟩
theorem c126_50 : q_cat 126 50 (.istore 7) 2 7 0 (0) := ⟨rfl, rfl⟩
theorem c126_52 : q_cat 126 52 (.iload 7) 2 7 0 (0) := ⟨rfl, rfl⟩
theorem c126_54 : q_cat 126 54 (.iload 6) 2 6 0 (0) := ⟨rfl, rfl⟩
theorem c126_56 : q_cat 126 56 (.if_icmp .ge 69) 3 125 0 (0) := ⟨rfl, rfl⟩
theorem c126_59 : q_cat 126 59 (.iload_n 3) 1 3 0 (0) := ⟨rfl, rfl⟩
theorem c126_60 : q_cat 126 60 (.ifCond .eq 65) 3 125 0 (0) := ⟨rfl, rfl⟩
theorem c126_63 : q_cat 126 63 (.aload_n 0) 1 0 0 (0) := ⟨rfl, rfl⟩
theorem c126_64 : q_cat 126 64 (.dup) 1 0 0 (0) := ⟨rfl, rfl⟩
theorem c126_65 : q_cat 126 65 (.getfield 59) 3 6 8 (2) := ⟨rfl, rfl⟩
theorem c126_68 : q_cat 126 68 (.aload_n 0) 1 0 0 (0) := ⟨rfl, rfl⟩
theorem c126_69 : q_cat 126 69 (.invokevirtual 122) 3 140 0 (0) := ⟨rfl, rfl⟩
theorem c126_72 : q_cat 126 72 (.i2l) 1 0 0 (0) := ⟨rfl, rfl⟩
theorem c126_73 : q_cat 126 73 (.ladd) 1 0 0 (0) := ⟨rfl, rfl⟩
theorem c126_74 : q_cat 126 74 (.putfield 59) 3 6 8 (2) := ⟨rfl, rfl⟩
theorem c126_77 : q_cat 126 77 (.aload 5) 2 5 0 (0) := ⟨rfl, rfl⟩
theorem c126_79 : q_cat 126 79 (.getfield 79) 3 1 14 (3) := ⟨rfl, rfl⟩
theorem c126_82 : q_cat 126 82 (.dup) 1 0 0 (0) := ⟨rfl, rfl⟩
theorem c126_83 : q_cat 126 83 (.getfield 196) 3 0 3 (0) := ⟨rfl, rfl⟩
theorem c126_86 : q_cat 126 86 (.iconst 1) 1 0 0 (0) := ⟨rfl, rfl⟩
theorem c126_87 : q_cat 126 87 (.iadd) 1 0 0 (0) := ⟨rfl, rfl⟩
theorem c126_88 : q_cat 126 88 (.putfield 196) 3 0 3 (0) := ⟨rfl, rfl⟩
theorem c126_91 : q_cat 126 91 (.aload 5) 2 5 0 (0) := ⟨rfl, rfl⟩
theorem c126_93 : q_cat 126 93 (.aload_n 1) 1 1 0 (0) := ⟨rfl, rfl⟩
theorem c126_94 : q_cat 126 94 (.iload_n 2) 1 2 0 (0) := ⟨rfl, rfl⟩
theorem c126_95 : q_cat 126 95 (.iload 4) 2 4 0 (0) := ⟨rfl, rfl⟩
theorem c126_97 : q_cat 126 97 (.invokevirtual 199) 3 101 0 (0) := ⟨rfl, rfl⟩
theorem c126_100 : q_cat 126 100 (.invokevirtual 151) 3 49 0 (0) := ⟨rfl, rfl⟩
theorem c126_103 : q_cat 126 103 (.ifCond .ne 10) 3 113 0 (0) := ⟨rfl, rfl⟩
theorem c126_106 : q_cat 126 106 (.aload_n 0) 1 0 0 (0) := ⟨rfl, rfl⟩
theorem c126_107 : q_cat 126 107 (.getfield 53) 3 6 6 (1) := ⟨rfl, rfl⟩
theorem c126_110 : q_cat 126 110 (.ifCond .ne 7) 3 117 0 (0) := ⟨rfl, rfl⟩
theorem c126_113 : q_cat 126 113 (.iconst 1) 1 0 0 (0) := ⟨rfl, rfl⟩
theorem c126_114 : q_cat 126 114 (.goto 4) 3 118 0 (0) := ⟨rfl, rfl⟩
theorem c126_117 : q_cat 126 117 (.iconst 0) 1 0 0 (0) := ⟨rfl, rfl⟩
theorem c126_118 : q_cat 126 118 (.istore_n 3) 1 3 0 (0) := ⟨rfl, rfl⟩
theorem c126_119 : q_cat 126 119 (.iinc 7 1) 3 7 0 (0) := ⟨rfl, rfl⟩
theorem c126_122 : q_cat 126 122 (.goto (-70)) 3 52 0 (0) := ⟨rfl, rfl⟩
theorem c126_125 : q_cat 126 125 (.iinc 4 1) 3 4 0 (0) := ⟨rfl, rfl⟩
theorem c126_128 : q_cat 126 128 (.goto (-123)) 3 5 0 (0) := ⟨rfl, rfl⟩
theorem c126_131 : q_cat 126 131 (.iload_n 3) 1 3 0 (0) := ⟨rfl, rfl⟩
theorem c126_132 : q_cat 126 132 (.ireturn) 1 0 0 (0) := ⟨rfl, rfl⟩
theorem l126_52 {Γ : q_Γ} (hG : q_GG Γ) {h0 : q_F} (hZ : q_Bz h0) {o0 : Nat} {v2 : Int} {u6 : Int} {u4 : Int} {u2 : Int} (ho0 : q_isT o0) {r3 : Nat} (ha3 : q_isA r3) (hr3 : r3 = o0 + 1 ∨ r3 = o0 + 3 ∨ r3 = o0 + 5)
    (hx125 : ∀ {u7 u3 : Int} {h : q_F}, q_Fr (fun k => o0 ≤ k ∧ k ≤ o0 + 8) h0 h → (u3 = 0 ∨ u3 = 1) → q_R Γ q_K 155 126 (fun t w h' => (t = 1 ∧ (∃ z, w = ((0, z) : q_V) ∧ (z = 0 ∨ z = 1)) ∧ q_Fr (fun k => o0 ≤ k ∧ k ≤ o0 + 8) h0 h')) (125, [(7, (0, u7)), (6, (0, u6)), (5, (2, Int.ofNat r3)), (4, (0, u4)), (3, (0, u3)), (0, (2, Int.ofNat o0)), (1, (2, Int.ofNat 125)), (2, (0, u2))], [], q_hp q_K 155 h, [], 0, 0))
    : ∀ (m : Nat) {u7 u3 : Int} {h : q_F}, (-2147483648 ≤ u7 ∧ u7 < 2147483648) → q_Fr (fun k => o0 ≤ k ∧ k ≤ o0 + 8) h0 h → 2147483648 - u7 < (m : Int) → (u3 = 0 ∨ u3 = 1) → q_R Γ q_K 155 126 (fun t w h' => (t = 1 ∧ (∃ z, w = ((0, z) : q_V) ∧ (z = 0 ∨ z = 1)) ∧ q_Fr (fun k => o0 ≤ k ∧ k ≤ o0 + 8) h0 h')) (52, [(7, (0, u7)), (6, (0, u6)), (5, (2, Int.ofNat r3)), (4, (0, u4)), (3, (0, u3)), (0, (2, Int.ofNat o0)), (1, (2, Int.ofNat 125)), (2, (0, u2))], [], q_hp q_K 155 h, [], 0, 0)   := by
  obtain ⟨fo00, fo01, fo02, fo03, fo04, fo05, fo06, fo07, fo08, fo09, fo010⟩ := q_fT ho0
  obtain ⟨fr30, fr31, fr32, fr33⟩ := q_fA ha3
  intro m
  induction m with
  | zero =>
    intro u7 u3 h hinv hf hmu bz3
    exact absurd hmu (by omega)
  | succ m ih =>
    intro u7 u3 h hinv hf hmu bz3
    refine r_iload c126_52 rfl rfl ?_
    refine r_iload c126_54 rfl rfl ?_
    refine r_ic_ge c126_56 rfl (by first | exact q_w32_id (by omega) (by omega) | exact q_w32w _ | exact rfl) (by first | exact q_w32_id (by omega) (by omega) | exact q_w32w _ | exact rfl) ?_ ?_
    · intro b7
      refine q_R.wk (ks := [7, 6, 5, 4, 3, 0, 1, 2]) (lo' := [(7, _), (6, _), (5, _), (4, _), (3, _), (0, _), (1, _), (2, _)]) rfl ?_
      exact hx125 (by repeat (first | exact q_Fr.rf | refine q_Fr.ud ?_ (by omega) (by first | assumption | rfl) rfl | refine q_Fr.udz ?_ (by omega) (by first | assumption | decide | omega) | refine q_Fr.tr ?_ (by assumption) (by intro k9 hk9; omega))) (by first | assumption | decide | omega)
    · intro b7
      refine r_iload_n c126_59 rfl rfl ?_
      refine r_if_eq c126_60 rfl (by first | exact q_w32_id (by omega) (by omega) | exact q_w32w _ | exact rfl) ?_ ?_
      · intro b8
        refine q_R.wk (ks := [7, 6, 5, 4, 3, 0, 1, 2]) (lo' := [(7, _), (6, _), (5, _), (4, _), (3, _), (0, _), (1, _), (2, _)]) rfl ?_
        exact hx125 (by repeat (first | exact q_Fr.rf | refine q_Fr.ud ?_ (by omega) (by first | assumption | rfl) rfl | refine q_Fr.udz ?_ (by omega) (by first | assumption | decide | omega) | refine q_Fr.tr ?_ (by assumption) (by intro k9 hk9; omega))) (by first | assumption | decide | omega)
      · intro b8
        refine r_aload_n c126_63 rfl rfl ?_
        refine r_dup c126_64 rfl rfl ?_
        refine r_getl c126_65 (by first | assumption | omega) (by decide) (by first | assumption | rfl) rfl rfl ?_
        refine r_aload_n c126_68 rfl rfl ?_
        refine r_vcG c126_69 (by first | assumption | omega) (by decide) (by first | assumption | rfl) rfl rfl rfl (k140 hG (q_Fr.bz (S := fun k => o0 ≤ k ∧ k ≤ o0 + 8) hZ (by repeat (first | exact q_Fr.rf | refine q_Fr.ud ?_ (by omega) (by first | assumption | rfl) rfl | refine q_Fr.udz ?_ (by omega) (by first | assumption | decide | omega) | refine q_Fr.tr ?_ (by assumption) (by intro k9 hk9; omega)))) (by first | assumption | exact q_hC (by assumption) | exact q_h1 (by assumption) | exact q_h3 (by assumption) | exact q_h5 (by assumption) | exact q_hG (by assumption) | exact q_hP | exact q_hB1 | exact q_hB2 | exact q_hT6 | exact q_hT15 | exact q_hT24)) ?_
        intro t9 w9 g9 p9
        obtain ⟨rfl, ⟨z9, rfl⟩, rfl⟩ := p9
        refine Or.inr (Or.inl ⟨rfl, ?_⟩)
        refine r_i2l c126_72 (by first | exact q_w32_id (by omega) (by omega) | exact q_w32w _ | exact rfl) rfl ?_
        refine r_ladd c126_73 rfl rfl ?_
        refine r_putl c126_74 (by first | assumption | omega) (by decide) (by first | assumption | rfl) rfl rfl rfl ?_
        refine r_aload c126_77 rfl rfl ?_
        refine r_getr c126_79 (by first | assumption | omega) (by decide) (by first | assumption | rfl) rfl rfl ?_
        refine r_dup c126_82 rfl rfl ?_
        refine r_geti c126_83 (by first | assumption | omega) (by decide) (by first | assumption | rfl) rfl rfl ?_
        refine r_iconst c126_86 rfl ?_
        refine r_iadd c126_87 (by first | exact q_w32_id (by omega) (by omega) | exact q_w32w _ | exact rfl) rfl ?_
        refine r_puti c126_88 (by first | assumption | omega) (by decide) (by first | assumption | rfl) rfl rfl rfl ?_
        refine r_aload c126_91 rfl rfl ?_
        refine r_aload_n c126_93 rfl rfl ?_
        refine r_iload_n c126_94 rfl rfl ?_
        refine r_iload c126_95 rfl rfl ?_
        refine r_vcG c126_97 (by first | assumption | omega) (by decide) (by first | assumption | rfl) rfl rfl rfl (k101 hG (q_Fr.bz (S := fun k => o0 ≤ k ∧ k ≤ o0 + 8) hZ (by repeat (first | exact q_Fr.rf | refine q_Fr.ud ?_ (by omega) (by first | assumption | rfl) rfl | refine q_Fr.udz ?_ (by omega) (by first | assumption | decide | omega) | refine q_Fr.tr ?_ (by assumption) (by intro k9 hk9; omega))))) ?_
        intro t10 w10 g10 p10
        obtain ⟨rfl, ⟨z10, rfl⟩, rfl⟩ := p10
        refine Or.inr (Or.inl ⟨rfl, ?_⟩)
        refine r_vcG c126_100 (by first | assumption | omega) (by decide) (by first | assumption | rfl) rfl rfl rfl (k49 hG (q_Fr.bz (S := fun k => o0 ≤ k ∧ k ≤ o0 + 8) hZ (by repeat (first | exact q_Fr.rf | refine q_Fr.ud ?_ (by omega) (by first | assumption | rfl) rfl | refine q_Fr.udz ?_ (by omega) (by first | assumption | decide | omega) | refine q_Fr.tr ?_ (by assumption) (by intro k9 hk9; omega)))) (by first | assumption | exact q_hC (by assumption) | exact q_h1 (by assumption) | exact q_h3 (by assumption) | exact q_h5 (by assumption) | exact q_hG (by assumption) | exact q_hP | exact q_hB1 | exact q_hB2 | exact q_hT6 | exact q_hT15 | exact q_hT24)) ?_
        intro t11 w11 g11 p11
        obtain ⟨rfl, ⟨z11, rfl, hz11⟩, e11⟩ := p11
        refine Or.inr (Or.inl ⟨rfl, ?_⟩)
        refine r_if_ne c126_103 rfl (by first | exact q_w32_id (by omega) (by omega) | exact q_w32w _ | exact rfl) ?_ ?_
        · intro b12
          refine r_iconst c126_113 rfl ?_
          refine r_goto c126_114 ?_
          refine r_istore_n c126_118 (lo' := [(3, _), (7, _), (6, _), (5, _), (4, _), (0, _), (1, _), (2, _)]) rfl rfl rfl ?_
          refine r_iinc c126_119 rfl (by first | exact q_w32_id (by omega) (by omega) | exact q_w32w _ | exact rfl) (lo' := [(7, _), (3, _), (6, _), (5, _), (4, _), (0, _), (1, _), (2, _)]) rfl rfl rfl ?_
          refine r_goto c126_122 ?_
          refine q_R.wk (ks := [7, 6, 5, 4, 3, 0, 1, 2]) (lo' := [(7, _), (6, _), (5, _), (4, _), (3, _), (0, _), (1, _), (2, _)]) rfl ?_
          exact ih (by first | omega | exact ⟨q_rg1 _, q_rg2 _⟩) (by repeat (first | exact q_Fr.rf | refine q_Fr.ud ?_ (by omega) (by first | assumption | rfl) rfl | refine q_Fr.udz ?_ (by omega) (by first | assumption | decide | omega) | refine q_Fr.tr ?_ (by assumption) (by intro k9 hk9; omega))) (by omega) (by first | assumption | decide | omega)
        · intro b12
          refine r_aload_n c126_106 rfl rfl ?_
          refine r_getz (q_Fr.bz (S := fun k => o0 ≤ k ∧ k ≤ o0 + 8) hZ (by repeat (first | exact q_Fr.rf | refine q_Fr.ud ?_ (by omega) (by first | assumption | rfl) rfl | refine q_Fr.udz ?_ (by omega) (by first | assumption | decide | omega) | refine q_Fr.tr ?_ (by assumption) (by intro k9 hk9; omega)))) c126_107 (by first | assumption | omega) (by decide) (by first | assumption | rfl) rfl rfl rfl ?_
          intro z13
          refine r_if_ne c126_110 rfl (by first | exact q_w32_id (by omega) (by omega) | exact q_w32w _ | exact rfl) ?_ ?_
          · intro b14
            refine r_iconst c126_117 rfl ?_
            refine r_istore_n c126_118 (lo' := [(3, _), (7, _), (6, _), (5, _), (4, _), (0, _), (1, _), (2, _)]) rfl rfl rfl ?_
            refine r_iinc c126_119 rfl (by first | exact q_w32_id (by omega) (by omega) | exact q_w32w _ | exact rfl) (lo' := [(7, _), (3, _), (6, _), (5, _), (4, _), (0, _), (1, _), (2, _)]) rfl rfl rfl ?_
            refine r_goto c126_122 ?_
            refine q_R.wk (ks := [7, 6, 5, 4, 3, 0, 1, 2]) (lo' := [(7, _), (6, _), (5, _), (4, _), (3, _), (0, _), (1, _), (2, _)]) rfl ?_
            exact ih (by first | omega | exact ⟨q_rg1 _, q_rg2 _⟩) (by repeat (first | exact q_Fr.rf | refine q_Fr.ud ?_ (by omega) (by first | assumption | rfl) rfl | refine q_Fr.udz ?_ (by omega) (by first | assumption | decide | omega) | refine q_Fr.tr ?_ (by assumption) (by intro k9 hk9; omega))) (by omega) (by first | assumption | decide | omega)
          · intro b14
            refine r_iconst c126_113 rfl ?_
            refine r_goto c126_114 ?_
            refine r_istore_n c126_118 (lo' := [(3, _), (7, _), (6, _), (5, _), (4, _), (0, _), (1, _), (2, _)]) rfl rfl rfl ?_
            refine r_iinc c126_119 rfl (by first | exact q_w32_id (by omega) (by omega) | exact q_w32w _ | exact rfl) (lo' := [(7, _), (3, _), (6, _), (5, _), (4, _), (0, _), (1, _), (2, _)]) rfl rfl rfl ?_
            refine r_goto c126_122 ?_
            refine q_R.wk (ks := [7, 6, 5, 4, 3, 0, 1, 2]) (lo' := [(7, _), (6, _), (5, _), (4, _), (3, _), (0, _), (1, _), (2, _)]) rfl ?_
            exact ih (by first | omega | exact ⟨q_rg1 _, q_rg2 _⟩) (by repeat (first | exact q_Fr.rf | refine q_Fr.ud ?_ (by omega) (by first | assumption | rfl) rfl | refine q_Fr.udz ?_ (by omega) (by first | assumption | decide | omega) | refine q_Fr.tr ?_ (by assumption) (by intro k9 hk9; omega))) (by omega) (by first | assumption | decide | omega)

theorem l126_5 {Γ : q_Γ} (hG : q_GG Γ) {h0 : q_F} (hZ : q_Bz h0) {o0 : Nat} {v2 : Int} {u2 : Int} (ho0 : q_isT o0)
    (hx131 : ∀ {u4 u3 : Int} {h : q_F}, q_Fr (fun k => o0 ≤ k ∧ k ≤ o0 + 8) h0 h → (u3 = 0 ∨ u3 = 1) → q_R Γ q_K 155 126 (fun t w h' => (t = 1 ∧ (∃ z, w = ((0, z) : q_V) ∧ (z = 0 ∨ z = 1)) ∧ q_Fr (fun k => o0 ≤ k ∧ k ≤ o0 + 8) h0 h')) (131, [(4, (0, u4)), (3, (0, u3)), (0, (2, Int.ofNat o0)), (1, (2, Int.ofNat 125)), (2, (0, u2))], [], q_hp q_K 155 h, [], 0, 0))
    : ∀ (m : Nat) {u4 u3 : Int} {h : q_F}, (-2147483648 ≤ u4 ∧ u4 < 2147483648) → q_Fr (fun k => o0 ≤ k ∧ k ≤ o0 + 8) h0 h → 2147483648 - u4 < (m : Int) → (u3 = 0 ∨ u3 = 1) → q_R Γ q_K 155 126 (fun t w h' => (t = 1 ∧ (∃ z, w = ((0, z) : q_V) ∧ (z = 0 ∨ z = 1)) ∧ q_Fr (fun k => o0 ≤ k ∧ k ≤ o0 + 8) h0 h')) (5, [(4, (0, u4)), (3, (0, u3)), (0, (2, Int.ofNat o0)), (1, (2, Int.ofNat 125)), (2, (0, u2))], [], q_hp q_K 155 h, [], 0, 0)   := by
  obtain ⟨fo00, fo01, fo02, fo03, fo04, fo05, fo06, fo07, fo08, fo09, fo010⟩ := q_fT ho0
  intro m
  induction m with
  | zero =>
    intro u4 u3 h hinv hf hmu bz3
    exact absurd hmu (by omega)
  | succ m ih =>
    intro u4 u3 h hinv hf hmu bz3
    refine r_iload c126_5 rfl rfl ?_
    refine r_iconst c126_7 rfl ?_
    refine r_ic_ge c126_8 rfl (by first | exact q_w32_id (by omega) (by omega) | exact q_w32w _ | exact rfl) (show q_w32 (3) = 3 from rfl) ?_ ?_
    · intro b1
      refine q_R.wk (ks := [4, 3, 0, 1, 2]) (lo' := [(4, _), (3, _), (0, _), (1, _), (2, _)]) rfl ?_
      exact hx131 (by repeat (first | exact q_Fr.rf | refine q_Fr.ud ?_ (by omega) (by first | assumption | rfl) rfl | refine q_Fr.udz ?_ (by omega) (by first | assumption | decide | omega) | refine q_Fr.tr ?_ (by assumption) (by intro k9 hk9; omega))) (by first | assumption | decide | omega)
    · intro b1
      refine r_iload_n c126_11 rfl rfl ?_
      refine r_if_eq c126_12 rfl (by first | exact q_w32_id (by omega) (by omega) | exact q_w32w _ | exact rfl) ?_ ?_
      · intro b2
        refine q_R.wk (ks := [4, 3, 0, 1, 2]) (lo' := [(4, _), (3, _), (0, _), (1, _), (2, _)]) rfl ?_
        exact hx131 (by repeat (first | exact q_Fr.rf | refine q_Fr.ud ?_ (by omega) (by first | assumption | rfl) rfl | refine q_Fr.udz ?_ (by omega) (by first | assumption | decide | omega) | refine q_Fr.tr ?_ (by assumption) (by intro k9 hk9; omega))) (by first | assumption | decide | omega)
      · intro b2
        refine r_aload_n c126_15 rfl rfl ?_
        refine r_iload c126_16 rfl rfl ?_
        refine r_vcG c126_18 (by first | assumption | omega) (by decide) (by first | assumption | rfl) rfl rfl rfl (k125 hG (q_Fr.bz (S := fun k => o0 ≤ k ∧ k ≤ o0 + 8) hZ (by repeat (first | exact q_Fr.rf | refine q_Fr.ud ?_ (by omega) (by first | assumption | rfl) rfl | refine q_Fr.udz ?_ (by omega) (by first | assumption | decide | omega) | refine q_Fr.tr ?_ (by assumption) (by intro k9 hk9; omega)))) (by first | assumption | exact q_hC (by assumption) | exact q_h1 (by assumption) | exact q_h3 (by assumption) | exact q_h5 (by assumption) | exact q_hG (by assumption) | exact q_hP | exact q_hB1 | exact q_hB2 | exact q_hT6 | exact q_hT15 | exact q_hT24)) ?_
        intro t3 w3 g3 p3
        obtain ⟨rfl, ⟨r3, rfl, ha3, hr3⟩, rfl⟩ := p3
        obtain ⟨fr30, fr31, fr32, fr33⟩ := q_fA ha3
        refine Or.inr (Or.inl ⟨rfl, ?_⟩)
        refine r_astore c126_21 (lo' := [(5, _), (4, _), (3, _), (0, _), (1, _), (2, _)]) rfl rfl rfl ?_
        refine r_aload c126_23 rfl rfl ?_
        refine r_aload_n c126_25 rfl rfl ?_
        refine r_iload_n c126_26 rfl rfl ?_
        refine r_iload c126_27 rfl rfl ?_
        refine r_vcG c126_29 (by first | assumption | omega) (by decide) (by first | assumption | rfl) rfl rfl rfl (k73 hG (q_Fr.bz (S := fun k => o0 ≤ k ∧ k ≤ o0 + 8) hZ (by repeat (first | exact q_Fr.rf | refine q_Fr.ud ?_ (by omega) (by first | assumption | rfl) rfl | refine q_Fr.udz ?_ (by omega) (by first | assumption | decide | omega) | refine q_Fr.tr ?_ (by assumption) (by intro k9 hk9; omega))))) ?_
        intro t4 w4 g4 p4
        obtain ⟨rfl, ⟨z4, rfl⟩, rfl⟩ := p4
        refine Or.inr (Or.inl ⟨rfl, ?_⟩)
        refine r_vcG c126_32 (by first | assumption | omega) (by decide) (by first | assumption | rfl) rfl rfl rfl (k58 hG (q_Fr.bz (S := fun k => o0 ≤ k ∧ k ≤ o0 + 8) hZ (by repeat (first | exact q_Fr.rf | refine q_Fr.ud ?_ (by omega) (by first | assumption | rfl) rfl | refine q_Fr.udz ?_ (by omega) (by first | assumption | decide | omega) | refine q_Fr.tr ?_ (by assumption) (by intro k9 hk9; omega)))) (by first | assumption | exact q_hC (by assumption) | exact q_h1 (by assumption) | exact q_h3 (by assumption) | exact q_h5 (by assumption) | exact q_hG (by assumption) | exact q_hP | exact q_hB1 | exact q_hB2 | exact q_hT6 | exact q_hT15 | exact q_hT24)) ?_
        intro t5 w5 g5 p5
        obtain ⟨rfl, ⟨z5, rfl, hz5⟩, rfl⟩ := p5
        refine Or.inr (Or.inl ⟨rfl, ?_⟩)
        refine r_if_eq c126_35 rfl (by first | exact q_w32_id (by omega) (by omega) | exact q_w32w _ | exact rfl) ?_ ?_
        · intro b6
          refine r_iconst c126_46 rfl ?_
          refine r_istore c126_47 (lo' := [(6, _), (5, _), (4, _), (3, _), (0, _), (1, _), (2, _)]) rfl rfl rfl ?_
          refine r_iconst c126_49 rfl ?_
          refine r_istore c126_50 (lo' := [(7, _), (6, _), (5, _), (4, _), (3, _), (0, _), (1, _), (2, _)]) rfl rfl rfl ?_
          refine q_R.wk (ks := [7, 6, 5, 4, 3, 0, 1, 2]) (lo' := [(7, _), (6, _), (5, _), (4, _), (3, _), (0, _), (1, _), (2, _)]) rfl ?_
          refine l126_52 (o0 := o0) (v2 := v2) (r3 := r3) hG hZ ho0 ha3 hr3 ?_ 4294967298 (by first | omega | exact ⟨q_rg1 _, q_rg2 _⟩) (by repeat (first | exact q_Fr.rf | refine q_Fr.ud ?_ (by omega) (by first | assumption | rfl) rfl | refine q_Fr.udz ?_ (by omega) (by first | assumption | decide | omega) | refine q_Fr.tr ?_ (by assumption) (by intro k9 hk9; omega))) (q_mu (by first | omega | exact ⟨q_rg1 _, q_rg2 _⟩)) (by first | assumption | decide | omega)
          · intro u7_7 u3_7 g7 f7 z3_7
            refine r_iinc c126_125 rfl (by first | exact q_w32_id (by omega) (by omega) | exact q_w32w _ | exact rfl) (lo' := [(4, _), (7, _), (6, _), (5, _), (3, _), (0, _), (1, _), (2, _)]) rfl rfl rfl ?_
            refine r_goto c126_128 ?_
            refine q_R.wk (ks := [4, 3, 0, 1, 2]) (lo' := [(4, _), (3, _), (0, _), (1, _), (2, _)]) rfl ?_
            exact ih (by first | omega | exact ⟨q_rg1 _, q_rg2 _⟩) (by repeat (first | exact q_Fr.rf | refine q_Fr.ud ?_ (by omega) (by first | assumption | rfl) rfl | refine q_Fr.udz ?_ (by omega) (by first | assumption | decide | omega) | refine q_Fr.tr ?_ (by assumption) (by intro k9 hk9; omega))) (by omega) (by first | assumption | decide | omega)
        · intro b6
          refine r_aload c126_38 rfl rfl ?_
          refine r_geti c126_40 (by first | assumption | omega) (by decide) (by first | assumption | rfl) rfl rfl ?_
          refine r_goto c126_43 ?_
          refine r_istore c126_47 (lo' := [(6, _), (5, _), (4, _), (3, _), (0, _), (1, _), (2, _)]) rfl rfl rfl ?_
          refine r_iconst c126_49 rfl ?_
          refine r_istore c126_50 (lo' := [(7, _), (6, _), (5, _), (4, _), (3, _), (0, _), (1, _), (2, _)]) rfl rfl rfl ?_
          refine q_R.wk (ks := [7, 6, 5, 4, 3, 0, 1, 2]) (lo' := [(7, _), (6, _), (5, _), (4, _), (3, _), (0, _), (1, _), (2, _)]) rfl ?_
          refine l126_52 (o0 := o0) (v2 := v2) (r3 := r3) hG hZ ho0 ha3 hr3 ?_ 4294967298 (by first | omega | exact ⟨q_rg1 _, q_rg2 _⟩) (by repeat (first | exact q_Fr.rf | refine q_Fr.ud ?_ (by omega) (by first | assumption | rfl) rfl | refine q_Fr.udz ?_ (by omega) (by first | assumption | decide | omega) | refine q_Fr.tr ?_ (by assumption) (by intro k9 hk9; omega))) (q_mu (by first | omega | exact ⟨q_rg1 _, q_rg2 _⟩)) (by first | assumption | decide | omega)
          · intro u7_8 u3_8 g8 f8 z3_8
            refine r_iinc c126_125 rfl (by first | exact q_w32_id (by omega) (by omega) | exact q_w32w _ | exact rfl) (lo' := [(4, _), (7, _), (6, _), (5, _), (3, _), (0, _), (1, _), (2, _)]) rfl rfl rfl ?_
            refine r_goto c126_128 ?_
            refine q_R.wk (ks := [4, 3, 0, 1, 2]) (lo' := [(4, _), (3, _), (0, _), (1, _), (2, _)]) rfl ?_
            exact ih (by first | omega | exact ⟨q_rg1 _, q_rg2 _⟩) (by repeat (first | exact q_Fr.rf | refine q_Fr.ud ?_ (by omega) (by first | assumption | rfl) rfl | refine q_Fr.udz ?_ (by omega) (by first | assumption | decide | omega) | refine q_Fr.tr ?_ (by assumption) (by intro k9 hk9; omega))) (by omega) (by first | assumption | decide | omega)

theorem k126 {Γ : q_Γ} (hG : q_GG Γ) {h : q_F} (hZ : q_Bz h) {o0 : Nat} {v2 : Int} (ho0 : q_isT o0) :
    q_M Γ q_K 155 126 [(2, Int.ofNat o0), (2, Int.ofNat 125), (0, v2)] h (fun t w h' => (t = 1 ∧ (∃ z, w = ((0, z) : q_V) ∧ (z = 0 ∨ z = 1)) ∧ q_Fr (fun k => o0 ≤ k ∧ k ≤ o0 + 8) h h')) := by
  obtain ⟨fo00, fo01, fo02, fo03, fo04, fo05, fo06, fo07, fo08, fo09, fo010⟩ := q_fT ho0
  refine q_M.of (by decide) (Nat.le_of_ble_eq_true rfl) hG ?_
  refine r_iconst c126_0 rfl ?_
  refine r_istore_n c126_1 (lo' := [(3, _), (0, _), (1, _), (2, _)]) rfl rfl rfl ?_
  refine r_iconst c126_2 rfl ?_
  refine r_istore c126_3 (lo' := [(4, _), (3, _), (0, _), (1, _), (2, _)]) rfl rfl rfl ?_
  refine q_R.wk (ks := [4, 3, 0, 1, 2]) (lo' := [(4, _), (3, _), (0, _), (1, _), (2, _)]) rfl ?_
  refine l126_5 (o0 := o0) (v2 := v2) hG hZ ho0 ?_ 4294967298 (by first | omega | exact ⟨q_rg1 _, q_rg2 _⟩) (by repeat (first | exact q_Fr.rf | refine q_Fr.ud ?_ (by omega) (by first | assumption | rfl) rfl | refine q_Fr.udz ?_ (by omega) (by first | assumption | decide | omega) | refine q_Fr.tr ?_ (by assumption) (by intro k9 hk9; omega))) (q_mu (by first | omega | exact ⟨q_rg1 _, q_rg2 _⟩)) (by first | assumption | decide | omega)
  · intro u4_1 u3_1 g1 f1 z3_1
    refine r_iload_n c126_131 rfl rfl ?_
    exact r_zret c126_132 ⟨rfl, rfl, rfl⟩ (by first | assumption | omega) ⟨rfl, ⟨_, rfl, (by first | assumption | omega)⟩, (by repeat (first | exact q_Fr.rf | refine q_Fr.ud ?_ (by omega) (by first | assumption | rfl) rfl | refine q_Fr.udz ?_ (by omega) (by first | assumption | decide | omega) | refine q_Fr.tr ?_ (by assumption) (by intro k9 hk9; omega)))⟩
theorem c141_0 : q_cat 141 0 (.iconst 1) 1 0 0 (0) := ⟨rfl, rfl⟩
theorem c141_1 : q_cat 141 1 (.istore 4) 2 4 0 (0) := ⟨rfl, rfl⟩
theorem c141_3 : q_cat 141 3 (.iconst 0) 1 0 0 (0) := ⟨rfl, rfl⟩
theorem c141_4 : q_cat 141 4 (.istore 5) 2 5 0 (0) := ⟨rfl, rfl⟩
theorem c141_6 : q_cat 141 6 (.iload 5) 2 5 0 (0) := ⟨rfl, rfl⟩
theorem c141_8 : q_cat 141 8 (.iconst 3) 1 0 0 (0) := ⟨rfl, rfl⟩
theorem c141_9 : q_cat 141 9 (.if_icmp .ge 68) 3 77 0 (0) := ⟨rfl, rfl⟩
theorem c141_12 : q_cat 141 12 (.iload 4) 2 4 0 (0) := ⟨rfl, rfl⟩
theorem c141_14 : q_cat 141 14 (.ifCond .eq 63) 3 77 0 (0) := ⟨rfl, rfl⟩
theorem c141_17 : q_cat 141 17 (.aload_n 1) 1 1 0 (0) := ⟨rfl, rfl⟩
theorem c141_18 : q_cat 141 18 (.iload_n 2) 1 2 0 (0) := ⟨rfl, rfl⟩
theorem c141_19 : q_cat 141 19 (.iload 5) 2 5 0 (0) := ⟨rfl, rfl⟩
theorem c141_21 : q_cat 141 21 (.iload_n 3) 1 3 0 (0) := ⟨rfl, rfl⟩
theorem c141_22 : q_cat 141 22 (.iconst 1) 1 0 0 (0) := ⟨rfl, rfl⟩
theorem c141_23 : q_cat 141 23 (.iadd) 1 0 0 (0) := ⟨rfl, rfl⟩
theorem c141_24 : q_cat 141 24 (.invokevirtual 202) 3 83 0 (0) := ⟨rfl, rfl⟩
theorem c141_27 : q_cat 141 27 (.aload_n 1) 1 1 0 (0) := ⟨rfl, rfl⟩
theorem c141_28 : q_cat 141 28 (.iload_n 2) 1 2 0 (0) := ⟨rfl, rfl⟩
theorem c141_29 : q_cat 141 29 (.iload 5) 2 5 0 (0) := ⟨rfl, rfl⟩
theorem c141_31 : q_cat 141 31 (.iload_n 3) 1 3 0 (0) := ⟨rfl, rfl⟩
theorem c141_32 : q_cat 141 32 (.invokevirtual 202) 3 83 0 (0) := ⟨rfl, rfl⟩
theorem c141_35 : q_cat 141 35 (.if_icmp .le 36) 3 71 0 (0) := ⟨rfl, rfl⟩
theorem c141_38 : q_cat 141 38 (.aload_n 0) 1 0 0 (0) := ⟨rfl, rfl⟩
theorem c141_39 : q_cat 141 39 (.iload 5) 2 5 0 (0) := ⟨rfl, rfl⟩
theorem c141_41 : q_cat 141 41 (.invokevirtual 95) 3 125 0 (0) := ⟨rfl, rfl⟩
theorem c141_44 : q_cat 141 44 (.aload_n 1) 1 1 0 (0) := ⟨rfl, rfl⟩
theorem c141_45 : q_cat 141 45 (.iload_n 2) 1 2 0 (0) := ⟨rfl, rfl⟩
theorem c141_46 : q_cat 141 46 (.iload 5) 2 5 0 (0) := ⟨rfl, rfl⟩
theorem c141_48 : q_cat 141 48 (.invokevirtual 199) 3 101 0 (0) := ⟨rfl, rfl⟩
theorem c141_51 : q_cat 141 51 (.invokevirtual 151) 3 49 0 (0) := ⟨rfl, rfl⟩
theorem c141_54 : q_cat 141 54 (.ifCond .ne 10) 3 64 0 (0) := ⟨rfl, rfl⟩
theorem c141_57 : q_cat 141 57 (.aload_n 0) 1 0 0 (0) := ⟨rfl, rfl⟩
theorem c141_58 : q_cat 141 58 (.getfield 53) 3 6 6 (1) := ⟨rfl, rfl⟩
theorem c141_61 : q_cat 141 61 (.ifCond .ne 7) 3 68 0 (0) := ⟨rfl, rfl⟩
theorem c141_64 : q_cat 141 64 (.iconst 1) 1 0 0 (0) := ⟨rfl, rfl⟩
theorem c141_65 : q_cat 141 65 (.goto 4) 3 69 0 (0) := ⟨rfl, rfl⟩
theorem c141_68 : q_cat 141 68 (.iconst 0) 1 0 0 (0) := ⟨rfl, rfl⟩
theorem c141_69 : q_cat 141 69 (.istore 4) 2 4 0 (0) := ⟨rfl, rfl⟩
theorem c141_71 : q_cat 141 71 (.iinc 5 1) 3 5 0 (0) := ⟨rfl, rfl⟩
theorem c141_74 : q_cat 141 74 (.goto (-68)) 3 6 0 (0) := ⟨rfl, rfl⟩
theorem c141_77 : q_cat 141 77 (.iload 4) 2 4 0 (0) := ⟨rfl, rfl⟩
theorem c141_79 : q_cat 141 79 (.ireturn) 1 0 0 (0) := ⟨rfl, rfl⟩
theorem l141_6 {Γ : q_Γ} (hG : q_GG Γ) {h0 : q_F} (hZ : q_Bz h0) {o0 : Nat} {v2 : Int} {v3 : Int} {u2 : Int} {u3 : Int} (ho0 : q_isT o0)
    (hx77 : ∀ {u5 u4 : Int} {h : q_F}, q_Fr (fun k => o0 ≤ k ∧ k ≤ o0 + 8) h0 h → (u4 = 0 ∨ u4 = 1) → q_R Γ q_K 155 141 (fun t w h' => (t = 1 ∧ (∃ z, w = ((0, z) : q_V) ∧ (z = 0 ∨ z = 1)) ∧ q_Fr (fun k => o0 ≤ k ∧ k ≤ o0 + 8) h0 h')) (77, [(5, (0, u5)), (4, (0, u4)), (0, (2, Int.ofNat o0)), (1, (2, Int.ofNat 125)), (2, (0, u2)), (3, (0, u3))], [], q_hp q_K 155 h, [], 0, 0))
    : ∀ (m : Nat) {u5 u4 : Int} {h : q_F}, (-2147483648 ≤ u5 ∧ u5 < 2147483648) → q_Fr (fun k => o0 ≤ k ∧ k ≤ o0 + 8) h0 h → 2147483648 - u5 < (m : Int) → (u4 = 0 ∨ u4 = 1) → q_R Γ q_K 155 141 (fun t w h' => (t = 1 ∧ (∃ z, w = ((0, z) : q_V) ∧ (z = 0 ∨ z = 1)) ∧ q_Fr (fun k => o0 ≤ k ∧ k ≤ o0 + 8) h0 h')) (6, [(5, (0, u5)), (4, (0, u4)), (0, (2, Int.ofNat o0)), (1, (2, Int.ofNat 125)), (2, (0, u2)), (3, (0, u3))], [], q_hp q_K 155 h, [], 0, 0)   := by
  obtain ⟨fo00, fo01, fo02, fo03, fo04, fo05, fo06, fo07, fo08, fo09, fo010⟩ := q_fT ho0
  intro m
  induction m with
  | zero =>
    intro u5 u4 h hinv hf hmu bz4
    exact absurd hmu (by omega)
  | succ m ih =>
    intro u5 u4 h hinv hf hmu bz4
    refine r_iload c141_6 rfl rfl ?_
    refine r_iconst c141_8 rfl ?_
    refine r_ic_ge c141_9 rfl (by first | exact q_w32_id (by omega) (by omega) | exact q_w32w _ | exact rfl) (show q_w32 (3) = 3 from rfl) ?_ ?_
    · intro b1
      refine q_R.wk (ks := [5, 4, 0, 1, 2, 3]) (lo' := [(5, _), (4, _), (0, _), (1, _), (2, _), (3, _)]) rfl ?_
      exact hx77 (by repeat (first | exact q_Fr.rf | refine q_Fr.ud ?_ (by omega) (by first | assumption | rfl) rfl | refine q_Fr.udz ?_ (by omega) (by first | assumption | decide | omega) | refine q_Fr.tr ?_ (by assumption) (by intro k9 hk9; omega))) (by first | assumption | decide | omega)
    · intro b1
      refine r_iload c141_12 rfl rfl ?_
      refine r_if_eq c141_14 rfl (by first | exact q_w32_id (by omega) (by omega) | exact q_w32w _ | exact rfl) ?_ ?_
      · intro b2
        refine q_R.wk (ks := [5, 4, 0, 1, 2, 3]) (lo' := [(5, _), (4, _), (0, _), (1, _), (2, _), (3, _)]) rfl ?_
        exact hx77 (by repeat (first | exact q_Fr.rf | refine q_Fr.ud ?_ (by omega) (by first | assumption | rfl) rfl | refine q_Fr.udz ?_ (by omega) (by first | assumption | decide | omega) | refine q_Fr.tr ?_ (by assumption) (by intro k9 hk9; omega))) (by first | assumption | decide | omega)
      · intro b2
        refine r_aload_n c141_17 rfl rfl ?_
        refine r_iload_n c141_18 rfl rfl ?_
        refine r_iload c141_19 rfl rfl ?_
        refine r_iload_n c141_21 rfl rfl ?_
        refine r_iconst c141_22 rfl ?_
        refine r_iadd c141_23 (by first | exact q_w32_id (by omega) (by omega) | exact q_w32w _ | exact rfl) rfl ?_
        refine r_vcG c141_24 (by first | assumption | omega) (by decide) (by first | assumption | rfl) rfl rfl rfl (k83 hG (q_Fr.bz (S := fun k => o0 ≤ k ∧ k ≤ o0 + 8) hZ (by repeat (first | exact q_Fr.rf | refine q_Fr.ud ?_ (by omega) (by first | assumption | rfl) rfl | refine q_Fr.udz ?_ (by omega) (by first | assumption | decide | omega) | refine q_Fr.tr ?_ (by assumption) (by intro k9 hk9; omega))))) ?_
        intro t3 w3 g3 p3
        obtain ⟨rfl, ⟨z3, rfl⟩, rfl⟩ := p3
        refine Or.inr (Or.inl ⟨rfl, ?_⟩)
        refine r_aload_n c141_27 rfl rfl ?_
        refine r_iload_n c141_28 rfl rfl ?_
        refine r_iload c141_29 rfl rfl ?_
        refine r_iload_n c141_31 rfl rfl ?_
        refine r_vcG c141_32 (by first | assumption | omega) (by decide) (by first | assumption | rfl) rfl rfl rfl (k83 hG (q_Fr.bz (S := fun k => o0 ≤ k ∧ k ≤ o0 + 8) hZ (by repeat (first | exact q_Fr.rf | refine q_Fr.ud ?_ (by omega) (by first | assumption | rfl) rfl | refine q_Fr.udz ?_ (by omega) (by first | assumption | decide | omega) | refine q_Fr.tr ?_ (by assumption) (by intro k9 hk9; omega))))) ?_
        intro t4 w4 g4 p4
        obtain ⟨rfl, ⟨z4, rfl⟩, rfl⟩ := p4
        refine Or.inr (Or.inl ⟨rfl, ?_⟩)
        refine r_ic_le c141_35 rfl (by first | exact q_w32_id (by omega) (by omega) | exact q_w32w _ | exact rfl) (by first | exact q_w32_id (by omega) (by omega) | exact q_w32w _ | exact rfl) ?_ ?_
        · intro b5
          refine r_iinc c141_71 rfl (by first | exact q_w32_id (by omega) (by omega) | exact q_w32w _ | exact rfl) (lo' := [(5, _), (4, _), (0, _), (1, _), (2, _), (3, _)]) rfl rfl rfl ?_
          refine r_goto c141_74 ?_
          refine q_R.wk (ks := [5, 4, 0, 1, 2, 3]) (lo' := [(5, _), (4, _), (0, _), (1, _), (2, _), (3, _)]) rfl ?_
          exact ih (by first | omega | exact ⟨q_rg1 _, q_rg2 _⟩) (by repeat (first | exact q_Fr.rf | refine q_Fr.ud ?_ (by omega) (by first | assumption | rfl) rfl | refine q_Fr.udz ?_ (by omega) (by first | assumption | decide | omega) | refine q_Fr.tr ?_ (by assumption) (by intro k9 hk9; omega))) (by omega) (by first | assumption | decide | omega)
        · intro b5
          refine r_aload_n c141_38 rfl rfl ?_
          refine r_iload c141_39 rfl rfl ?_
          refine r_vcG c141_41 (by first | assumption | omega) (by decide) (by first | assumption | rfl) rfl rfl rfl (k125 hG (q_Fr.bz (S := fun k => o0 ≤ k ∧ k ≤ o0 + 8) hZ (by repeat (first | exact q_Fr.rf | refine q_Fr.ud ?_ (by omega) (by first | assumption | rfl) rfl | refine q_Fr.udz ?_ (by omega) (by first | assumption | decide | omega) | refine q_Fr.tr ?_ (by assumption) (by intro k9 hk9; omega)))) (by first | assumption | exact q_hC (by assumption) | exact q_h1 (by assumption) | exact q_h3 (by assumption) | exact q_h5 (by assumption) | exact q_hG (by assumption) | exact q_hP | exact q_hB1 | exact q_hB2 | exact q_hT6 | exact q_hT15 | exact q_hT24)) ?_
          intro t6 w6 g6 p6
          obtain ⟨rfl, ⟨r6, rfl, ha6, hr6⟩, rfl⟩ := p6
          obtain ⟨fr60, fr61, fr62, fr63⟩ := q_fA ha6
          refine Or.inr (Or.inl ⟨rfl, ?_⟩)
          refine r_aload_n c141_44 rfl rfl ?_
          refine r_iload_n c141_45 rfl rfl ?_
          refine r_iload c141_46 rfl rfl ?_
          refine r_vcG c141_48 (by first | assumption | omega) (by decide) (by first | assumption | rfl) rfl rfl rfl (k101 hG (q_Fr.bz (S := fun k => o0 ≤ k ∧ k ≤ o0 + 8) hZ (by repeat (first | exact q_Fr.rf | refine q_Fr.ud ?_ (by omega) (by first | assumption | rfl) rfl | refine q_Fr.udz ?_ (by omega) (by first | assumption | decide | omega) | refine q_Fr.tr ?_ (by assumption) (by intro k9 hk9; omega))))) ?_
          intro t7 w7 g7 p7
          obtain ⟨rfl, ⟨z7, rfl⟩, rfl⟩ := p7
          refine Or.inr (Or.inl ⟨rfl, ?_⟩)
          refine r_vcG c141_51 (by first | assumption | omega) (by decide) (by first | assumption | rfl) rfl rfl rfl (k49 hG (q_Fr.bz (S := fun k => o0 ≤ k ∧ k ≤ o0 + 8) hZ (by repeat (first | exact q_Fr.rf | refine q_Fr.ud ?_ (by omega) (by first | assumption | rfl) rfl | refine q_Fr.udz ?_ (by omega) (by first | assumption | decide | omega) | refine q_Fr.tr ?_ (by assumption) (by intro k9 hk9; omega)))) (by first | assumption | exact q_hC (by assumption) | exact q_h1 (by assumption) | exact q_h3 (by assumption) | exact q_h5 (by assumption) | exact q_hG (by assumption) | exact q_hP | exact q_hB1 | exact q_hB2 | exact q_hT6 | exact q_hT15 | exact q_hT24)) ?_
          intro t8 w8 g8 p8
          obtain ⟨rfl, ⟨z8, rfl, hz8⟩, e8⟩ := p8
          refine Or.inr (Or.inl ⟨rfl, ?_⟩)
          refine r_if_ne c141_54 rfl (by first | exact q_w32_id (by omega) (by omega) | exact q_w32w _ | exact rfl) ?_ ?_
          · intro b9
            refine r_iconst c141_64 rfl ?_
            refine r_goto c141_65 ?_
            refine r_istore c141_69 (lo' := [(4, _), (5, _), (0, _), (1, _), (2, _), (3, _)]) rfl rfl rfl ?_
            refine r_iinc c141_71 rfl (by first | exact q_w32_id (by omega) (by omega) | exact q_w32w _ | exact rfl) (lo' := [(5, _), (4, _), (0, _), (1, _), (2, _), (3, _)]) rfl rfl rfl ?_
            refine r_goto c141_74 ?_
            refine q_R.wk (ks := [5, 4, 0, 1, 2, 3]) (lo' := [(5, _), (4, _), (0, _), (1, _), (2, _), (3, _)]) rfl ?_
            exact ih (by first | omega | exact ⟨q_rg1 _, q_rg2 _⟩) (by repeat (first | exact q_Fr.rf | refine q_Fr.ud ?_ (by omega) (by first | assumption | rfl) rfl | refine q_Fr.udz ?_ (by omega) (by first | assumption | decide | omega) | refine q_Fr.tr ?_ (by assumption) (by intro k9 hk9; omega))) (by omega) (by first | assumption | decide | omega)
          · intro b9
            refine r_aload_n c141_57 rfl rfl ?_
            refine r_getz (q_Fr.bz (S := fun k => o0 ≤ k ∧ k ≤ o0 + 8) hZ (by repeat (first | exact q_Fr.rf | refine q_Fr.ud ?_ (by omega) (by first | assumption | rfl) rfl | refine q_Fr.udz ?_ (by omega) (by first | assumption | decide | omega) | refine q_Fr.tr ?_ (by assumption) (by intro k9 hk9; omega)))) c141_58 (by first | assumption | omega) (by decide) (by first | assumption | rfl) rfl rfl rfl ?_
            intro z10
            refine r_if_ne c141_61 rfl (by first | exact q_w32_id (by omega) (by omega) | exact q_w32w _ | exact rfl) ?_ ?_
            · intro b11
              refine r_iconst c141_68 rfl ?_
              refine r_istore c141_69 (lo' := [(4, _), (5, _), (0, _), (1, _), (2, _), (3, _)]) rfl rfl rfl ?_
              refine r_iinc c141_71 rfl (by first | exact q_w32_id (by omega) (by omega) | exact q_w32w _ | exact rfl) (lo' := [(5, _), (4, _), (0, _), (1, _), (2, _), (3, _)]) rfl rfl rfl ?_
              refine r_goto c141_74 ?_
              refine q_R.wk (ks := [5, 4, 0, 1, 2, 3]) (lo' := [(5, _), (4, _), (0, _), (1, _), (2, _), (3, _)]) rfl ?_
              exact ih (by first | omega | exact ⟨q_rg1 _, q_rg2 _⟩) (by repeat (first | exact q_Fr.rf | refine q_Fr.ud ?_ (by omega) (by first | assumption | rfl) rfl | refine q_Fr.udz ?_ (by omega) (by first | assumption | decide | omega) | refine q_Fr.tr ?_ (by assumption) (by intro k9 hk9; omega))) (by omega) (by first | assumption | decide | omega)
            · intro b11
              refine r_iconst c141_64 rfl ?_
              refine r_goto c141_65 ?_
              refine r_istore c141_69 (lo' := [(4, _), (5, _), (0, _), (1, _), (2, _), (3, _)]) rfl rfl rfl ?_
              refine r_iinc c141_71 rfl (by first | exact q_w32_id (by omega) (by omega) | exact q_w32w _ | exact rfl) (lo' := [(5, _), (4, _), (0, _), (1, _), (2, _), (3, _)]) rfl rfl rfl ?_
              refine r_goto c141_74 ?_
              refine q_R.wk (ks := [5, 4, 0, 1, 2, 3]) (lo' := [(5, _), (4, _), (0, _), (1, _), (2, _), (3, _)]) rfl ?_
              exact ih (by first | omega | exact ⟨q_rg1 _, q_rg2 _⟩) (by repeat (first | exact q_Fr.rf | refine q_Fr.ud ?_ (by omega) (by first | assumption | rfl) rfl | refine q_Fr.udz ?_ (by omega) (by first | assumption | decide | omega) | refine q_Fr.tr ?_ (by assumption) (by intro k9 hk9; omega))) (by omega) (by first | assumption | decide | omega)

theorem k141 {Γ : q_Γ} (hG : q_GG Γ) {h : q_F} (hZ : q_Bz h) {o0 : Nat} {v2 : Int} {v3 : Int} (ho0 : q_isT o0) :
    q_M Γ q_K 155 141 [(2, Int.ofNat o0), (2, Int.ofNat 125), (0, v2), (0, v3)] h (fun t w h' => (t = 1 ∧ (∃ z, w = ((0, z) : q_V) ∧ (z = 0 ∨ z = 1)) ∧ q_Fr (fun k => o0 ≤ k ∧ k ≤ o0 + 8) h h')) := by
  obtain ⟨fo00, fo01, fo02, fo03, fo04, fo05, fo06, fo07, fo08, fo09, fo010⟩ := q_fT ho0
  refine q_M.of (by decide) (Nat.le_of_ble_eq_true rfl) hG ?_
  refine r_iconst c141_0 rfl ?_
  refine r_istore c141_1 (lo' := [(4, _), (0, _), (1, _), (2, _), (3, _)]) rfl rfl rfl ?_
  refine r_iconst c141_3 rfl ?_
  refine r_istore c141_4 (lo' := [(5, _), (4, _), (0, _), (1, _), (2, _), (3, _)]) rfl rfl rfl ?_
  refine q_R.wk (ks := [5, 4, 0, 1, 2, 3]) (lo' := [(5, _), (4, _), (0, _), (1, _), (2, _), (3, _)]) rfl ?_
  refine l141_6 (o0 := o0) (v2 := v2) (v3 := v3) hG hZ ho0 ?_ 4294967298 (by first | omega | exact ⟨q_rg1 _, q_rg2 _⟩) (by repeat (first | exact q_Fr.rf | refine q_Fr.ud ?_ (by omega) (by first | assumption | rfl) rfl | refine q_Fr.udz ?_ (by omega) (by first | assumption | decide | omega) | refine q_Fr.tr ?_ (by assumption) (by intro k9 hk9; omega))) (q_mu (by first | omega | exact ⟨q_rg1 _, q_rg2 _⟩)) (by first | assumption | decide | omega)
  · intro u5_1 u4_1 g1 f1 z4_1
    refine r_iload c141_77 rfl rfl ?_
    exact r_zret c141_79 ⟨rfl, rfl, rfl⟩ (by first | assumption | omega) ⟨rfl, ⟨_, rfl, (by first | assumption | omega)⟩, (by repeat (first | exact q_Fr.rf | refine q_Fr.ud ?_ (by omega) (by first | assumption | rfl) rfl | refine q_Fr.udz ?_ (by omega) (by first | assumption | decide | omega) | refine q_Fr.tr ?_ (by assumption) (by intro k9 hk9; omega)))⟩
theorem c137_0 : q_cat 137 0 (.aload_n 0) 1 0 0 (0) := ⟨rfl, rfl⟩
theorem c137_1 : q_cat 137 1 (.aload_n 1) 1 1 0 (0) := ⟨rfl, rfl⟩
theorem c137_2 : q_cat 137 2 (.iload_n 2) 1 2 0 (0) := ⟨rfl, rfl⟩
theorem c137_3 : q_cat 137 3 (.invokevirtual 165) 3 128 0 (0) := ⟨rfl, rfl⟩
theorem c137_6 : q_cat 137 6 (.aload_n 0) 1 0 0 (0) := ⟨rfl, rfl⟩
theorem c137_7 : q_cat 137 7 (.getfield 49) 3 6 5 (1) := ⟨rfl, rfl⟩
theorem c137_10 : q_cat 137 10 (.ifCond .eq 14) 3 24 0 (0) := ⟨rfl, rfl⟩
theorem c137_13 : q_cat 137 13 (.aload_n 0) 1 0 0 (0) := ⟨rfl, rfl⟩
theorem c137_14 : q_cat 137 14 (.aload_n 1) 1 1 0 (0) := ⟨rfl, rfl⟩
theorem c137_15 : q_cat 137 15 (.iload_n 2) 1 2 0 (0) := ⟨rfl, rfl⟩
theorem c137_16 : q_cat 137 16 (.invokevirtual 169) 3 126 0 (0) := ⟨rfl, rfl⟩
theorem c137_19 : q_cat 137 19 (.ifCond .ne 5) 3 24 0 (0) := ⟨rfl, rfl⟩
theorem c137_22 : q_cat 137 22 (.iconst 0) 1 0 0 (0) := ⟨rfl, rfl⟩
theorem c137_23 : q_cat 137 23 (.ireturn) 1 0 0 (0) := ⟨rfl, rfl⟩
theorem c137_24 : q_cat 137 24 (.aload_n 1) 1 1 0 (0) := ⟨rfl, rfl⟩
theorem c137_25 : q_cat 137 25 (.iload_n 2) 1 2 0 (0) := ⟨rfl, rfl⟩
theorem c137_26 : q_cat 137 26 (.invokevirtual 172) 3 79 0 (0) := ⟨rfl, rfl⟩
theorem c137_29 : q_cat 137 29 (.istore_n 3) 1 3 0 (0) := ⟨rfl, rfl⟩
theorem c137_30 : q_cat 137 30 (.iconst 0) 1 0 0 (0) := ⟨rfl, rfl⟩
theorem c137_31 : q_cat 137 31 (.istore 4) 2 4 0 (0) := ⟨rfl, rfl⟩
theorem c137_33 : q_cat 137 33 (.iload 4) 2 4 0 (0) := ⟨rfl, rfl⟩
theorem c137_35 : q_cat 137 35 (.iload_n 3) 1 3 0 (0) := ⟨rfl, rfl⟩
theorem c137_36 : q_cat 137 36 (.if_icmp .ge 65) 3 101 0 (0) := ⟨rfl, rfl⟩
theorem c137_39 : q_cat 137 39 (.aload_n 1) 1 1 0 (0) := ⟨rfl, rfl⟩
theorem c137_40 : q_cat 137 40 (.iload_n 2) 1 2 0 (0) := ⟨rfl, rfl⟩
theorem c137_41 : q_cat 137 41 (.iload 4) 2 4 0 (0) := ⟨rfl, rfl⟩
theorem c137_43 : q_cat 137 43 (.invokevirtual 177) 3 95 0 (0) := ⟨rfl, rfl⟩
theorem c137_46 : q_cat 137 46 (.istore 5) 2 5 0 (0) := ⟨rfl, rfl⟩
theorem c137_48 : q_cat 137 48 (.aload_n 0) 1 0 0 (0) := ⟨rfl, rfl⟩
theorem c137_49 : q_cat 137 49 (.dup) 1 0 0 (0) := ⟨rfl, rfl⟩
theorem c137_50 : q_cat 137 50 (.getfield 59) 3 6 8 (2) := ⟨rfl, rfl⟩
theorem c137_53 : q_cat 137 53 (.iload 5) 2 5 0 (0) := ⟨rfl, rfl⟩
theorem c137_55 : q_cat 137 55 (.i2l) 1 0 0 (0) := ⟨rfl, rfl⟩
theorem c137_56 : q_cat 137 56 (.ladd) 1 0 0 (0) := ⟨rfl, rfl⟩
theorem c137_57 : q_cat 137 57 (.putfield 59) 3 6 8 (2) := ⟨rfl, rfl⟩
theorem c137_60 : q_cat 137 60 (.aload_n 0) 1 0 0 (0) := ⟨rfl, rfl⟩
theorem c137_61 : q_cat 137 61 (.dup) 1 0 0 (0) := ⟨rfl, rfl⟩
theorem c137_62 : q_cat 137 62 (.getfield 63) 3 6 9 (2) := ⟨rfl, rfl⟩
theorem c137_65 : q_cat 137 65 (.iload 5) 2 5 0 (0) := ⟨rfl, rfl⟩
theorem c137_67 : q_cat 137 67 (.i2l) 1 0 0 (0) := ⟨rfl, rfl⟩
theorem c137_68 : q_cat 137 68 (.ladd) 1 0 0 (0) := ⟨rfl, rfl⟩
theorem c137_69 : q_cat 137 69 (.putfield 63) 3 6 9 (2) := ⟨rfl, rfl⟩
theorem c137_72 : q_cat 137 72 (.aload_n 0) 1 0 0 (0) := ⟨rfl, rfl⟩
theorem c137_73 : q_cat 137 73 (.dup) 1 0 0 (0) := ⟨rfl, rfl⟩
theorem c137_74 : q_cat 137 74 (.getfield 66) 3 6 10 (2) := ⟨rfl, rfl⟩
theorem c137_77 : q_cat 137 77 (.lconst 1) 1 0 0 (1) := ⟨rfl, rfl⟩
theorem c137_78 : q_cat 137 78 (.ladd) 1 0 0 (0) := ⟨rfl, rfl⟩
theorem c137_79 : q_cat 137 79 (.putfield 66) 3 6 10 (2) := ⟨rfl, rfl⟩
theorem c137_82 : q_cat 137 82 (.aload_n 0) 1 0 0 (0) := ⟨rfl, rfl⟩
theorem c137_83 : q_cat 137 83 (.aload_n 1) 1 1 0 (0) := ⟨rfl, rfl⟩
theorem c137_84 : q_cat 137 84 (.iload_n 2) 1 2 0 (0) := ⟨rfl, rfl⟩
theorem c137_85 : q_cat 137 85 (.iload 4) 2 4 0 (0) := ⟨rfl, rfl⟩
theorem c137_87 : q_cat 137 87 (.invokevirtual 180) 3 141 0 (0) := ⟨rfl, rfl⟩
theorem c137_90 : q_cat 137 90 (.ifCond .ne 5) 3 95 0 (0) := ⟨rfl, rfl⟩
theorem c137_93 : q_cat 137 93 (.iconst 0) 1 0 0 (0) := ⟨rfl, rfl⟩
theorem c137_94 : q_cat 137 94 (.ireturn) 1 0 0 (0) := ⟨rfl, rfl⟩
theorem c137_95 : q_cat 137 95 (.iinc 4 1) 3 4 0 (0) := ⟨rfl, rfl⟩
theorem c137_98 : q_cat 137 98 (.goto (-65)) 3 33 0 (0) := ⟨rfl, rfl⟩
theorem c137_101 : q_cat 137 101 (.iconst 0) 1 0 0 (0) := ⟨rfl, rfl⟩
theorem c137_102 : q_cat 137 102 (.istore 4) 2 4 0 (0) := ⟨rfl, rfl⟩
theorem c137_104 : q_cat 137 104 (.iload 4) 2 4 0 (0) := ⟨rfl, rfl⟩
theorem c137_106 : q_cat 137 106 (.iconst 3) 1 0 0 (0) := ⟨rfl, rfl⟩
theorem c137_107 : q_cat 137 107 (.if_icmp .ge 30) 3 137 0 (0) := ⟨rfl, rfl⟩
theorem c137_110 : q_cat 137 110 (.aload_n 0) 1 0 0 (0) := ⟨rfl, rfl⟩
theorem c137_111 : q_cat 137 111 (.iload 4) 2 4 0 (0) := ⟨rfl, rfl⟩
theorem c137_113 : q_cat 137 113 (.invokevirtual 95) 3 125 0 (0) := ⟨rfl, rfl⟩
theorem c137_116 : q_cat 137 116 (.dup) 1 0 0 (0) := ⟨rfl, rfl⟩
theorem c137_117 : q_cat 137 117 (.getfield 99) 3 1 12 (0) := ⟨rfl, rfl⟩
theorem c137_120 : q_cat 137 120 (.aload_n 1) 1 1 0 (0) := ⟨rfl, rfl⟩
theorem c137_121 : q_cat 137 121 (.iload_n 2) 1 2 0 (0) := ⟨rfl, rfl⟩
theorem c137_122 : q_cat 137 122 (.iload 4) 2 4 0 (0) := ⟨rfl, rfl⟩
theorem c137_124 : q_cat 137 124 (.invokevirtual 184) 3 73 0 (0) := ⟨rfl, rfl⟩
theorem c137_127 : q_cat 137 127 (.iadd) 1 0 0 (0) := ⟨rfl, rfl⟩
theorem c137_128 : q_cat 137 128 (.putfield 99) 3 1 12 (0) := ⟨rfl, rfl⟩
theorem c137_131 : q_cat 137 131 (.iinc 4 1) 3 4 0 (0) := ⟨rfl, rfl⟩
theorem c137_134 : q_cat 137 134 (.goto (-30)) 3 104 0 (0) := ⟨rfl, rfl⟩
theorem c137_137 : q_cat 137 137 (.iconst 1) 1 0 0 (0) := ⟨rfl, rfl⟩
theorem c137_138 : q_cat 137 138 (.ireturn) 1 0 0 (0) := ⟨rfl, rfl⟩
theorem l137_33 {Γ : q_Γ} (hG : q_GG Γ) {h0 : q_F} (hZ : q_Bz h0) {o0 : Nat} {v2 : Int} {u3 : Int} {u2 : Int} (ho0 : q_isT o0)
    (hx101 : ∀ {u4 : Int} {h : q_F}, q_Fr (fun k => o0 ≤ k ∧ k ≤ o0 + 8) h0 h → q_R Γ q_K 155 137 (fun t w h' => (t = 1 ∧ (∃ z, w = ((0, z) : q_V) ∧ (z = 0 ∨ z = 1)) ∧ q_Fr (fun k => o0 ≤ k ∧ k ≤ o0 + 8) h0 h')) (101, [(4, (0, u4)), (3, (0, u3)), (0, (2, Int.ofNat o0)), (1, (2, Int.ofNat 125)), (2, (0, u2))], [], q_hp q_K 155 h, [], 0, 0))
    : ∀ (m : Nat) {u4 : Int} {h : q_F}, (-2147483648 ≤ u4 ∧ u4 < 2147483648) → q_Fr (fun k => o0 ≤ k ∧ k ≤ o0 + 8) h0 h → 2147483648 - u4 < (m : Int) → q_R Γ q_K 155 137 (fun t w h' => (t = 1 ∧ (∃ z, w = ((0, z) : q_V) ∧ (z = 0 ∨ z = 1)) ∧ q_Fr (fun k => o0 ≤ k ∧ k ≤ o0 + 8) h0 h')) (33, [(4, (0, u4)), (3, (0, u3)), (0, (2, Int.ofNat o0)), (1, (2, Int.ofNat 125)), (2, (0, u2))], [], q_hp q_K 155 h, [], 0, 0)   := by
  obtain ⟨fo00, fo01, fo02, fo03, fo04, fo05, fo06, fo07, fo08, fo09, fo010⟩ := q_fT ho0
  intro m
  induction m with
  | zero =>
    intro u4 h hinv hf hmu
    exact absurd hmu (by omega)
  | succ m ih =>
    intro u4 h hinv hf hmu
    refine r_iload c137_33 rfl rfl ?_
    refine r_iload_n c137_35 rfl rfl ?_
    refine r_ic_ge c137_36 rfl (by first | exact q_w32_id (by omega) (by omega) | exact q_w32w _ | exact rfl) (by first | exact q_w32_id (by omega) (by omega) | exact q_w32w _ | exact rfl) ?_ ?_
    · intro b5
      refine q_R.wk (ks := [4, 3, 0, 1, 2]) (lo' := [(4, _), (3, _), (0, _), (1, _), (2, _)]) rfl ?_
      exact hx101 (by repeat (first | exact q_Fr.rf | refine q_Fr.ud ?_ (by omega) (by first | assumption | rfl) rfl | refine q_Fr.udz ?_ (by omega) (by first | assumption | decide | omega) | refine q_Fr.tr ?_ (by assumption) (by intro k9 hk9; omega)))
    · intro b5
      refine r_aload_n c137_39 rfl rfl ?_
      refine r_iload_n c137_40 rfl rfl ?_
      refine r_iload c137_41 rfl rfl ?_
      refine r_vcG c137_43 (by first | assumption | omega) (by decide) (by first | assumption | rfl) rfl rfl rfl (k95 hG (q_Fr.bz (S := fun k => o0 ≤ k ∧ k ≤ o0 + 8) hZ (by repeat (first | exact q_Fr.rf | refine q_Fr.ud ?_ (by omega) (by first | assumption | rfl) rfl | refine q_Fr.udz ?_ (by omega) (by first | assumption | decide | omega) | refine q_Fr.tr ?_ (by assumption) (by intro k9 hk9; omega))))) ?_
      intro t6 w6 g6 p6
      obtain ⟨rfl, ⟨z6, rfl⟩, rfl⟩ := p6
      refine Or.inr (Or.inl ⟨rfl, ?_⟩)
      refine r_istore c137_46 (lo' := [(5, _), (4, _), (3, _), (0, _), (1, _), (2, _)]) rfl rfl rfl ?_
      refine r_aload_n c137_48 rfl rfl ?_
      refine r_dup c137_49 rfl rfl ?_
      refine r_getl c137_50 (by first | assumption | omega) (by decide) (by first | assumption | rfl) rfl rfl ?_
      refine r_iload c137_53 rfl rfl ?_
      refine r_i2l c137_55 (by first | exact q_w32_id (by omega) (by omega) | exact q_w32w _ | exact rfl) rfl ?_
      refine r_ladd c137_56 rfl rfl ?_
      refine r_putl c137_57 (by first | assumption | omega) (by decide) (by first | assumption | rfl) rfl rfl rfl ?_
      refine r_aload_n c137_60 rfl rfl ?_
      refine r_dup c137_61 rfl rfl ?_
      refine r_getl c137_62 (by first | assumption | omega) (by decide) (by first | assumption | rfl) rfl rfl ?_
      refine r_iload c137_65 rfl rfl ?_
      refine r_i2l c137_67 (by first | exact q_w32_id (by omega) (by omega) | exact q_w32w _ | exact rfl) rfl ?_
      refine r_ladd c137_68 rfl rfl ?_
      refine r_putl c137_69 (by first | assumption | omega) (by decide) (by first | assumption | rfl) rfl rfl rfl ?_
      refine r_aload_n c137_72 rfl rfl ?_
      refine r_dup c137_73 rfl rfl ?_
      refine r_getl c137_74 (by first | assumption | omega) (by decide) (by first | assumption | rfl) rfl rfl ?_
      refine r_lconst c137_77 rfl ?_
      refine r_ladd c137_78 rfl rfl ?_
      refine r_putl c137_79 (by first | assumption | omega) (by decide) (by first | assumption | rfl) rfl rfl rfl ?_
      refine r_aload_n c137_82 rfl rfl ?_
      refine r_aload_n c137_83 rfl rfl ?_
      refine r_iload_n c137_84 rfl rfl ?_
      refine r_iload c137_85 rfl rfl ?_
      refine r_vcG c137_87 (by first | assumption | omega) (by decide) (by first | assumption | rfl) rfl rfl rfl (k141 hG (q_Fr.bz (S := fun k => o0 ≤ k ∧ k ≤ o0 + 8) hZ (by repeat (first | exact q_Fr.rf | refine q_Fr.ud ?_ (by omega) (by first | assumption | rfl) rfl | refine q_Fr.udz ?_ (by omega) (by first | assumption | decide | omega) | refine q_Fr.tr ?_ (by assumption) (by intro k9 hk9; omega)))) (by first | assumption | exact q_hC (by assumption) | exact q_h1 (by assumption) | exact q_h3 (by assumption) | exact q_h5 (by assumption) | exact q_hG (by assumption) | exact q_hP | exact q_hB1 | exact q_hB2 | exact q_hT6 | exact q_hT15 | exact q_hT24)) ?_
      intro t7 w7 g7 p7
      obtain ⟨rfl, ⟨z7, rfl, hz7⟩, e7⟩ := p7
      refine Or.inr (Or.inl ⟨rfl, ?_⟩)
      refine r_if_ne c137_90 rfl (by first | exact q_w32_id (by omega) (by omega) | exact q_w32w _ | exact rfl) ?_ ?_
      · intro b8
        refine r_iinc c137_95 rfl (by first | exact q_w32_id (by omega) (by omega) | exact q_w32w _ | exact rfl) (lo' := [(4, _), (5, _), (3, _), (0, _), (1, _), (2, _)]) rfl rfl rfl ?_
        refine r_goto c137_98 ?_
        refine q_R.wk (ks := [4, 3, 0, 1, 2]) (lo' := [(4, _), (3, _), (0, _), (1, _), (2, _)]) rfl ?_
        exact ih (by first | omega | exact ⟨q_rg1 _, q_rg2 _⟩) (by repeat (first | exact q_Fr.rf | refine q_Fr.ud ?_ (by omega) (by first | assumption | rfl) rfl | refine q_Fr.udz ?_ (by omega) (by first | assumption | decide | omega) | refine q_Fr.tr ?_ (by assumption) (by intro k9 hk9; omega))) (by omega)
      · intro b8
        refine r_iconst c137_93 rfl ?_
        exact r_zret c137_94 ⟨rfl, rfl, rfl⟩ (by decide) ⟨rfl, ⟨_, rfl, (by decide)⟩, (by repeat (first | exact q_Fr.rf | refine q_Fr.ud ?_ (by omega) (by first | assumption | rfl) rfl | refine q_Fr.udz ?_ (by omega) (by first | assumption | decide | omega) | refine q_Fr.tr ?_ (by assumption) (by intro k9 hk9; omega)))⟩

theorem l137_104 {Γ : q_Γ} (hG : q_GG Γ) {h0 : q_F} (hZ : q_Bz h0) {o0 : Nat} {v2 : Int} {u3 : Int} {u2 : Int} (ho0 : q_isT o0)
    (hx137 : ∀ {u4 : Int} {h : q_F}, q_Fr (fun k => o0 ≤ k ∧ k ≤ o0 + 8) h0 h → q_R Γ q_K 155 137 (fun t w h' => (t = 1 ∧ (∃ z, w = ((0, z) : q_V) ∧ (z = 0 ∨ z = 1)) ∧ q_Fr (fun k => o0 ≤ k ∧ k ≤ o0 + 8) h0 h')) (137, [(4, (0, u4)), (3, (0, u3)), (0, (2, Int.ofNat o0)), (1, (2, Int.ofNat 125)), (2, (0, u2))], [], q_hp q_K 155 h, [], 0, 0))
    : ∀ (m : Nat) {u4 : Int} {h : q_F}, (-2147483648 ≤ u4 ∧ u4 < 2147483648) → q_Fr (fun k => o0 ≤ k ∧ k ≤ o0 + 8) h0 h → 2147483648 - u4 < (m : Int) → q_R Γ q_K 155 137 (fun t w h' => (t = 1 ∧ (∃ z, w = ((0, z) : q_V) ∧ (z = 0 ∨ z = 1)) ∧ q_Fr (fun k => o0 ≤ k ∧ k ≤ o0 + 8) h0 h')) (104, [(4, (0, u4)), (3, (0, u3)), (0, (2, Int.ofNat o0)), (1, (2, Int.ofNat 125)), (2, (0, u2))], [], q_hp q_K 155 h, [], 0, 0)   := by
  obtain ⟨fo00, fo01, fo02, fo03, fo04, fo05, fo06, fo07, fo08, fo09, fo010⟩ := q_fT ho0
  intro m
  induction m with
  | zero =>
    intro u4 h hinv hf hmu
    exact absurd hmu (by omega)
  | succ m ih =>
    intro u4 h hinv hf hmu
    refine r_iload c137_104 rfl rfl ?_
    refine r_iconst c137_106 rfl ?_
    refine r_ic_ge c137_107 rfl (by first | exact q_w32_id (by omega) (by omega) | exact q_w32w _ | exact rfl) (show q_w32 (3) = 3 from rfl) ?_ ?_
    · intro b6
      refine q_R.wk (ks := [4, 3, 0, 1, 2]) (lo' := [(4, _), (3, _), (0, _), (1, _), (2, _)]) rfl ?_
      exact hx137 (by repeat (first | exact q_Fr.rf | refine q_Fr.ud ?_ (by omega) (by first | assumption | rfl) rfl | refine q_Fr.udz ?_ (by omega) (by first | assumption | decide | omega) | refine q_Fr.tr ?_ (by assumption) (by intro k9 hk9; omega)))
    · intro b6
      refine r_aload_n c137_110 rfl rfl ?_
      refine r_iload c137_111 rfl rfl ?_
      refine r_vcG c137_113 (by first | assumption | omega) (by decide) (by first | assumption | rfl) rfl rfl rfl (k125 hG (q_Fr.bz (S := fun k => o0 ≤ k ∧ k ≤ o0 + 8) hZ (by repeat (first | exact q_Fr.rf | refine q_Fr.ud ?_ (by omega) (by first | assumption | rfl) rfl | refine q_Fr.udz ?_ (by omega) (by first | assumption | decide | omega) | refine q_Fr.tr ?_ (by assumption) (by intro k9 hk9; omega)))) (by first | assumption | exact q_hC (by assumption) | exact q_h1 (by assumption) | exact q_h3 (by assumption) | exact q_h5 (by assumption) | exact q_hG (by assumption) | exact q_hP | exact q_hB1 | exact q_hB2 | exact q_hT6 | exact q_hT15 | exact q_hT24)) ?_
      intro t7 w7 g7 p7
      obtain ⟨rfl, ⟨r7, rfl, ha7, hr7⟩, rfl⟩ := p7
      obtain ⟨fr70, fr71, fr72, fr73⟩ := q_fA ha7
      refine Or.inr (Or.inl ⟨rfl, ?_⟩)
      refine r_dup c137_116 rfl rfl ?_
      refine r_geti c137_117 (by first | assumption | omega) (by decide) (by first | assumption | rfl) rfl rfl ?_
      refine r_aload_n c137_120 rfl rfl ?_
      refine r_iload_n c137_121 rfl rfl ?_
      refine r_iload c137_122 rfl rfl ?_
      refine r_vcG c137_124 (by first | assumption | omega) (by decide) (by first | assumption | rfl) rfl rfl rfl (k73 hG (q_Fr.bz (S := fun k => o0 ≤ k ∧ k ≤ o0 + 8) hZ (by repeat (first | exact q_Fr.rf | refine q_Fr.ud ?_ (by omega) (by first | assumption | rfl) rfl | refine q_Fr.udz ?_ (by omega) (by first | assumption | decide | omega) | refine q_Fr.tr ?_ (by assumption) (by intro k9 hk9; omega))))) ?_
      intro t8 w8 g8 p8
      obtain ⟨rfl, ⟨z8, rfl⟩, rfl⟩ := p8
      refine Or.inr (Or.inl ⟨rfl, ?_⟩)
      refine r_iadd c137_127 (by first | exact q_w32_id (by omega) (by omega) | exact q_w32w _ | exact rfl) rfl ?_
      refine r_puti c137_128 (by first | assumption | omega) (by decide) (by first | assumption | rfl) rfl rfl rfl ?_
      refine r_iinc c137_131 rfl (by first | exact q_w32_id (by omega) (by omega) | exact q_w32w _ | exact rfl) (lo' := [(4, _), (3, _), (0, _), (1, _), (2, _)]) rfl rfl rfl ?_
      refine r_goto c137_134 ?_
      refine q_R.wk (ks := [4, 3, 0, 1, 2]) (lo' := [(4, _), (3, _), (0, _), (1, _), (2, _)]) rfl ?_
      exact ih (by first | omega | exact ⟨q_rg1 _, q_rg2 _⟩) (by repeat (first | exact q_Fr.rf | refine q_Fr.ud ?_ (by omega) (by first | assumption | rfl) rfl | refine q_Fr.udz ?_ (by omega) (by first | assumption | decide | omega) | refine q_Fr.tr ?_ (by assumption) (by intro k9 hk9; omega))) (by omega)

theorem k137 {Γ : q_Γ} (hG : q_GG Γ) {h : q_F} (hZ : q_Bz h) {o0 : Nat} {v2 : Int} (ho0 : q_isT o0) :
    q_M Γ q_K 155 137 [(2, Int.ofNat o0), (2, Int.ofNat 125), (0, v2)] h (fun t w h' => (t = 1 ∧ (∃ z, w = ((0, z) : q_V) ∧ (z = 0 ∨ z = 1)) ∧ q_Fr (fun k => o0 ≤ k ∧ k ≤ o0 + 8) h h')) := by
  obtain ⟨fo00, fo01, fo02, fo03, fo04, fo05, fo06, fo07, fo08, fo09, fo010⟩ := q_fT ho0
  refine q_M.of (by decide) (Nat.le_of_ble_eq_true rfl) hG ?_
  refine r_aload_n c137_0 rfl rfl ?_
  refine r_aload_n c137_1 rfl rfl ?_
  refine r_iload_n c137_2 rfl rfl ?_
  refine r_vcG c137_3 (by first | assumption | omega) (by decide) (by first | assumption | rfl) rfl rfl rfl (k128 hG (q_Fr.bz (S := fun k => o0 ≤ k ∧ k ≤ o0 + 8) hZ (by repeat (first | exact q_Fr.rf | refine q_Fr.ud ?_ (by omega) (by first | assumption | rfl) rfl | refine q_Fr.udz ?_ (by omega) (by first | assumption | decide | omega) | refine q_Fr.tr ?_ (by assumption) (by intro k9 hk9; omega)))) (by first | assumption | exact q_hC (by assumption) | exact q_h1 (by assumption) | exact q_h3 (by assumption) | exact q_h5 (by assumption) | exact q_hG (by assumption) | exact q_hP | exact q_hB1 | exact q_hB2 | exact q_hT6 | exact q_hT15 | exact q_hT24)) ?_
  intro t1 w1 g1 p1
  obtain ⟨rfl, e1⟩ := p1
  refine Or.inl ⟨rfl, ?_⟩
  refine r_aload_n c137_6 rfl rfl ?_
  refine r_getz (q_Fr.bz (S := fun k => o0 ≤ k ∧ k ≤ o0 + 8) hZ (by repeat (first | exact q_Fr.rf | refine q_Fr.ud ?_ (by omega) (by first | assumption | rfl) rfl | refine q_Fr.udz ?_ (by omega) (by first | assumption | decide | omega) | refine q_Fr.tr ?_ (by assumption) (by intro k9 hk9; omega)))) c137_7 (by first | assumption | omega) (by decide) (by first | assumption | rfl) rfl rfl rfl ?_
  intro z2
  refine r_if_eq c137_10 rfl (by first | exact q_w32_id (by omega) (by omega) | exact q_w32w _ | exact rfl) ?_ ?_
  · intro b3
    refine r_aload_n c137_24 rfl rfl ?_
    refine r_iload_n c137_25 rfl rfl ?_
    refine r_vcG c137_26 (by first | assumption | omega) (by decide) (by first | assumption | rfl) rfl rfl rfl (k79 hG (q_Fr.bz (S := fun k => o0 ≤ k ∧ k ≤ o0 + 8) hZ (by repeat (first | exact q_Fr.rf | refine q_Fr.ud ?_ (by omega) (by first | assumption | rfl) rfl | refine q_Fr.udz ?_ (by omega) (by first | assumption | decide | omega) | refine q_Fr.tr ?_ (by assumption) (by intro k9 hk9; omega))))) ?_
    intro t4 w4 g4 p4
    obtain ⟨rfl, ⟨z4, rfl⟩, rfl⟩ := p4
    refine Or.inr (Or.inl ⟨rfl, ?_⟩)
    refine r_istore_n c137_29 (lo' := [(3, _), (0, _), (1, _), (2, _)]) rfl rfl rfl ?_
    refine r_iconst c137_30 rfl ?_
    refine r_istore c137_31 (lo' := [(4, _), (3, _), (0, _), (1, _), (2, _)]) rfl rfl rfl ?_
    refine q_R.wk (ks := [4, 3, 0, 1, 2]) (lo' := [(4, _), (3, _), (0, _), (1, _), (2, _)]) rfl ?_
    refine l137_33 (o0 := o0) (v2 := v2) hG hZ ho0 ?_ 4294967298 (by first | omega | exact ⟨q_rg1 _, q_rg2 _⟩) (by repeat (first | exact q_Fr.rf | refine q_Fr.ud ?_ (by omega) (by first | assumption | rfl) rfl | refine q_Fr.udz ?_ (by omega) (by first | assumption | decide | omega) | refine q_Fr.tr ?_ (by assumption) (by intro k9 hk9; omega))) (q_mu (by first | omega | exact ⟨q_rg1 _, q_rg2 _⟩))
    · intro u4_5 g5 f5
      refine r_iconst c137_101 rfl ?_
      refine r_istore c137_102 (lo' := [(4, _), (3, _), (0, _), (1, _), (2, _)]) rfl rfl rfl ?_
      refine q_R.wk (ks := [4, 3, 0, 1, 2]) (lo' := [(4, _), (3, _), (0, _), (1, _), (2, _)]) rfl ?_
      refine l137_104 (o0 := o0) (v2 := v2) hG hZ ho0 ?_ 4294967298 (by first | omega | exact ⟨q_rg1 _, q_rg2 _⟩) (by repeat (first | exact q_Fr.rf | refine q_Fr.ud ?_ (by omega) (by first | assumption | rfl) rfl | refine q_Fr.udz ?_ (by omega) (by first | assumption | decide | omega) | refine q_Fr.tr ?_ (by assumption) (by intro k9 hk9; omega))) (q_mu (by first | omega | exact ⟨q_rg1 _, q_rg2 _⟩))
      · intro u4_6 g6 f6
        refine r_iconst c137_137 rfl ?_
        exact r_zret c137_138 ⟨rfl, rfl, rfl⟩ (by decide) ⟨rfl, ⟨_, rfl, (by decide)⟩, (by repeat (first | exact q_Fr.rf | refine q_Fr.ud ?_ (by omega) (by first | assumption | rfl) rfl | refine q_Fr.udz ?_ (by omega) (by first | assumption | decide | omega) | refine q_Fr.tr ?_ (by assumption) (by intro k9 hk9; omega)))⟩
  · intro b3
    refine r_aload_n c137_13 rfl rfl ?_
    refine r_aload_n c137_14 rfl rfl ?_
    refine r_iload_n c137_15 rfl rfl ?_
    refine r_vcG c137_16 (by first | assumption | omega) (by decide) (by first | assumption | rfl) rfl rfl rfl (k126 hG (q_Fr.bz (S := fun k => o0 ≤ k ∧ k ≤ o0 + 8) hZ (by repeat (first | exact q_Fr.rf | refine q_Fr.ud ?_ (by omega) (by first | assumption | rfl) rfl | refine q_Fr.udz ?_ (by omega) (by first | assumption | decide | omega) | refine q_Fr.tr ?_ (by assumption) (by intro k9 hk9; omega)))) (by first | assumption | exact q_hC (by assumption) | exact q_h1 (by assumption) | exact q_h3 (by assumption) | exact q_h5 (by assumption) | exact q_hG (by assumption) | exact q_hP | exact q_hB1 | exact q_hB2 | exact q_hT6 | exact q_hT15 | exact q_hT24)) ?_
    intro t7 w7 g7 p7
    obtain ⟨rfl, ⟨z7, rfl, hz7⟩, e7⟩ := p7
    refine Or.inr (Or.inl ⟨rfl, ?_⟩)
    refine r_if_ne c137_19 rfl (by first | exact q_w32_id (by omega) (by omega) | exact q_w32w _ | exact rfl) ?_ ?_
    · intro b8
      refine r_aload_n c137_24 rfl rfl ?_
      refine r_iload_n c137_25 rfl rfl ?_
      refine r_vcG c137_26 (by first | assumption | omega) (by decide) (by first | assumption | rfl) rfl rfl rfl (k79 hG (q_Fr.bz (S := fun k => o0 ≤ k ∧ k ≤ o0 + 8) hZ (by repeat (first | exact q_Fr.rf | refine q_Fr.ud ?_ (by omega) (by first | assumption | rfl) rfl | refine q_Fr.udz ?_ (by omega) (by first | assumption | decide | omega) | refine q_Fr.tr ?_ (by assumption) (by intro k9 hk9; omega))))) ?_
      intro t9 w9 g9 p9
      obtain ⟨rfl, ⟨z9, rfl⟩, rfl⟩ := p9
      refine Or.inr (Or.inl ⟨rfl, ?_⟩)
      refine r_istore_n c137_29 (lo' := [(3, _), (0, _), (1, _), (2, _)]) rfl rfl rfl ?_
      refine r_iconst c137_30 rfl ?_
      refine r_istore c137_31 (lo' := [(4, _), (3, _), (0, _), (1, _), (2, _)]) rfl rfl rfl ?_
      refine q_R.wk (ks := [4, 3, 0, 1, 2]) (lo' := [(4, _), (3, _), (0, _), (1, _), (2, _)]) rfl ?_
      refine l137_33 (o0 := o0) (v2 := v2) hG hZ ho0 ?_ 4294967298 (by first | omega | exact ⟨q_rg1 _, q_rg2 _⟩) (by repeat (first | exact q_Fr.rf | refine q_Fr.ud ?_ (by omega) (by first | assumption | rfl) rfl | refine q_Fr.udz ?_ (by omega) (by first | assumption | decide | omega) | refine q_Fr.tr ?_ (by assumption) (by intro k9 hk9; omega))) (q_mu (by first | omega | exact ⟨q_rg1 _, q_rg2 _⟩))
      · intro u4_10 g10 f10
        refine r_iconst c137_101 rfl ?_
        refine r_istore c137_102 (lo' := [(4, _), (3, _), (0, _), (1, _), (2, _)]) rfl rfl rfl ?_
        refine q_R.wk (ks := [4, 3, 0, 1, 2]) (lo' := [(4, _), (3, _), (0, _), (1, _), (2, _)]) rfl ?_
        refine l137_104 (o0 := o0) (v2 := v2) hG hZ ho0 ?_ 4294967298 (by first | omega | exact ⟨q_rg1 _, q_rg2 _⟩) (by repeat (first | exact q_Fr.rf | refine q_Fr.ud ?_ (by omega) (by first | assumption | rfl) rfl | refine q_Fr.udz ?_ (by omega) (by first | assumption | decide | omega) | refine q_Fr.tr ?_ (by assumption) (by intro k9 hk9; omega))) (q_mu (by first | omega | exact ⟨q_rg1 _, q_rg2 _⟩))
        · intro u4_11 g11 f11
          refine r_iconst c137_137 rfl ?_
          exact r_zret c137_138 ⟨rfl, rfl, rfl⟩ (by decide) ⟨rfl, ⟨_, rfl, (by decide)⟩, (by repeat (first | exact q_Fr.rf | refine q_Fr.ud ?_ (by omega) (by first | assumption | rfl) rfl | refine q_Fr.udz ?_ (by omega) (by first | assumption | decide | omega) | refine q_Fr.tr ?_ (by assumption) (by intro k9 hk9; omega)))⟩
    · intro b8
      refine r_iconst c137_22 rfl ?_
      exact r_zret c137_23 ⟨rfl, rfl, rfl⟩ (by decide) ⟨rfl, ⟨_, rfl, (by decide)⟩, (by repeat (first | exact q_Fr.rf | refine q_Fr.ud ?_ (by omega) (by first | assumption | rfl) rfl | refine q_Fr.udz ?_ (by omega) (by first | assumption | decide | omega) | refine q_Fr.tr ?_ (by assumption) (by intro k9 hk9; omega)))⟩
theorem c138_0 : q_cat 138 0 (.iconst 0) 1 0 0 (0) := ⟨rfl, rfl⟩
theorem c138_1 : q_cat 138 1 (.istore_n 3) 1 3 0 (0) := ⟨rfl, rfl⟩
theorem c138_2 : q_cat 138 2 (.iload_n 3) 1 3 0 (0) := ⟨rfl, rfl⟩
theorem c138_3 : q_cat 138 3 (.iload_n 2) 1 2 0 (0) := ⟨rfl, rfl⟩
theorem c138_4 : q_cat 138 4 (.if_icmp .ge 18) 3 22 0 (0) := ⟨rfl, rfl⟩
theorem c138_7 : q_cat 138 7 (.aload_n 0) 1 0 0 (0) := ⟨rfl, rfl⟩
theorem c138_8 : q_cat 138 8 (.aload_n 1) 1 1 0 (0) := ⟨rfl, rfl⟩
theorem c138_9 : q_cat 138 9 (.iload_n 3) 1 3 0 (0) := ⟨rfl, rfl⟩
theorem c138_10 : q_cat 138 10 (.invokevirtual 154) 3 137 0 (0) := ⟨rfl, rfl⟩
theorem c138_13 : q_cat 138 13 (.ifCond .eq 9) 3 22 0 (0) := ⟨rfl, rfl⟩
theorem c138_16 : q_cat 138 16 (.iinc 3 1) 3 3 0 (0) := ⟨rfl, rfl⟩
theorem c138_19 : q_cat 138 19 (.goto (-17)) 3 2 0 (0) := ⟨rfl, rfl⟩
theorem c138_22 : q_cat 138 22 (.aload_n 0) 1 0 0 (0) := ⟨rfl, rfl⟩
theorem c138_23 : q_cat 138 23 (.getfield 27) 3 6 3 (3) := ⟨rfl, rfl⟩
theorem c138_26 : q_cat 138 26 (.iload_n 3) 1 3 0 (0) := ⟨rfl, rfl⟩
theorem c138_27 : q_cat 138 27 (.invokevirtual 158) 3 153 0 (0) := ⟨rfl, rfl⟩
theorem c138_30 : q_cat 138 30 (.iload_n 3) 1 3 0 (0) := ⟨rfl, rfl⟩
theorem c138_31 : q_cat 138 31 (.iload_n 2) 1 2 0 (0) := ⟨rfl, rfl⟩
theorem c138_32 : q_cat 138 32 (.if_icmp .ge 8) 3 40 0 (0) := ⟨rfl, rfl⟩
theorem c138_35 : q_cat 138 35 (.aload_n 0) 1 0 0 (0) := ⟨rfl, rfl⟩
theorem c138_36 : q_cat 138 36 (.iconst 3) 1 0 0 (0) := ⟨rfl, rfl⟩
theorem c138_37 : q_cat 138 37 (.invokevirtual 162) 3 142 0 (0) := ⟨rfl, rfl⟩
theorem c138_40 : q_cat 138 40 (.iload_n 3) 1 3 0 (0) := ⟨rfl, rfl⟩
theorem c138_41 : q_cat 138 41 (.ireturn) 1 0 0 (0) := ⟨rfl, rfl⟩
theorem l138_2 {Γ : q_Γ} (hG : q_GG Γ) {h0 : q_F} (hZ : q_Bz h0) {o0 : Nat} {v2 : Int} {u2 : Int} (ho0 : q_isT o0)
    (hx22 : ∀ {u3 : Int} {h : q_F}, q_Fr (fun k => o0 ≤ k ∧ k ≤ o0 + 8) h0 h → q_R Γ q_K 155 138 (fun t w h' => (t = 1 ∧ (∃ z, w = ((0, z) : q_V)) ∧ q_Fr (fun k => o0 ≤ k ∧ k ≤ o0 + 8) h0 h')) (22, [(3, (0, u3)), (0, (2, Int.ofNat o0)), (1, (2, Int.ofNat 125)), (2, (0, u2))], [], q_hp q_K 155 h, [], 0, 0))
    : ∀ (m : Nat) {u3 : Int} {h : q_F}, (-2147483648 ≤ u3 ∧ u3 < 2147483648) → q_Fr (fun k => o0 ≤ k ∧ k ≤ o0 + 8) h0 h → 2147483648 - u3 < (m : Int) → q_R Γ q_K 155 138 (fun t w h' => (t = 1 ∧ (∃ z, w = ((0, z) : q_V)) ∧ q_Fr (fun k => o0 ≤ k ∧ k ≤ o0 + 8) h0 h')) (2, [(3, (0, u3)), (0, (2, Int.ofNat o0)), (1, (2, Int.ofNat 125)), (2, (0, u2))], [], q_hp q_K 155 h, [], 0, 0)   := by
  obtain ⟨fo00, fo01, fo02, fo03, fo04, fo05, fo06, fo07, fo08, fo09, fo010⟩ := q_fT ho0
  intro m
  induction m with
  | zero =>
    intro u3 h hinv hf hmu
    exact absurd hmu (by omega)
  | succ m ih =>
    intro u3 h hinv hf hmu
    refine r_iload_n c138_2 rfl rfl ?_
    refine r_iload_n c138_3 rfl rfl ?_
    refine r_ic_ge c138_4 rfl (by first | exact q_w32_id (by omega) (by omega) | exact q_w32w _ | exact rfl) (by first | exact q_w32_id (by omega) (by omega) | exact q_w32w _ | exact rfl) ?_ ?_
    · intro b1
      refine q_R.wk (ks := [3, 0, 1, 2]) (lo' := [(3, _), (0, _), (1, _), (2, _)]) rfl ?_
      exact hx22 (by repeat (first | exact q_Fr.rf | refine q_Fr.ud ?_ (by omega) (by first | assumption | rfl) rfl | refine q_Fr.udz ?_ (by omega) (by first | assumption | decide | omega) | refine q_Fr.tr ?_ (by assumption) (by intro k9 hk9; omega)))
    · intro b1
      refine r_aload_n c138_7 rfl rfl ?_
      refine r_aload_n c138_8 rfl rfl ?_
      refine r_iload_n c138_9 rfl rfl ?_
      refine r_vcG c138_10 (by first | assumption | omega) (by decide) (by first | assumption | rfl) rfl rfl rfl (k137 hG (q_Fr.bz (S := fun k => o0 ≤ k ∧ k ≤ o0 + 8) hZ (by repeat (first | exact q_Fr.rf | refine q_Fr.ud ?_ (by omega) (by first | assumption | rfl) rfl | refine q_Fr.udz ?_ (by omega) (by first | assumption | decide | omega) | refine q_Fr.tr ?_ (by assumption) (by intro k9 hk9; omega)))) (by first | assumption | exact q_hC (by assumption) | exact q_h1 (by assumption) | exact q_h3 (by assumption) | exact q_h5 (by assumption) | exact q_hG (by assumption) | exact q_hP | exact q_hB1 | exact q_hB2 | exact q_hT6 | exact q_hT15 | exact q_hT24)) ?_
      intro t2 w2 g2 p2
      obtain ⟨rfl, ⟨z2, rfl, hz2⟩, e2⟩ := p2
      refine Or.inr (Or.inl ⟨rfl, ?_⟩)
      refine r_if_eq c138_13 rfl (by first | exact q_w32_id (by omega) (by omega) | exact q_w32w _ | exact rfl) ?_ ?_
      · intro b3
        refine q_R.wk (ks := [3, 0, 1, 2]) (lo' := [(3, _), (0, _), (1, _), (2, _)]) rfl ?_
        exact hx22 (by repeat (first | exact q_Fr.rf | refine q_Fr.ud ?_ (by omega) (by first | assumption | rfl) rfl | refine q_Fr.udz ?_ (by omega) (by first | assumption | decide | omega) | refine q_Fr.tr ?_ (by assumption) (by intro k9 hk9; omega)))
      · intro b3
        refine r_iinc c138_16 rfl (by first | exact q_w32_id (by omega) (by omega) | exact q_w32w _ | exact rfl) (lo' := [(3, _), (0, _), (1, _), (2, _)]) rfl rfl rfl ?_
        refine r_goto c138_19 ?_
        refine q_R.wk (ks := [3, 0, 1, 2]) (lo' := [(3, _), (0, _), (1, _), (2, _)]) rfl ?_
        exact ih (by first | omega | exact ⟨q_rg1 _, q_rg2 _⟩) (by repeat (first | exact q_Fr.rf | refine q_Fr.ud ?_ (by omega) (by first | assumption | rfl) rfl | refine q_Fr.udz ?_ (by omega) (by first | assumption | decide | omega) | refine q_Fr.tr ?_ (by assumption) (by intro k9 hk9; omega))) (by omega)

theorem k138 {Γ : q_Γ} (hG : q_GG Γ) {h : q_F} (hZ : q_Bz h) {o0 : Nat} {v2 : Int} (ho0 : q_isT o0) :
    q_M Γ q_K 155 138 [(2, Int.ofNat o0), (2, Int.ofNat 125), (0, v2)] h (fun t w h' => (t = 1 ∧ (∃ z, w = ((0, z) : q_V)) ∧ q_Fr (fun k => o0 ≤ k ∧ k ≤ o0 + 8) h h')) := by
  obtain ⟨fo00, fo01, fo02, fo03, fo04, fo05, fo06, fo07, fo08, fo09, fo010⟩ := q_fT ho0
  refine q_M.of (by decide) (Nat.le_of_ble_eq_true rfl) hG ?_
  refine r_iconst c138_0 rfl ?_
  refine r_istore_n c138_1 (lo' := [(3, _), (0, _), (1, _), (2, _)]) rfl rfl rfl ?_
  refine q_R.wk (ks := [3, 0, 1, 2]) (lo' := [(3, _), (0, _), (1, _), (2, _)]) rfl ?_
  refine l138_2 (o0 := o0) (v2 := v2) hG hZ ho0 ?_ 4294967298 (by first | omega | exact ⟨q_rg1 _, q_rg2 _⟩) (by repeat (first | exact q_Fr.rf | refine q_Fr.ud ?_ (by omega) (by first | assumption | rfl) rfl | refine q_Fr.udz ?_ (by omega) (by first | assumption | decide | omega) | refine q_Fr.tr ?_ (by assumption) (by intro k9 hk9; omega))) (q_mu (by first | omega | exact ⟨q_rg1 _, q_rg2 _⟩))
  · intro u3_1 g1 f1
    refine r_aload_n c138_22 rfl rfl ?_
    refine r_getr c138_23 (by first | assumption | omega) (by decide) (by first | assumption | rfl) rfl rfl ?_
    refine r_iload_n c138_26 rfl rfl ?_
    refine r_vcG c138_27 (by first | assumption | omega) (by decide) (by first | assumption | rfl) rfl rfl rfl (k153 hG (q_Fr.bz (S := fun k => o0 ≤ k ∧ k ≤ o0 + 8) hZ (by repeat (first | exact q_Fr.rf | refine q_Fr.ud ?_ (by omega) (by first | assumption | rfl) rfl | refine q_Fr.udz ?_ (by omega) (by first | assumption | decide | omega) | refine q_Fr.tr ?_ (by assumption) (by intro k9 hk9; omega)))) (by first | assumption | exact q_hC (by assumption) | exact q_h1 (by assumption) | exact q_h3 (by assumption) | exact q_h5 (by assumption) | exact q_hG (by assumption) | exact q_hP | exact q_hB1 | exact q_hB2 | exact q_hT6 | exact q_hT15 | exact q_hT24)) ?_
    intro t2 w2 g2 p2
    obtain ⟨rfl, e2⟩ := p2
    refine Or.inl ⟨rfl, ?_⟩
    refine r_iload_n c138_30 rfl rfl ?_
    refine r_iload_n c138_31 rfl rfl ?_
    refine r_ic_ge c138_32 rfl (by first | exact q_w32_id (by omega) (by omega) | exact q_w32w _ | exact rfl) (by first | exact q_w32_id (by omega) (by omega) | exact q_w32w _ | exact rfl) ?_ ?_
    · intro b3
      refine r_iload_n c138_40 rfl rfl ?_
      exact r_iret c138_41 ⟨rfl, rfl, rfl⟩ ⟨rfl, ⟨_, rfl⟩, (by repeat (first | exact q_Fr.rf | refine q_Fr.ud ?_ (by omega) (by first | assumption | rfl) rfl | refine q_Fr.udz ?_ (by omega) (by first | assumption | decide | omega) | refine q_Fr.tr ?_ (by assumption) (by intro k9 hk9; omega)))⟩
    · intro b3
      refine r_aload_n c138_35 rfl rfl ?_
      refine r_iconst c138_36 rfl ?_
      refine r_vcG c138_37 (by first | assumption | omega) (by decide) (by first | assumption | rfl) rfl rfl rfl (k142 hG (q_Fr.bz (S := fun k => o0 ≤ k ∧ k ≤ o0 + 8) hZ (by repeat (first | exact q_Fr.rf | refine q_Fr.ud ?_ (by omega) (by first | assumption | rfl) rfl | refine q_Fr.udz ?_ (by omega) (by first | assumption | decide | omega) | refine q_Fr.tr ?_ (by assumption) (by intro k9 hk9; omega)))) (by first | assumption | exact q_hC (by assumption) | exact q_h1 (by assumption) | exact q_h3 (by assumption) | exact q_h5 (by assumption) | exact q_hG (by assumption) | exact q_hP | exact q_hB1 | exact q_hB2 | exact q_hT6 | exact q_hT15 | exact q_hT24)) ?_
      intro t4 w4 g4 p4
      obtain ⟨rfl, e4⟩ := p4
      refine Or.inl ⟨rfl, ?_⟩
      refine r_iload_n c138_40 rfl rfl ?_
      exact r_iret c138_41 ⟨rfl, rfl, rfl⟩ ⟨rfl, ⟨_, rfl⟩, (by repeat (first | exact q_Fr.rf | refine q_Fr.ud ?_ (by omega) (by first | assumption | rfl) rfl | refine q_Fr.udz ?_ (by omega) (by first | assumption | decide | omega) | refine q_Fr.tr ?_ (by assumption) (by intro k9 hk9; omega)))⟩
theorem c65_0 : q_cat 65 0 (.aload_n 0) 1 0 0 (0) := ⟨rfl, rfl⟩
theorem c65_1 : q_cat 65 1 (.iconst 0) 1 0 0 (0) := ⟨rfl, rfl⟩
theorem c65_2 : q_cat 65 2 (.putfield 18) 3 3 1 (0) := ⟨rfl, rfl⟩
theorem c65_5 : q_cat 65 5 (.return_) 1 0 0 (0) := ⟨rfl, rfl⟩
theorem k65 {Γ : q_Γ} (hG : q_GG Γ) {h : q_F} (hZ : q_Bz h)   :
    q_M Γ q_K 155 65 [(2, Int.ofNat 33)] h (fun t w h' => (t = 0 ∧ q_Fr (fun k => k = 33) h h')) := by
  refine q_M.of (by decide) (Nat.le_of_ble_eq_true rfl) hG ?_
  refine r_aload_n c65_0 rfl rfl ?_
  refine r_iconst c65_1 rfl ?_
  refine r_puti c65_2 (by first | assumption | omega) (by decide) (by first | assumption | rfl) rfl rfl rfl ?_
  exact r_vret c65_5 ⟨rfl, rfl, rfl⟩ ⟨rfl, (by repeat (first | exact q_Fr.rf | refine q_Fr.ud ?_ (by omega) (by first | assumption | rfl) rfl | refine q_Fr.udz ?_ (by omega) (by first | assumption | decide | omega) | refine q_Fr.tr ?_ (by assumption) (by intro k9 hk9; omega)))⟩
theorem c68_0 : q_cat 68 0 (.iload_n 1) 1 1 0 (0) := ⟨rfl, rfl⟩
theorem c68_1 : q_cat 68 1 (.ifCond .lt 21) 3 22 0 (0) := ⟨rfl, rfl⟩
theorem c68_4 : q_cat 68 4 (.iload_n 1) 1 1 0 (0) := ⟨rfl, rfl⟩
theorem c68_5 : q_cat 68 5 (.aload_n 0) 1 0 0 (0) := ⟨rfl, rfl⟩
theorem c68_6 : q_cat 68 6 (.getfield 11) 3 3 0 (3) := ⟨rfl, rfl⟩
theorem c68_9 : q_cat 68 9 (.arraylength) 1 0 0 (0) := ⟨rfl, rfl⟩
theorem c68_10 : q_cat 68 10 (.if_icmp .ge 12) 3 22 0 (0) := ⟨rfl, rfl⟩
theorem c68_13 : q_cat 68 13 (.aload_n 0) 1 0 0 (0) := ⟨rfl, rfl⟩
theorem c68_14 : q_cat 68 14 (.getfield 11) 3 3 0 (3) := ⟨rfl, rfl⟩
theorem c68_17 : q_cat 68 17 (.iload_n 1) 1 1 0 (0) := ⟨rfl, rfl⟩
theorem c68_18 : q_cat 68 18 (.aaload) 1 0 0 (0) := ⟨rfl, rfl⟩
theorem c68_19 : q_cat 68 19 (.goto 4) 3 23 0 (0) := ⟨rfl, rfl⟩
theorem c68_22 : q_cat 68 22 (.aconst_null) 1 0 0 (0) := ⟨rfl, rfl⟩
theorem c68_23 : q_cat 68 23 (.areturn) 1 0 0 (0) := ⟨rfl, rfl⟩
theorem k68 {Γ : q_Γ} (hG : q_GG Γ) {h : q_F} (hZ : q_Bz h) {v1 : Int}  :
    q_M Γ q_K 155 68 [(2, Int.ofNat 33), (0, v1)] h (fun t w h' => (t = 1 ∧ ((∃ r, w = ((2, Int.ofNat r) : q_V) ∧ q_isT r ∧ 35 ≤ r) ∨ w = ((3, 0) : q_V)) ∧ h' = h)) := by
  refine q_M.of (by decide) (Nat.le_of_ble_eq_true rfl) hG ?_
  refine r_iload_n c68_0 rfl rfl ?_
  refine r_if_lt c68_1 rfl (by first | exact q_w32_id (by omega) (by omega) | exact q_w32w _ | exact rfl) ?_ ?_
  · intro b1
    refine r_anull c68_22 rfl ?_
    exact r_aretN c68_23 ⟨rfl, rfl, rfl⟩ ⟨rfl, (Or.inr rfl), rfl⟩
  · intro b1
    refine r_iload_n c68_4 rfl rfl ?_
    refine r_aload_n c68_5 rfl rfl ?_
    refine r_getr c68_6 (by first | assumption | omega) (by decide) (by first | assumption | rfl) rfl rfl ?_
    refine r_alen c68_9 (by first | assumption | omega) (by decide) (by first | assumption | rfl) (by decide) rfl ?_
    refine r_ic_ge c68_10 rfl (by first | exact q_w32_id (by omega) (by omega) | exact q_w32w _ | exact rfl) (by first | exact q_w32_id (by omega) (by omega) | exact q_w32w _ | exact rfl) ?_ ?_
    · intro b2
      refine r_anull c68_22 rfl ?_
      exact r_aretN c68_23 ⟨rfl, rfl, rfl⟩ ⟨rfl, (Or.inr rfl), rfl⟩
    · intro b2
      refine r_aload_n c68_13 rfl rfl ?_
      refine r_getr c68_14 (by first | assumption | omega) (by decide) (by first | assumption | rfl) rfl rfl ?_
      refine r_iload_n c68_17 rfl rfl ?_
      obtain ⟨r3, hr3, ha3, hk3⟩ := q_ring (z := q_w32 v1) (by omega) (by omega)
      refine r_aald c68_18 (by omega) (by decide) rfl (by decide) rfl (by omega) (by omega) hr3 rfl ?_
      refine r_goto c68_19 ?_
      exact r_aret c68_23 ⟨rfl, rfl, rfl⟩ ⟨rfl, (Or.inl ⟨_, rfl, by assumption, by omega⟩), rfl⟩
theorem c67_0 : q_cat 67 0 (.aload_n 0) 1 0 0 (0) := ⟨rfl, rfl⟩
theorem c67_1 : q_cat 67 1 (.aload_n 0) 1 0 0 (0) := ⟨rfl, rfl⟩
theorem c67_2 : q_cat 67 2 (.getfield 22) 3 3 2 (0) := ⟨rfl, rfl⟩
theorem c67_5 : q_cat 67 5 (.invokevirtual 25) 3 68 0 (0) := ⟨rfl, rfl⟩
theorem c67_8 : q_cat 67 8 (.astore_n 2) 1 2 0 (0) := ⟨rfl, rfl⟩
theorem c67_9 : q_cat 67 9 (.aload_n 2) 1 2 0 (0) := ⟨rfl, rfl⟩
theorem c67_10 : q_cat 67 10 (.ifnull 36) 3 46 0 (0) := ⟨rfl, rfl⟩
theorem c67_13 : q_cat 67 13 (.aload_n 2) 1 2 0 (0) := ⟨rfl, rfl⟩
theorem c67_14 : q_cat 67 14 (.aload_n 1) 1 1 0 (0) := ⟨rfl, rfl⟩
theorem c67_15 : q_cat 67 15 (.invokevirtual 29) 3 127 0 (0) := ⟨rfl, rfl⟩
theorem c67_18 : q_cat 67 18 (.aload_n 0) 1 0 0 (0) := ⟨rfl, rfl⟩
theorem c67_19 : q_cat 67 19 (.aload_n 0) 1 0 0 (0) := ⟨rfl, rfl⟩
theorem c67_20 : q_cat 67 20 (.getfield 22) 3 3 2 (0) := ⟨rfl, rfl⟩
theorem c67_23 : q_cat 67 23 (.iconst 1) 1 0 0 (0) := ⟨rfl, rfl⟩
theorem c67_24 : q_cat 67 24 (.iadd) 1 0 0 (0) := ⟨rfl, rfl⟩
theorem c67_25 : q_cat 67 25 (.bipush 10) 2 0 0 (0) := ⟨rfl, rfl⟩
theorem c67_27 : q_cat 67 27 (.irem) 1 0 0 (0) := ⟨rfl, rfl⟩
theorem c67_28 : q_cat 67 28 (.putfield 22) 3 3 2 (0) := ⟨rfl, rfl⟩
theorem c67_31 : q_cat 67 31 (.aload_n 0) 1 0 0 (0) := ⟨rfl, rfl⟩
theorem c67_32 : q_cat 67 32 (.aload_n 0) 1 0 0 (0) := ⟨rfl, rfl⟩
theorem c67_33 : q_cat 67 33 (.getfield 18) 3 3 1 (0) := ⟨rfl, rfl⟩
theorem c67_36 : q_cat 67 36 (.iconst 1) 1 0 0 (0) := ⟨rfl, rfl⟩
theorem c67_37 : q_cat 67 37 (.iadd) 1 0 0 (0) := ⟨rfl, rfl⟩
theorem c67_38 : q_cat 67 38 (.bipush 10) 2 0 0 (0) := ⟨rfl, rfl⟩
theorem c67_40 : q_cat 67 40 (.invokestatic 33) 3 0 7 (0) := ⟨rfl, rfl⟩
theorem c67_43 : q_cat 67 43 (.putfield 18) 3 3 1 (0) := ⟨rfl, rfl⟩
theorem c67_46 : q_cat 67 46 (.return_) 1 0 0 (0) := ⟨rfl, rfl⟩
theorem k67 {Γ : q_Γ} (hG : q_GG Γ) {h : q_F} (hZ : q_Bz h) {o1 : Nat} (ho1 : q_isT o1) :
    q_M Γ q_K 155 67 [(2, Int.ofNat 33), (2, Int.ofNat o1)] h (fun t w h' => (t = 0 ∧ q_Fr (fun k => 33 ≤ k ∧ k ≤ 124) h h')) := by
  obtain ⟨fo10, fo11, fo12, fo13, fo14, fo15, fo16, fo17, fo18, fo19, fo110⟩ := q_fT ho1
  refine q_M.of (by decide) (Nat.le_of_ble_eq_true rfl) hG ?_
  refine r_aload_n c67_0 rfl rfl ?_
  refine r_aload_n c67_1 rfl rfl ?_
  refine r_geti c67_2 (by first | assumption | omega) (by decide) (by first | assumption | rfl) rfl rfl ?_
  refine r_vcG c67_5 (by first | assumption | omega) (by decide) (by first | assumption | rfl) rfl rfl rfl (k68 hG (q_Fr.bz (S := fun k => 33 ≤ k ∧ k ≤ 124) hZ (by repeat (first | exact q_Fr.rf | refine q_Fr.ud ?_ (by omega) (by first | assumption | rfl) rfl | refine q_Fr.udz ?_ (by omega) (by first | assumption | decide | omega) | refine q_Fr.tr ?_ (by assumption) (by intro k9 hk9; omega))))) ?_
  intro t1 w1 g1 p1
  rcases p1 with ⟨rfl, (⟨r1, rfl, ha1, hr1⟩ | rfl), rfl⟩
  · skip
    obtain ⟨fr10, fr11, fr12, fr13, fr14, fr15, fr16, fr17, fr18, fr19, fr110⟩ := q_fT ha1
    refine Or.inr (Or.inl ⟨rfl, ?_⟩)
    refine r_astore_n c67_8 (lo' := [(2, _), (0, _), (1, _)]) rfl rfl rfl ?_
    refine r_aload_n c67_9 rfl rfl ?_
    refine r_ifnn c67_10 rfl ?_
    refine r_aload_n c67_13 rfl rfl ?_
    refine r_aload_n c67_14 rfl rfl ?_
    refine r_vcG c67_15 (by first | assumption | omega) (by decide) (by first | assumption | rfl) rfl rfl rfl (k127 hG (q_Fr.bz (S := fun k => 33 ≤ k ∧ k ≤ 124) hZ (by repeat (first | exact q_Fr.rf | refine q_Fr.ud ?_ (by omega) (by first | assumption | rfl) rfl | refine q_Fr.udz ?_ (by omega) (by first | assumption | decide | omega) | refine q_Fr.tr ?_ (by assumption) (by intro k9 hk9; omega)))) (by first | assumption | exact q_hC (by assumption) | exact q_h1 (by assumption) | exact q_h3 (by assumption) | exact q_h5 (by assumption) | exact q_hG (by assumption) | exact q_hP | exact q_hB1 | exact q_hB2 | exact q_hT6 | exact q_hT15 | exact q_hT24) (by first | assumption | exact q_hC (by assumption) | exact q_h1 (by assumption) | exact q_h3 (by assumption) | exact q_h5 (by assumption) | exact q_hG (by assumption) | exact q_hP | exact q_hB1 | exact q_hB2 | exact q_hT6 | exact q_hT15 | exact q_hT24)) ?_
    intro t2 w2 g2 p2
    obtain ⟨rfl, e2⟩ := p2
    refine Or.inl ⟨rfl, ?_⟩
    refine r_aload_n c67_18 rfl rfl ?_
    refine r_aload_n c67_19 rfl rfl ?_
    refine r_geti c67_20 (by first | assumption | omega) (by decide) (by first | assumption | rfl) rfl rfl ?_
    refine r_iconst c67_23 rfl ?_
    refine r_iadd c67_24 (by first | exact q_w32_id (by omega) (by omega) | exact q_w32w _ | exact rfl) rfl ?_
    refine r_bipush c67_25 rfl ?_
    refine r_irem c67_27 (by decide) rfl rfl ?_
    refine r_puti c67_28 (by first | assumption | omega) (by decide) (by first | assumption | rfl) rfl rfl rfl ?_
    refine r_aload_n c67_31 rfl rfl ?_
    refine r_aload_n c67_32 rfl rfl ?_
    refine r_geti c67_33 (by first | assumption | omega) (by decide) (by first | assumption | rfl) rfl rfl ?_
    refine r_iconst c67_36 rfl ?_
    refine r_iadd c67_37 (by first | exact q_w32_id (by omega) (by omega) | exact q_w32w _ | exact rfl) rfl ?_
    refine r_bipush c67_38 rfl ?_
    refine r_min c67_40 rfl rfl ?_
    refine r_puti c67_43 (by first | assumption | omega) (by decide) (by first | assumption | rfl) rfl rfl rfl ?_
    exact r_vret c67_46 ⟨rfl, rfl, rfl⟩ ⟨rfl, (by repeat (first | exact q_Fr.rf | refine q_Fr.ud ?_ (by omega) (by first | assumption | rfl) rfl | refine q_Fr.udz ?_ (by omega) (by first | assumption | decide | omega) | refine q_Fr.tr ?_ (by assumption) (by intro k9 hk9; omega)))⟩
  · skip
    refine Or.inr (Or.inl ⟨rfl, ?_⟩)
    refine r_astore3_n c67_8 (lo' := [(2, _), (0, _), (1, _)]) rfl rfl rfl ?_
    refine r_aload3_n c67_9 rfl rfl ?_
    refine r_ifn0 c67_10 ?_
    exact r_vret c67_46 ⟨rfl, rfl, rfl⟩ ⟨rfl, (by repeat (first | exact q_Fr.rf | refine q_Fr.ud ?_ (by omega) (by first | assumption | rfl) rfl | refine q_Fr.udz ?_ (by omega) (by first | assumption | decide | omega) | refine q_Fr.tr ?_ (by assumption) (by intro k9 hk9; omega)))⟩
theorem c69_0 : q_cat 69 0 (.aload_n 0) 1 0 0 (0) := ⟨rfl, rfl⟩
theorem c69_1 : q_cat 69 1 (.getfield 22) 3 3 2 (0) := ⟨rfl, rfl⟩
theorem c69_4 : q_cat 69 4 (.bipush 10) 2 0 0 (0) := ⟨rfl, rfl⟩
theorem c69_6 : q_cat 69 6 (.iadd) 1 0 0 (0) := ⟨rfl, rfl⟩
theorem c69_7 : q_cat 69 7 (.iconst 1) 1 0 0 (0) := ⟨rfl, rfl⟩
theorem c69_8 : q_cat 69 8 (.isub) 1 0 0 (0) := ⟨rfl, rfl⟩
theorem c69_9 : q_cat 69 9 (.bipush 10) 2 0 0 (0) := ⟨rfl, rfl⟩
theorem c69_11 : q_cat 69 11 (.irem) 1 0 0 (0) := ⟨rfl, rfl⟩
theorem c69_12 : q_cat 69 12 (.istore_n 2) 1 2 0 (0) := ⟨rfl, rfl⟩
theorem c69_13 : q_cat 69 13 (.aload_n 0) 1 0 0 (0) := ⟨rfl, rfl⟩
theorem c69_14 : q_cat 69 14 (.iload_n 2) 1 2 0 (0) := ⟨rfl, rfl⟩
theorem c69_15 : q_cat 69 15 (.invokevirtual 25) 3 68 0 (0) := ⟨rfl, rfl⟩
theorem c69_18 : q_cat 69 18 (.astore_n 3) 1 3 0 (0) := ⟨rfl, rfl⟩
theorem c69_19 : q_cat 69 19 (.aload_n 3) 1 3 0 (0) := ⟨rfl, rfl⟩
theorem c69_20 : q_cat 69 20 (.ifnull 30) 3 50 0 (0) := ⟨rfl, rfl⟩
theorem c69_23 : q_cat 69 23 (.aload_n 0) 1 0 0 (0) := ⟨rfl, rfl⟩
theorem c69_24 : q_cat 69 24 (.getfield 18) 3 3 1 (0) := ⟨rfl, rfl⟩
theorem c69_27 : q_cat 69 27 (.ifCond .le 23) 3 50 0 (0) := ⟨rfl, rfl⟩
theorem c69_30 : q_cat 69 30 (.aload_n 1) 1 1 0 (0) := ⟨rfl, rfl⟩
theorem c69_31 : q_cat 69 31 (.aload_n 3) 1 3 0 (0) := ⟨rfl, rfl⟩
theorem c69_32 : q_cat 69 32 (.invokevirtual 29) 3 127 0 (0) := ⟨rfl, rfl⟩
theorem c69_35 : q_cat 69 35 (.aload_n 0) 1 0 0 (0) := ⟨rfl, rfl⟩
theorem c69_36 : q_cat 69 36 (.iload_n 2) 1 2 0 (0) := ⟨rfl, rfl⟩
theorem c69_37 : q_cat 69 37 (.putfield 22) 3 3 2 (0) := ⟨rfl, rfl⟩
theorem c69_40 : q_cat 69 40 (.aload_n 0) 1 0 0 (0) := ⟨rfl, rfl⟩
theorem c69_41 : q_cat 69 41 (.dup) 1 0 0 (0) := ⟨rfl, rfl⟩
theorem c69_42 : q_cat 69 42 (.getfield 18) 3 3 1 (0) := ⟨rfl, rfl⟩
theorem c69_45 : q_cat 69 45 (.iconst 1) 1 0 0 (0) := ⟨rfl, rfl⟩
theorem c69_46 : q_cat 69 46 (.isub) 1 0 0 (0) := ⟨rfl, rfl⟩
theorem c69_47 : q_cat 69 47 (.putfield 18) 3 3 1 (0) := ⟨rfl, rfl⟩
theorem c69_50 : q_cat 69 50 (.return_) 1 0 0 (0) := ⟨rfl, rfl⟩
theorem k69 {Γ : q_Γ} (hG : q_GG Γ) {h : q_F} (hZ : q_Bz h) {o1 : Nat} (ho1 : q_isT o1) :
    q_M Γ q_K 155 69 [(2, Int.ofNat 33), (2, Int.ofNat o1)] h (fun t w h' => (t = 0 ∧ q_Fr (fun k => k = 33 ∨ (o1 ≤ k ∧ k ≤ o1 + 8)) h h')) := by
  obtain ⟨fo10, fo11, fo12, fo13, fo14, fo15, fo16, fo17, fo18, fo19, fo110⟩ := q_fT ho1
  refine q_M.of (by decide) (Nat.le_of_ble_eq_true rfl) hG ?_
  refine r_aload_n c69_0 rfl rfl ?_
  refine r_geti c69_1 (by first | assumption | omega) (by decide) (by first | assumption | rfl) rfl rfl ?_
  refine r_bipush c69_4 rfl ?_
  refine r_iadd c69_6 (by first | exact q_w32_id (by omega) (by omega) | exact q_w32w _ | exact rfl) rfl ?_
  refine r_iconst c69_7 rfl ?_
  refine r_isub c69_8 (by first | exact q_w32_id (by omega) (by omega) | exact q_w32w _ | exact rfl) rfl ?_
  refine r_bipush c69_9 rfl ?_
  refine r_irem c69_11 (by decide) rfl rfl ?_
  refine r_istore_n c69_12 (lo' := [(2, _), (0, _), (1, _)]) rfl rfl rfl ?_
  refine r_aload_n c69_13 rfl rfl ?_
  refine r_iload_n c69_14 rfl rfl ?_
  refine r_vcG c69_15 (by first | assumption | omega) (by decide) (by first | assumption | rfl) rfl rfl rfl (k68 hG (q_Fr.bz (S := fun k => k = 33 ∨ (o1 ≤ k ∧ k ≤ o1 + 8)) hZ (by repeat (first | exact q_Fr.rf | refine q_Fr.ud ?_ (by omega) (by first | assumption | rfl) rfl | refine q_Fr.udz ?_ (by omega) (by first | assumption | decide | omega) | refine q_Fr.tr ?_ (by assumption) (by intro k9 hk9; omega))))) ?_
  intro t1 w1 g1 p1
  rcases p1 with ⟨rfl, (⟨r1, rfl, ha1, hr1⟩ | rfl), rfl⟩
  · skip
    obtain ⟨fr10, fr11, fr12, fr13, fr14, fr15, fr16, fr17, fr18, fr19, fr110⟩ := q_fT ha1
    refine Or.inr (Or.inl ⟨rfl, ?_⟩)
    refine r_astore_n c69_18 (lo' := [(3, _), (2, _), (0, _), (1, _)]) rfl rfl rfl ?_
    refine r_aload_n c69_19 rfl rfl ?_
    refine r_ifnn c69_20 rfl ?_
    refine r_aload_n c69_23 rfl rfl ?_
    refine r_geti c69_24 (by first | assumption | omega) (by decide) (by first | assumption | rfl) rfl rfl ?_
    refine r_if_le c69_27 rfl (by first | exact q_w32_id (by omega) (by omega) | exact q_w32w _ | exact rfl) ?_ ?_
    · intro b2
      exact r_vret c69_50 ⟨rfl, rfl, rfl⟩ ⟨rfl, (by repeat (first | exact q_Fr.rf | refine q_Fr.ud ?_ (by omega) (by first | assumption | rfl) rfl | refine q_Fr.udz ?_ (by omega) (by first | assumption | decide | omega) | refine q_Fr.tr ?_ (by assumption) (by intro k9 hk9; omega)))⟩
    · intro b2
      refine r_aload_n c69_30 rfl rfl ?_
      refine r_aload_n c69_31 rfl rfl ?_
      refine r_vcG c69_32 (by first | assumption | omega) (by decide) (by first | assumption | rfl) rfl rfl rfl (k127 hG (q_Fr.bz (S := fun k => k = 33 ∨ (o1 ≤ k ∧ k ≤ o1 + 8)) hZ (by repeat (first | exact q_Fr.rf | refine q_Fr.ud ?_ (by omega) (by first | assumption | rfl) rfl | refine q_Fr.udz ?_ (by omega) (by first | assumption | decide | omega) | refine q_Fr.tr ?_ (by assumption) (by intro k9 hk9; omega)))) (by first | assumption | exact q_hC (by assumption) | exact q_h1 (by assumption) | exact q_h3 (by assumption) | exact q_h5 (by assumption) | exact q_hG (by assumption) | exact q_hP | exact q_hB1 | exact q_hB2 | exact q_hT6 | exact q_hT15 | exact q_hT24) (by first | assumption | exact q_hC (by assumption) | exact q_h1 (by assumption) | exact q_h3 (by assumption) | exact q_h5 (by assumption) | exact q_hG (by assumption) | exact q_hP | exact q_hB1 | exact q_hB2 | exact q_hT6 | exact q_hT15 | exact q_hT24)) ?_
      intro t3 w3 g3 p3
      obtain ⟨rfl, e3⟩ := p3
      refine Or.inl ⟨rfl, ?_⟩
      refine r_aload_n c69_35 rfl rfl ?_
      refine r_iload_n c69_36 rfl rfl ?_
      refine r_puti c69_37 (by first | assumption | omega) (by decide) (by first | assumption | rfl) rfl rfl rfl ?_
      refine r_aload_n c69_40 rfl rfl ?_
      refine r_dup c69_41 rfl rfl ?_
      refine r_geti c69_42 (by first | assumption | omega) (by decide) (by first | assumption | rfl) rfl rfl ?_
      refine r_iconst c69_45 rfl ?_
      refine r_isub c69_46 (by first | exact q_w32_id (by omega) (by omega) | exact q_w32w _ | exact rfl) rfl ?_
      refine r_puti c69_47 (by first | assumption | omega) (by decide) (by first | assumption | rfl) rfl rfl rfl ?_
      exact r_vret c69_50 ⟨rfl, rfl, rfl⟩ ⟨rfl, (by repeat (first | exact q_Fr.rf | refine q_Fr.ud ?_ (by omega) (by first | assumption | rfl) rfl | refine q_Fr.udz ?_ (by omega) (by first | assumption | decide | omega) | refine q_Fr.tr ?_ (by assumption) (by intro k9 hk9; omega)))⟩
  · skip
    refine Or.inr (Or.inl ⟨rfl, ?_⟩)
    refine r_astore3_n c69_18 (lo' := [(3, _), (2, _), (0, _), (1, _)]) rfl rfl rfl ?_
    refine r_aload3_n c69_19 rfl rfl ?_
    refine r_ifn0 c69_20 ?_
    exact r_vret c69_50 ⟨rfl, rfl, rfl⟩ ⟨rfl, (by repeat (first | exact q_Fr.rf | refine q_Fr.ud ?_ (by omega) (by first | assumption | rfl) rfl | refine q_Fr.udz ?_ (by omega) (by first | assumption | decide | omega) | refine q_Fr.tr ?_ (by assumption) (by intro k9 hk9; omega)))⟩
