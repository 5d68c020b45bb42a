/-! Part 28.face: the class over any heap, gone on with. Printed by wip/tools/genk.py. -/
theorem c162_0 : q_cat 162 0 (.iload_n 1) 1 1 0 (0) := ⟨rfl, rfl⟩
theorem c162_1 : q_cat 162 1 (.ifCond .lt 8) 3 9 0 (0) := ⟨rfl, rfl⟩
theorem c162_4 : q_cat 162 4 (.iload_n 1) 1 1 0 (0) := ⟨rfl, rfl⟩
theorem c162_5 : q_cat 162 5 (.iconst 3) 1 0 0 (0) := ⟨rfl, rfl⟩
theorem c162_6 : q_cat 162 6 (.if_icmp .lt 14) 3 20 0 (0) := ⟨rfl, rfl⟩
theorem c162_9 : q_cat 162 9 (.new 409) 3 1 414 (411) := ⟨rfl, rfl⟩
theorem c162_12 : q_cat 162 12 (.dup) 1 0 0 (0) := ⟨rfl, rfl⟩
theorem c162_13 : q_cat 162 13 (.ldc_w 411) 3 0 0 (0) := ⟨rfl, rfl⟩
theorem c162_20 : q_cat 162 20 (.return_) 1 0 0 (0) := ⟨rfl, rfl⟩
theorem k162 {Γ : q_Γ} (hG : q_GG Γ) {h : q_F} (hZ : q_Bz h) {v1 : Int}  :
    q_M Γ q_K 155 162 [(2, Int.ofNat 0), (0, v1)] h (fun t w h' => (t = 0 ∧ h' = h) ∨ (t = 3 ∧ h' = h)) := by
  have hT6 := q_hT6
  obtain ⟨fT6_0, fT6_1, fT6_2, fT6_3, fT6_4, fT6_5, fT6_6, fT6_7, fT6_8, fT6_9, fT6_10⟩ := q_fT hT6
  have hT15 := q_hT15
  obtain ⟨fT15_0, fT15_1, fT15_2, fT15_3, fT15_4, fT15_5, fT15_6, fT15_7, fT15_8, fT15_9, fT15_10⟩ := q_fT hT15
  have hT24 := q_hT24
  obtain ⟨fT24_0, fT24_1, fT24_2, fT24_3, fT24_4, fT24_5, fT24_6, fT24_7, fT24_8, fT24_9, fT24_10⟩ := q_fT hT24
  obtain ⟨gP0, gP1, gP2, gP3⟩ := q_fG q_hP
  refine q_M.of (by decide) (Nat.le_of_ble_eq_true rfl) hG ?_
  refine r_iload_n c162_0 rfl rfl ?_
  refine r_if_lt c162_1 rfl (by first | exact q_w32_id (by omega) (by omega) | exact q_w32w _ | exact rfl) ?_ ?_
  · intro b1
    exact r_thr (y := 413) c162_9 rfl (Or.inr (⟨rfl, rfl⟩))
  · intro b1
    refine r_iload_n c162_4 rfl rfl ?_
    refine r_iconst c162_5 rfl ?_
    refine r_ic_lt c162_6 rfl (by first | exact q_w32_id (by omega) (by omega) | exact q_w32w _ | exact rfl) (show q_w32 (3) = 3 from rfl) ?_ ?_
    · intro b2
      exact r_vret c162_20 ⟨rfl, rfl, rfl⟩ (Or.inl ⟨rfl, rfl⟩)
    · intro b2
      exact r_thr (y := 413) c162_9 rfl (Or.inr (⟨rfl, rfl⟩))
theorem c164_0 : q_cat 164 0 (.iload_n 1) 1 1 0 (0) := ⟨rfl, rfl⟩
theorem c164_1 : q_cat 164 1 (.ifCond .lt 17) 3 18 0 (0) := ⟨rfl, rfl⟩
theorem c164_4 : q_cat 164 4 (.iload_n 1) 1 1 0 (0) := ⟨rfl, rfl⟩
theorem c164_5 : q_cat 164 5 (.aload_n 0) 1 0 0 (0) := ⟨rfl, rfl⟩
theorem c164_6 : q_cat 164 6 (.getfield 26) 3 8 2 (3) := ⟨rfl, rfl⟩
theorem c164_9 : q_cat 164 9 (.getfield 114) 3 6 3 (3) := ⟨rfl, rfl⟩
theorem c164_12 : q_cat 164 12 (.getfield 117) 3 7 1 (0) := ⟨rfl, rfl⟩
theorem c164_15 : q_cat 164 15 (.if_icmp .lt 14) 3 29 0 (0) := ⟨rfl, rfl⟩
theorem c164_18 : q_cat 164 18 (.new 409) 3 1 414 (414) := ⟨rfl, rfl⟩
theorem c164_21 : q_cat 164 21 (.dup) 1 0 0 (0) := ⟨rfl, rfl⟩
theorem c164_22 : q_cat 164 22 (.ldc_w 414) 3 0 0 (0) := ⟨rfl, rfl⟩
theorem c164_29 : q_cat 164 29 (.return_) 1 0 0 (0) := ⟨rfl, rfl⟩
theorem k164 {Γ : q_Γ} (hG : q_GG Γ) {h : q_F} (hZ : q_Bz h) {v1 : Int}  :
    q_M Γ q_K 155 164 [(2, Int.ofNat 0), (0, v1)] h (fun t w h' => (t = 0 ∧ h' = h) ∨ (t = 3 ∧ h' = h)) := by
  have hT6 := q_hT6
  obtain ⟨fT6_0, fT6_1, fT6_2, fT6_3, fT6_4, fT6_5, fT6_6, fT6_7, fT6_8, fT6_9, fT6_10⟩ := q_fT hT6
  have hT15 := q_hT15
  obtain ⟨fT15_0, fT15_1, fT15_2, fT15_3, fT15_4, fT15_5, fT15_6, fT15_7, fT15_8, fT15_9, fT15_10⟩ := q_fT hT15
  have hT24 := q_hT24
  obtain ⟨fT24_0, fT24_1, fT24_2, fT24_3, fT24_4, fT24_5, fT24_6, fT24_7, fT24_8, fT24_9, fT24_10⟩ := q_fT hT24
  obtain ⟨gP0, gP1, gP2, gP3⟩ := q_fG q_hP
  refine q_M.of (by decide) (Nat.le_of_ble_eq_true rfl) hG ?_
  refine r_iload_n c164_0 rfl rfl ?_
  refine r_if_lt c164_1 rfl (by first | exact q_w32_id (by omega) (by omega) | exact q_w32w _ | exact rfl) ?_ ?_
  · intro b1
    exact r_thr (y := 413) c164_18 rfl (Or.inr (⟨rfl, rfl⟩))
  · intro b1
    refine r_iload_n c164_4 rfl rfl ?_
    refine r_aload_n c164_5 rfl rfl ?_
    refine r_getr c164_6 (by first | assumption | omega) (by decide) (by first | assumption | rfl) rfl rfl ?_
    refine r_getr c164_9 (by first | assumption | omega) (by decide) (by first | assumption | rfl) rfl rfl ?_
    refine r_geti c164_12 (by first | assumption | omega) (by decide) (by first | assumption | rfl) rfl rfl ?_
    refine r_ic_lt c164_15 rfl (by first | exact q_w32_id (by omega) (by omega) | exact q_w32w _ | exact rfl) (by first | exact q_w32_id (by omega) (by omega) | exact q_w32w _ | exact rfl) ?_ ?_
    · intro b2
      exact r_vret c164_29 ⟨rfl, rfl, rfl⟩ (Or.inl ⟨rfl, rfl⟩)
    · intro b2
      exact r_thr (y := 413) c164_18 rfl (Or.inr (⟨rfl, rfl⟩))
theorem c163_0 : q_cat 163 0 (.aload_n 0) 1 0 0 (0) := ⟨rfl, rfl⟩
theorem c163_1 : q_cat 163 1 (.getfield 26) 3 8 2 (3) := ⟨rfl, rfl⟩
theorem c163_4 : q_cat 163 4 (.iload_n 1) 1 1 0 (0) := ⟨rfl, rfl⟩
theorem c163_5 : q_cat 163 5 (.invokevirtual 135) 3 125 0 (0) := ⟨rfl, rfl⟩
theorem c163_8 : q_cat 163 8 (.getfield 416) 3 1 11 (1) := ⟨rfl, rfl⟩
theorem c163_11 : q_cat 163 11 (.ifCond .ne 14) 3 25 0 (0) := ⟨rfl, rfl⟩
theorem c163_14 : q_cat 163 14 (.new 404) 3 2 409 (419) := ⟨rfl, rfl⟩
theorem c163_17 : q_cat 163 17 (.dup) 1 0 0 (0) := ⟨rfl, rfl⟩
theorem c163_18 : q_cat 163 18 (.ldc_w 419) 3 0 0 (0) := ⟨rfl, rfl⟩
theorem c163_25 : q_cat 163 25 (.return_) 1 0 0 (0) := ⟨rfl, rfl⟩
theorem k163 {Γ : q_Γ} (hG : q_GG Γ) {h : q_F} (hZ : q_Bz h) {v1 : Int}  :
    q_M Γ q_K 155 163 [(2, Int.ofNat 0), (0, v1)] h (fun t w h' => (t = 0 ∧ h' = h) ∨ (t = 4 ∧ h' = h)) := by
  have hT6 := q_hT6
  obtain ⟨fT6_0, fT6_1, fT6_2, fT6_3, fT6_4, fT6_5, fT6_6, fT6_7, fT6_8, fT6_9, fT6_10⟩ := q_fT hT6
  have hT15 := q_hT15
  obtain ⟨fT15_0, fT15_1, fT15_2, fT15_3, fT15_4, fT15_5, fT15_6, fT15_7, fT15_8, fT15_9, fT15_10⟩ := q_fT hT15
  have hT24 := q_hT24
  obtain ⟨fT24_0, fT24_1, fT24_2, fT24_3, fT24_4, fT24_5, fT24_6, fT24_7, fT24_8, fT24_9, fT24_10⟩ := q_fT hT24
  obtain ⟨gP0, gP1, gP2, gP3⟩ := q_fG q_hP
  refine q_M.of (by decide) (Nat.le_of_ble_eq_true rfl) hG ?_
  refine r_aload_n c163_0 rfl rfl ?_
  refine r_getr c163_1 (by first | assumption | omega) (by decide) (by first | assumption | rfl) rfl rfl ?_
  refine r_iload_n c163_4 rfl rfl ?_
  refine r_vcG c163_5 (by first | assumption | omega) (by decide) (by first | assumption | rfl) rfl rfl rfl (k125 hG hZ (by first | assumption | exact q_hC (by assumption) | exact q_h1 (by assumption) | exact q_h3 (by assumption) | exact q_h5 (by assumption) | exact q_hG (by assumption) | exact q_hP | exact q_hB1 | exact q_hB2 | exact q_hT6 | exact q_hT15 | exact q_hT24)) ?_
  intro t1 w1 g1 p1
  obtain ⟨rfl, ⟨r1, rfl, ha1, hr1⟩, rfl⟩ := p1
  obtain ⟨fr10, fr11, fr12, fr13⟩ := q_fA ha1
  refine Or.inr (Or.inl ⟨rfl, ?_⟩)
  refine r_getz hZ c163_8 (by first | assumption | omega) (by decide) (by first | assumption | rfl) rfl rfl rfl ?_
  intro z2
  refine r_if_ne c163_11 rfl (by first | exact q_w32_id (by omega) (by omega) | exact q_w32w _ | exact rfl) ?_ ?_
  · intro b3
    exact r_vret c163_25 ⟨rfl, rfl, rfl⟩ (Or.inl ⟨rfl, rfl⟩)
  · intro b3
    exact r_thr (y := 408) c163_14 rfl (Or.inr (⟨rfl, rfl⟩))
theorem c161_0 : q_cat 161 0 (.aload_n 0) 1 0 0 (0) := ⟨rfl, rfl⟩
theorem c161_1 : q_cat 161 1 (.getfield 26) 3 8 2 (3) := ⟨rfl, rfl⟩
theorem c161_4 : q_cat 161 4 (.invokevirtual 120) 3 132 0 (0) := ⟨rfl, rfl⟩
theorem c161_7 : q_cat 161 7 (.iconst 3) 1 0 0 (0) := ⟨rfl, rfl⟩
theorem c161_8 : q_cat 161 8 (.if_icmp .ge 14) 3 22 0 (0) := ⟨rfl, rfl⟩
theorem c161_11 : q_cat 161 11 (.new 404) 3 2 409 (421) := ⟨rfl, rfl⟩
theorem c161_14 : q_cat 161 14 (.dup) 1 0 0 (0) := ⟨rfl, rfl⟩
theorem c161_15 : q_cat 161 15 (.ldc_w 421) 3 0 0 (0) := ⟨rfl, rfl⟩
theorem c161_22 : q_cat 161 22 (.return_) 1 0 0 (0) := ⟨rfl, rfl⟩
theorem k161 {Γ : q_Γ} (hG : q_GG Γ) {h : q_F} (hZ : q_Bz h)   :
    q_M Γ q_K 155 161 [(2, Int.ofNat 0)] h (fun t w h' => (t = 0 ∧ h' = h) ∨ (t = 4 ∧ h' = h)) := by
  have hT6 := q_hT6
  obtain ⟨fT6_0, fT6_1, fT6_2, fT6_3, fT6_4, fT6_5, fT6_6, fT6_7, fT6_8, fT6_9, fT6_10⟩ := q_fT hT6
  have hT15 := q_hT15
  obtain ⟨fT15_0, fT15_1, fT15_2, fT15_3, fT15_4, fT15_5, fT15_6, fT15_7, fT15_8, fT15_9, fT15_10⟩ := q_fT hT15
  have hT24 := q_hT24
  obtain ⟨fT24_0, fT24_1, fT24_2, fT24_3, fT24_4, fT24_5, fT24_6, fT24_7, fT24_8, fT24_9, fT24_10⟩ := q_fT hT24
  obtain ⟨gP0, gP1, gP2, gP3⟩ := q_fG q_hP
  refine q_M.of (by decide) (Nat.le_of_ble_eq_true rfl) hG ?_
  refine r_aload_n c161_0 rfl rfl ?_
  refine r_getr c161_1 (by first | assumption | omega) (by decide) (by first | assumption | rfl) rfl rfl ?_
  refine r_vcG c161_4 (by first | assumption | omega) (by decide) (by first | assumption | rfl) rfl rfl rfl (k132 hG hZ (by first | assumption | exact q_hC (by assumption) | exact q_h1 (by assumption) | exact q_h3 (by assumption) | exact q_h5 (by assumption) | exact q_hG (by assumption) | exact q_hP | exact q_hB1 | exact q_hB2 | exact q_hT6 | exact q_hT15 | exact q_hT24)) ?_
  intro t1 w1 g1 p1
  obtain ⟨rfl, ⟨z1, rfl⟩, rfl⟩ := p1
  refine Or.inr (Or.inl ⟨rfl, ?_⟩)
  refine r_iconst c161_7 rfl ?_
  refine r_ic_ge c161_8 rfl (by first | exact q_w32_id (by omega) (by omega) | exact q_w32w _ | exact rfl) (show q_w32 (3) = 3 from rfl) ?_ ?_
  · intro b2
    exact r_vret c161_22 ⟨rfl, rfl, rfl⟩ (Or.inl ⟨rfl, rfl⟩)
  · intro b2
    exact r_thr (y := 408) c161_11 rfl (Or.inr (⟨rfl, rfl⟩))
theorem c165_0 : q_cat 165 0 (.aload_n 0) 1 0 0 (0) := ⟨rfl, rfl⟩
theorem c165_1 : q_cat 165 1 (.getfield 26) 3 8 2 (3) := ⟨rfl, rfl⟩
theorem c165_4 : q_cat 165 4 (.getfield 111) 3 6 7 (0) := ⟨rfl, rfl⟩
theorem c165_7 : q_cat 165 7 (.ifCond .eq 14) 3 21 0 (0) := ⟨rfl, rfl⟩
theorem c165_10 : q_cat 165 10 (.new 404) 3 2 409 (423) := ⟨rfl, rfl⟩
theorem c165_13 : q_cat 165 13 (.dup) 1 0 0 (0) := ⟨rfl, rfl⟩
theorem c165_14 : q_cat 165 14 (.ldc_w 423) 3 0 0 (0) := ⟨rfl, rfl⟩
theorem c165_21 : q_cat 165 21 (.return_) 1 0 0 (0) := ⟨rfl, rfl⟩
theorem k165 {Γ : q_Γ} (hG : q_GG Γ) {h : q_F} (hZ : q_Bz h)   :
    q_M Γ q_K 155 165 [(2, Int.ofNat 0)] h (fun t w h' => (t = 0 ∧ h' = h) ∨ (t = 4 ∧ h' = h)) := by
  have hT6 := q_hT6
  obtain ⟨fT6_0, fT6_1, fT6_2, fT6_3, fT6_4, fT6_5, fT6_6, fT6_7, fT6_8, fT6_9, fT6_10⟩ := q_fT hT6
  have hT15 := q_hT15
  obtain ⟨fT15_0, fT15_1, fT15_2, fT15_3, fT15_4, fT15_5, fT15_6, fT15_7, fT15_8, fT15_9, fT15_10⟩ := q_fT hT15
  have hT24 := q_hT24
  obtain ⟨fT24_0, fT24_1, fT24_2, fT24_3, fT24_4, fT24_5, fT24_6, fT24_7, fT24_8, fT24_9, fT24_10⟩ := q_fT hT24
  obtain ⟨gP0, gP1, gP2, gP3⟩ := q_fG q_hP
  refine q_M.of (by decide) (Nat.le_of_ble_eq_true rfl) hG ?_
  refine r_aload_n c165_0 rfl rfl ?_
  refine r_getr c165_1 (by first | assumption | omega) (by decide) (by first | assumption | rfl) rfl rfl ?_
  refine r_geti c165_4 (by first | assumption | omega) (by decide) (by first | assumption | rfl) rfl rfl ?_
  refine r_if_eq c165_7 rfl (by first | exact q_w32_id (by omega) (by omega) | exact q_w32w _ | exact rfl) ?_ ?_
  · intro b1
    exact r_vret c165_21 ⟨rfl, rfl, rfl⟩ (Or.inl ⟨rfl, rfl⟩)
  · intro b1
    exact r_thr (y := 408) c165_10 rfl (Or.inr (⟨rfl, rfl⟩))
theorem c167_0 : q_cat 167 0 (.aload_n 0) 1 0 0 (0) := ⟨rfl, rfl⟩
theorem c167_1 : q_cat 167 1 (.getfield 26) 3 8 2 (3) := ⟨rfl, rfl⟩
theorem c167_4 : q_cat 167 4 (.getfield 114) 3 6 3 (3) := ⟨rfl, rfl⟩
theorem c167_7 : q_cat 167 7 (.getfield 117) 3 7 1 (0) := ⟨rfl, rfl⟩
theorem c167_10 : q_cat 167 10 (.ifCond .le 14) 3 24 0 (0) := ⟨rfl, rfl⟩
theorem c167_13 : q_cat 167 13 (.new 404) 3 2 409 (425) := ⟨rfl, rfl⟩
theorem c167_16 : q_cat 167 16 (.dup) 1 0 0 (0) := ⟨rfl, rfl⟩
theorem c167_17 : q_cat 167 17 (.ldc_w 425) 3 0 0 (0) := ⟨rfl, rfl⟩
theorem c167_24 : q_cat 167 24 (.return_) 1 0 0 (0) := ⟨rfl, rfl⟩
theorem k167 {Γ : q_Γ} (hG : q_GG Γ) {h : q_F} (hZ : q_Bz h)   :
    q_M Γ q_K 155 167 [(2, Int.ofNat 0)] h (fun t w h' => (t = 0 ∧ h' = h) ∨ (t = 4 ∧ h' = h)) := by
  have hT6 := q_hT6
  obtain ⟨fT6_0, fT6_1, fT6_2, fT6_3, fT6_4, fT6_5, fT6_6, fT6_7, fT6_8, fT6_9, fT6_10⟩ := q_fT hT6
  have hT15 := q_hT15
  obtain ⟨fT15_0, fT15_1, fT15_2, fT15_3, fT15_4, fT15_5, fT15_6, fT15_7, fT15_8, fT15_9, fT15_10⟩ := q_fT hT15
  have hT24 := q_hT24
  obtain ⟨fT24_0, fT24_1, fT24_2, fT24_3, fT24_4, fT24_5, fT24_6, fT24_7, fT24_8, fT24_9, fT24_10⟩ := q_fT hT24
  obtain ⟨gP0, gP1, gP2, gP3⟩ := q_fG q_hP
  refine q_M.of (by decide) (Nat.le_of_ble_eq_true rfl) hG ?_
  refine r_aload_n c167_0 rfl rfl ?_
  refine r_getr c167_1 (by first | assumption | omega) (by decide) (by first | assumption | rfl) rfl rfl ?_
  refine r_getr c167_4 (by first | assumption | omega) (by decide) (by first | assumption | rfl) rfl rfl ?_
  refine r_geti c167_7 (by first | assumption | omega) (by decide) (by first | assumption | rfl) rfl rfl ?_
  refine r_if_le c167_10 rfl (by first | exact q_w32_id (by omega) (by omega) | exact q_w32w _ | exact rfl) ?_ ?_
  · intro b1
    exact r_vret c167_24 ⟨rfl, rfl, rfl⟩ (Or.inl ⟨rfl, rfl⟩)
  · intro b1
    exact r_thr (y := 408) c167_13 rfl (Or.inr (⟨rfl, rfl⟩))
theorem c166_0 : q_cat 166 0 (.aload_n 0) 1 0 0 (0) := ⟨rfl, rfl⟩
theorem c166_1 : q_cat 166 1 (.getfield 26) 3 8 2 (3) := ⟨rfl, rfl⟩
theorem c166_4 : q_cat 166 4 (.getfield 86) 3 6 0 (3) := ⟨rfl, rfl⟩
theorem c166_7 : q_cat 166 7 (.iload_n 1) 1 1 0 (0) := ⟨rfl, rfl⟩
theorem c166_8 : q_cat 166 8 (.invokevirtual 427) 3 53 0 (0) := ⟨rfl, rfl⟩
theorem c166_11 : q_cat 166 11 (.ifCond .eq 31) 3 42 0 (0) := ⟨rfl, rfl⟩
theorem c166_14 : q_cat 166 14 (.aload_n 0) 1 0 0 (0) := ⟨rfl, rfl⟩
theorem c166_15 : q_cat 166 15 (.getfield 26) 3 8 2 (3) := ⟨rfl, rfl⟩
theorem c166_18 : q_cat 166 18 (.getfield 93) 3 6 1 (3) := ⟨rfl, rfl⟩
theorem c166_21 : q_cat 166 21 (.iload_n 2) 1 2 0 (0) := ⟨rfl, rfl⟩
theorem c166_22 : q_cat 166 22 (.invokevirtual 427) 3 53 0 (0) := ⟨rfl, rfl⟩
theorem c166_25 : q_cat 166 25 (.ifCond .eq 17) 3 42 0 (0) := ⟨rfl, rfl⟩
theorem c166_28 : q_cat 166 28 (.aload_n 0) 1 0 0 (0) := ⟨rfl, rfl⟩
theorem c166_29 : q_cat 166 29 (.getfield 26) 3 8 2 (3) := ⟨rfl, rfl⟩
theorem c166_32 : q_cat 166 32 (.getfield 96) 3 6 2 (3) := ⟨rfl, rfl⟩
theorem c166_35 : q_cat 166 35 (.iload_n 3) 1 3 0 (0) := ⟨rfl, rfl⟩
theorem c166_36 : q_cat 166 36 (.invokevirtual 427) 3 53 0 (0) := ⟨rfl, rfl⟩
theorem c166_39 : q_cat 166 39 (.ifCond .ne 14) 3 53 0 (0) := ⟨rfl, rfl⟩
theorem c166_42 : q_cat 166 42 (.new 125) 3 0 130 (431) := ⟨rfl, rfl⟩
theorem c166_45 : q_cat 166 45 (.dup) 1 0 0 (0) := ⟨rfl, rfl⟩
theorem c166_46 : q_cat 166 46 (.ldc_w 431) 3 0 0 (0) := ⟨rfl, rfl⟩
theorem c166_53 : q_cat 166 53 (.return_) 1 0 0 (0) := ⟨rfl, rfl⟩
theorem k166 {Γ : q_Γ} (hG : q_GG Γ) {h : q_F} (hZ : q_Bz h) {v1 : Int} {v2 : Int} {v3 : Int}  :
    q_M Γ q_K 155 166 [(2, Int.ofNat 0), (0, v1), (0, v2), (0, v3)] h (fun t w h' => (t = 0 ∧ h' = h) ∨ (t = 2 ∧ h' = h)) := by
  have hT6 := q_hT6
  obtain ⟨fT6_0, fT6_1, fT6_2, fT6_3, fT6_4, fT6_5, fT6_6, fT6_7, fT6_8, fT6_9, fT6_10⟩ := q_fT hT6
  have hT15 := q_hT15
  obtain ⟨fT15_0, fT15_1, fT15_2, fT15_3, fT15_4, fT15_5, fT15_6, fT15_7, fT15_8, fT15_9, fT15_10⟩ := q_fT hT15
  have hT24 := q_hT24
  obtain ⟨fT24_0, fT24_1, fT24_2, fT24_3, fT24_4, fT24_5, fT24_6, fT24_7, fT24_8, fT24_9, fT24_10⟩ := q_fT hT24
  obtain ⟨gP0, gP1, gP2, gP3⟩ := q_fG q_hP
  refine q_M.of (by decide) (Nat.le_of_ble_eq_true rfl) hG ?_
  refine r_aload_n c166_0 rfl rfl ?_
  refine r_getr c166_1 (by first | assumption | omega) (by decide) (by first | assumption | rfl) rfl rfl ?_
  refine r_getr c166_4 (by first | assumption | omega) (by decide) (by first | assumption | rfl) rfl rfl ?_
  refine r_iload_n c166_7 rfl rfl ?_
  refine r_vcG c166_8 (by first | assumption | omega) (by decide) (by first | assumption | rfl) rfl rfl rfl (k53 hG hZ (by first | assumption | exact q_hC (by assumption) | exact q_h1 (by assumption) | exact q_h3 (by assumption) | exact q_h5 (by assumption) | exact q_hG (by assumption) | exact q_hP | exact q_hB1 | exact q_hB2 | exact q_hT6 | exact q_hT15 | exact q_hT24)) ?_
  intro t1 w1 g1 p1
  obtain ⟨rfl, ⟨z1, rfl, hz1⟩, rfl⟩ := p1
  refine Or.inr (Or.inl ⟨rfl, ?_⟩)
  refine r_if_eq c166_11 rfl (by first | exact q_w32_id (by omega) (by omega) | exact q_w32w _ | exact rfl) ?_ ?_
  · intro b2
    exact r_thr (y := 129) c166_42 rfl (Or.inr (⟨rfl, rfl⟩))
  · intro b2
    refine r_aload_n c166_14 rfl rfl ?_
    refine r_getr c166_15 (by first | assumption | omega) (by decide) (by first | assumption | rfl) rfl rfl ?_
    refine r_getr c166_18 (by first | assumption | omega) (by decide) (by first | assumption | rfl) rfl rfl ?_
    refine r_iload_n c166_21 rfl rfl ?_
    refine r_vcG c166_22 (by first | assumption | omega) (by decide) (by first | assumption | rfl) rfl rfl rfl (k53 hG hZ (by first | assumption | exact q_hC (by assumption) | exact q_h1 (by assumption) | exact q_h3 (by assumption) | exact q_h5 (by assumption) | exact q_hG (by assumption) | exact q_hP | exact q_hB1 | exact q_hB2 | exact q_hT6 | exact q_hT15 | exact q_hT24)) ?_
    intro t3 w3 g3 p3
    obtain ⟨rfl, ⟨z3, rfl, hz3⟩, rfl⟩ := p3
    refine Or.inr (Or.inl ⟨rfl, ?_⟩)
    refine r_if_eq c166_25 rfl (by first | exact q_w32_id (by omega) (by omega) | exact q_w32w _ | exact rfl) ?_ ?_
    · intro b4
      exact r_thr (y := 129) c166_42 rfl (Or.inr (⟨rfl, rfl⟩))
    · intro b4
      refine r_aload_n c166_28 rfl rfl ?_
      refine r_getr c166_29 (by first | assumption | omega) (by decide) (by first | assumption | rfl) rfl rfl ?_
      refine r_getr c166_32 (by first | assumption | omega) (by decide) (by first | assumption | rfl) rfl rfl ?_
      refine r_iload_n c166_35 rfl rfl ?_
      refine r_vcG c166_36 (by first | assumption | omega) (by decide) (by first | assumption | rfl) rfl rfl rfl (k53 hG hZ (by first | assumption | exact q_hC (by assumption) | exact q_h1 (by assumption) | exact q_h3 (by assumption) | exact q_h5 (by assumption) | exact q_hG (by assumption) | exact q_hP | exact q_hB1 | exact q_hB2 | exact q_hT6 | exact q_hT15 | exact q_hT24)) ?_
      intro t5 w5 g5 p5
      obtain ⟨rfl, ⟨z5, rfl, hz5⟩, rfl⟩ := p5
      refine Or.inr (Or.inl ⟨rfl, ?_⟩)
      refine r_if_ne c166_39 rfl (by first | exact q_w32_id (by omega) (by omega) | exact q_w32w _ | exact rfl) ?_ ?_
      · intro b6
        exact r_vret c166_53 ⟨rfl, rfl, rfl⟩ (Or.inl ⟨rfl, rfl⟩)
      · intro b6
        exact r_thr (y := 129) c166_42 rfl (Or.inr (⟨rfl, rfl⟩))
theorem c168_0 : q_cat 168 0 (.aload_n 0) 1 0 0 (0) := ⟨rfl, rfl⟩
theorem c168_1 : q_cat 168 1 (.invokevirtual 163) 3 165 0 (0) := ⟨rfl, rfl⟩
theorem c168_4 : q_cat 168 4 (.aload_n 0) 1 0 0 (0) := ⟨rfl, rfl⟩
theorem c168_5 : q_cat 168 5 (.invokevirtual 343) 3 161 0 (0) := ⟨rfl, rfl⟩
theorem c168_8 : q_cat 168 8 (.aload_n 0) 1 0 0 (0) := ⟨rfl, rfl⟩
theorem c168_9 : q_cat 168 9 (.getfield 26) 3 8 2 (3) := ⟨rfl, rfl⟩
theorem c168_12 : q_cat 168 12 (.getfield 114) 3 6 3 (3) := ⟨rfl, rfl⟩
theorem c168_15 : q_cat 168 15 (.getfield 117) 3 7 1 (0) := ⟨rfl, rfl⟩
theorem c168_18 : q_cat 168 18 (.bipush 16) 2 0 0 (0) := ⟨rfl, rfl⟩
theorem c168_20 : q_cat 168 20 (.if_icmp .lt 14) 3 34 0 (0) := ⟨rfl, rfl⟩
theorem c168_23 : q_cat 168 23 (.new 404) 3 2 409 (433) := ⟨rfl, rfl⟩
theorem c168_26 : q_cat 168 26 (.dup) 1 0 0 (0) := ⟨rfl, rfl⟩
theorem c168_27 : q_cat 168 27 (.ldc_w 433) 3 0 0 (0) := ⟨rfl, rfl⟩
theorem c168_34 : q_cat 168 34 (.return_) 1 0 0 (0) := ⟨rfl, rfl⟩
theorem k168 {Γ : q_Γ} (hG : q_GG Γ) {h : q_F} (hZ : q_Bz h)   :
    q_M Γ q_K 155 168 [(2, Int.ofNat 0)] h (fun t w h' => (t = 0 ∧ h' = h) ∨ (t = 4 ∧ h' = h)) := by
  have hT6 := q_hT6
  obtain ⟨fT6_0, fT6_1, fT6_2, fT6_3, fT6_4, fT6_5, fT6_6, fT6_7, fT6_8, fT6_9, fT6_10⟩ := q_fT hT6
  have hT15 := q_hT15
  obtain ⟨fT15_0, fT15_1, fT15_2, fT15_3, fT15_4, fT15_5, fT15_6, fT15_7, fT15_8, fT15_9, fT15_10⟩ := q_fT hT15
  have hT24 := q_hT24
  obtain ⟨fT24_0, fT24_1, fT24_2, fT24_3, fT24_4, fT24_5, fT24_6, fT24_7, fT24_8, fT24_9, fT24_10⟩ := q_fT hT24
  obtain ⟨gP0, gP1, gP2, gP3⟩ := q_fG q_hP
  refine q_M.of (by decide) (Nat.le_of_ble_eq_true rfl) hG ?_
  refine r_aload_n c168_0 rfl rfl ?_
  refine r_vcG c168_1 (by first | assumption | omega) (by decide) (by first | assumption | rfl) rfl rfl rfl (k165 hG hZ) ?_
  intro t1 w1 g1 p1
  rcases p1 with ⟨rfl, rfl⟩ | ⟨rfl, rfl⟩
  · skip
    refine Or.inl ⟨rfl, ?_⟩
    refine r_aload_n c168_4 rfl rfl ?_
    refine r_vcG c168_5 (by first | assumption | omega) (by decide) (by first | assumption | rfl) rfl rfl rfl (k161 hG hZ) ?_
    intro t2 w2 g2 p2
    rcases p2 with ⟨rfl, rfl⟩ | ⟨rfl, rfl⟩
    · skip
      refine Or.inl ⟨rfl, ?_⟩
      refine r_aload_n c168_8 rfl rfl ?_
      refine r_getr c168_9 (by first | assumption | omega) (by decide) (by first | assumption | rfl) rfl rfl ?_
      refine r_getr c168_12 (by first | assumption | omega) (by decide) (by first | assumption | rfl) rfl rfl ?_
      refine r_geti c168_15 (by first | assumption | omega) (by decide) (by first | assumption | rfl) rfl rfl ?_
      refine r_bipush c168_18 rfl ?_
      refine r_ic_lt c168_20 rfl (by first | exact q_w32_id (by omega) (by omega) | exact q_w32w _ | exact rfl) (show q_w32 (16) = 16 from rfl) ?_ ?_
      · intro b3
        exact r_vret c168_34 ⟨rfl, rfl, rfl⟩ (Or.inl ⟨rfl, rfl⟩)
      · intro b3
        exact r_thr (y := 408) c168_23 rfl (Or.inr (⟨rfl, rfl⟩))
    · refine Or.inr (Or.inr ⟨2, rfl, ?_⟩)
      exact Or.inr ⟨rfl, (Or.inr (⟨rfl, rfl⟩))⟩
  · refine Or.inr (Or.inr ⟨2, rfl, ?_⟩)
    exact Or.inr ⟨rfl, (Or.inr (⟨rfl, rfl⟩))⟩
theorem c169_0 : q_cat 169 0 (.iload_n 2) 1 2 0 (0) := ⟨rfl, rfl⟩
theorem c169_1 : q_cat 169 1 (.ifCond .lt 8) 3 9 0 (0) := ⟨rfl, rfl⟩
theorem c169_4 : q_cat 169 4 (.iload_n 2) 1 2 0 (0) := ⟨rfl, rfl⟩
theorem c169_5 : q_cat 169 5 (.iload_n 1) 1 1 0 (0) := ⟨rfl, rfl⟩
theorem c169_6 : q_cat 169 6 (.if_icmp .le 13) 3 19 0 (0) := ⟨rfl, rfl⟩
theorem c169_9 : q_cat 169 9 (.new 125) 3 0 130 (176) := ⟨rfl, rfl⟩
theorem c169_12 : q_cat 169 12 (.dup) 1 0 0 (0) := ⟨rfl, rfl⟩
theorem c169_19 : q_cat 169 19 (.return_) 1 0 0 (0) := ⟨rfl, rfl⟩
theorem k169 {Γ : q_Γ} (hG : q_GG Γ) {h : q_F} (hZ : q_Bz h) {v1 : Int} {v2 : Int}  :
    q_M Γ q_K 155 169 [(2, Int.ofNat 0), (0, v1), (0, v2)] h (fun t w h' => (t = 0 ∧ h' = h) ∨ (t = 2 ∧ h' = h)) := by
  have hT6 := q_hT6
  obtain ⟨fT6_0, fT6_1, fT6_2, fT6_3, fT6_4, fT6_5, fT6_6, fT6_7, fT6_8, fT6_9, fT6_10⟩ := q_fT hT6
  have hT15 := q_hT15
  obtain ⟨fT15_0, fT15_1, fT15_2, fT15_3, fT15_4, fT15_5, fT15_6, fT15_7, fT15_8, fT15_9, fT15_10⟩ := q_fT hT15
  have hT24 := q_hT24
  obtain ⟨fT24_0, fT24_1, fT24_2, fT24_3, fT24_4, fT24_5, fT24_6, fT24_7, fT24_8, fT24_9, fT24_10⟩ := q_fT hT24
  obtain ⟨gP0, gP1, gP2, gP3⟩ := q_fG q_hP
  refine q_M.of (by decide) (Nat.le_of_ble_eq_true rfl) hG ?_
  refine r_iload_n c169_0 rfl rfl ?_
  refine r_if_lt c169_1 rfl (by first | exact q_w32_id (by omega) (by omega) | exact q_w32w _ | exact rfl) ?_ ?_
  · intro b1
    exact r_thr (y := 129) c169_9 rfl (Or.inr (⟨rfl, rfl⟩))
  · intro b1
    refine r_iload_n c169_4 rfl rfl ?_
    refine r_iload_n c169_5 rfl rfl ?_
    refine r_ic_le c169_6 rfl (by first | exact q_w32_id (by omega) (by omega) | exact q_w32w _ | exact rfl) (by first | exact q_w32_id (by omega) (by omega) | exact q_w32w _ | exact rfl) ?_ ?_
    · intro b2
      exact r_vret c169_19 ⟨rfl, rfl, rfl⟩ (Or.inl ⟨rfl, rfl⟩)
    · intro b2
      exact r_thr (y := 129) c169_9 rfl (Or.inr (⟨rfl, rfl⟩))
theorem c221_0 : q_cat 221 0 (.aload_n 0) 1 0 0 (0) := ⟨rfl, rfl⟩
theorem c221_1 : q_cat 221 1 (.getfield 26) 3 8 2 (3) := ⟨rfl, rfl⟩
theorem c221_4 : q_cat 221 4 (.aload_n 0) 1 0 0 (0) := ⟨rfl, rfl⟩
theorem c221_5 : q_cat 221 5 (.getfield 53) 3 8 7 (3) := ⟨rfl, rfl⟩
theorem c221_8 : q_cat 221 8 (.invokevirtual 347) 3 135 0 (0) := ⟨rfl, rfl⟩
theorem c221_11 : q_cat 221 11 (.ifCond .eq 14) 3 25 0 (0) := ⟨rfl, rfl⟩
theorem c221_14 : q_cat 221 14 (.new 404) 3 2 409 (435) := ⟨rfl, rfl⟩
theorem c221_17 : q_cat 221 17 (.dup) 1 0 0 (0) := ⟨rfl, rfl⟩
theorem c221_18 : q_cat 221 18 (.ldc_w 435) 3 0 0 (0) := ⟨rfl, rfl⟩
theorem c221_25 : q_cat 221 25 (.aload_n 0) 1 0 0 (0) := ⟨rfl, rfl⟩
theorem c221_26 : q_cat 221 26 (.getfield 39) 3 8 5 (3) := ⟨rfl, rfl⟩
theorem c221_29 : q_cat 221 29 (.aload_n 0) 1 0 0 (0) := ⟨rfl, rfl⟩
theorem c221_30 : q_cat 221 30 (.getfield 26) 3 8 2 (3) := ⟨rfl, rfl⟩
theorem c221_33 : q_cat 221 33 (.invokevirtual 169) 3 67 0 (0) := ⟨rfl, rfl⟩
theorem c221_36 : q_cat 221 36 (.aload_n 0) 1 0 0 (0) := ⟨rfl, rfl⟩
theorem c221_37 : q_cat 221 37 (.getfield 26) 3 8 2 (3) := ⟨rfl, rfl⟩
theorem c221_40 : q_cat 221 40 (.getfield 114) 3 6 3 (3) := ⟨rfl, rfl⟩
theorem c221_43 : q_cat 221 43 (.aload_n 0) 1 0 0 (0) := ⟨rfl, rfl⟩
theorem c221_44 : q_cat 221 44 (.getfield 53) 3 8 7 (3) := ⟨rfl, rfl⟩
theorem c221_47 : q_cat 221 47 (.invokevirtual 192) 3 144 0 (0) := ⟨rfl, rfl⟩
theorem c221_50 : q_cat 221 50 (.aload_n 0) 1 0 0 (0) := ⟨rfl, rfl⟩
theorem c221_51 : q_cat 221 51 (.getfield 26) 3 8 2 (3) := ⟨rfl, rfl⟩
theorem c221_54 : q_cat 221 54 (.getfield 114) 3 6 3 (3) := ⟨rfl, rfl⟩
theorem c221_57 : q_cat 221 57 (.getfield 117) 3 7 1 (0) := ⟨rfl, rfl⟩
theorem c221_60 : q_cat 221 60 (.ireturn) 1 0 0 (0) := ⟨rfl, rfl⟩
theorem k221 {Γ : q_Γ} (hG : q_GG Γ) {h : q_F} (hZ : q_Bz h)   :
    q_M Γ q_K 155 221 [(2, Int.ofNat 0)] h (fun t w h' => (t = 1 ∧ (∃ z, w = ((0, z) : q_V)) ∧ q_Fr (fun k => 33 ≤ k ∧ k ≤ 124 ∨ 6 ≤ k ∧ k ≤ 14) h h') ∨ (t = 4 ∧ q_Fr (fun k => 33 ≤ k ∧ k ≤ 124 ∨ 6 ≤ k ∧ k ≤ 14) h h')) := by
  have hT6 := q_hT6
  obtain ⟨fT6_0, fT6_1, fT6_2, fT6_3, fT6_4, fT6_5, fT6_6, fT6_7, fT6_8, fT6_9, fT6_10⟩ := q_fT hT6
  have hT15 := q_hT15
  obtain ⟨fT15_0, fT15_1, fT15_2, fT15_3, fT15_4, fT15_5, fT15_6, fT15_7, fT15_8, fT15_9, fT15_10⟩ := q_fT hT15
  have hT24 := q_hT24
  obtain ⟨fT24_0, fT24_1, fT24_2, fT24_3, fT24_4, fT24_5, fT24_6, fT24_7, fT24_8, fT24_9, fT24_10⟩ := q_fT hT24
  obtain ⟨gP0, gP1, gP2, gP3⟩ := q_fG q_hP
  refine q_M.of (by decide) (Nat.le_of_ble_eq_true rfl) hG ?_
  refine r_aload_n c221_0 rfl rfl ?_
  refine r_getr c221_1 (by first | assumption | omega) (by decide) (by first | assumption | rfl) rfl rfl ?_
  refine r_aload_n c221_4 rfl rfl ?_
  refine r_getr c221_5 (by first | assumption | omega) (by decide) (by first | assumption | rfl) rfl rfl ?_
  refine r_vcG c221_8 (by first | assumption | omega) (by decide) (by first | assumption | rfl) rfl rfl rfl (k135 hG (q_Fr.bz (S := fun k => 33 ≤ k ∧ k ≤ 124 ∨ 6 ≤ k ∧ k ≤ 14) hZ (by repeat (first | exact q_Fr.rf | refine q_Fr.ud ?_ (by omega) (by first | assumption | rfl) rfl | refine q_Fr.udz ?_ (by omega) (by first | assumption | decide | omega) | refine q_Fr.tr ?_ (by assumption) (by intro k9 hk9; omega)))) (by first | assumption | exact q_hC (by assumption) | exact q_h1 (by assumption) | exact q_h3 (by assumption) | exact q_h5 (by assumption) | exact q_hG (by assumption) | exact q_hP | exact q_hB1 | exact q_hB2 | exact q_hT6 | exact q_hT15 | exact q_hT24) (by first | assumption | exact q_hC (by assumption) | exact q_h1 (by assumption) | exact q_h3 (by assumption) | exact q_h5 (by assumption) | exact q_hG (by assumption) | exact q_hP | exact q_hB1 | exact q_hB2 | exact q_hT6 | exact q_hT15 | exact q_hT24)) ?_
  intro t1 w1 g1 p1
  obtain ⟨rfl, ⟨z1, rfl, hz1⟩, rfl⟩ := p1
  refine Or.inr (Or.inl ⟨rfl, ?_⟩)
  refine r_if_eq c221_11 rfl (by first | exact q_w32_id (by omega) (by omega) | exact q_w32w _ | exact rfl) ?_ ?_
  · intro b2
    refine r_aload_n c221_25 rfl rfl ?_
    refine r_getr c221_26 (by first | assumption | omega) (by decide) (by first | assumption | rfl) rfl rfl ?_
    refine r_aload_n c221_29 rfl rfl ?_
    refine r_getr c221_30 (by first | assumption | omega) (by decide) (by first | assumption | rfl) rfl rfl ?_
    refine r_vcG c221_33 (by first | assumption | omega) (by decide) (by first | assumption | rfl) rfl rfl rfl (k67 hG (q_Fr.bz (S := fun k => 33 ≤ k ∧ k ≤ 124 ∨ 6 ≤ k ∧ k ≤ 14) hZ (by repeat (first | exact q_Fr.rf | refine q_Fr.ud ?_ (by omega) (by first | assumption | rfl) rfl | refine q_Fr.udz ?_ (by omega) (by first | assumption | decide | omega) | refine q_Fr.tr ?_ (by assumption) (by intro k9 hk9; omega)))) (by first | assumption | exact q_hC (by assumption) | exact q_h1 (by assumption) | exact q_h3 (by assumption) | exact q_h5 (by assumption) | exact q_hG (by assumption) | exact q_hP | exact q_hB1 | exact q_hB2 | exact q_hT6 | exact q_hT15 | exact q_hT24)) ?_
    intro t3 w3 g3 p3
    obtain ⟨rfl, e3⟩ := p3
    refine Or.inl ⟨rfl, ?_⟩
    refine r_aload_n c221_36 rfl rfl ?_
    refine r_getr c221_37 (by first | assumption | omega) (by decide) (by first | assumption | rfl) rfl rfl ?_
    refine r_getr c221_40 (by first | assumption | omega) (by decide) (by first | assumption | rfl) rfl rfl ?_
    refine r_aload_n c221_43 rfl rfl ?_
    refine r_getr c221_44 (by first | assumption | omega) (by decide) (by first | assumption | rfl) rfl rfl ?_
    refine r_vcG c221_47 (by first | assumption | omega) (by decide) (by first | assumption | rfl) rfl rfl rfl (k144 hG (q_Fr.bz (S := fun k => 33 ≤ k ∧ k ≤ 124 ∨ 6 ≤ k ∧ k ≤ 14) hZ (by repeat (first | exact q_Fr.rf | refine q_Fr.ud ?_ (by omega) (by first | assumption | rfl) rfl | refine q_Fr.udz ?_ (by omega) (by first | assumption | decide | omega) | refine q_Fr.tr ?_ (by assumption) (by intro k9 hk9; omega)))) (by first | assumption | exact q_hC (by assumption) | exact q_h1 (by assumption) | exact q_h3 (by assumption) | exact q_h5 (by assumption) | exact q_hG (by assumption) | exact q_hP | exact q_hB1 | exact q_hB2 | exact q_hT6 | exact q_hT15 | exact q_hT24) (by first | assumption | exact q_hC (by assumption) | exact q_h1 (by assumption) | exact q_h3 (by assumption) | exact q_h5 (by assumption) | exact q_hG (by assumption) | exact q_hP | exact q_hB1 | exact q_hB2 | exact q_hT6 | exact q_hT15 | exact q_hT24)) ?_
    intro t4 w4 g4 p4
    obtain ⟨rfl, e4⟩ := p4
    refine Or.inl ⟨rfl, ?_⟩
    refine r_aload_n c221_50 rfl rfl ?_
    refine r_getr c221_51 (by first | assumption | omega) (by decide) (by first | assumption | rfl) rfl rfl ?_
    refine r_getr c221_54 (by first | assumption | omega) (by decide) (by first | assumption | rfl) rfl rfl ?_
    refine r_geti c221_57 (by first | assumption | omega) (by decide) (by first | assumption | rfl) rfl rfl ?_
    exact r_iret c221_60 ⟨rfl, rfl, rfl⟩ (Or.inl ⟨rfl, ⟨_, rfl⟩, (by repeat (first | exact q_Fr.rf | refine q_Fr.ud ?_ (by omega) (by first | assumption | rfl) rfl | refine q_Fr.udz ?_ (by omega) (by first | assumption | decide | omega) | refine q_Fr.tr ?_ (by assumption) (by intro k9 hk9; omega)))⟩)
  · intro b2
    exact r_thr (y := 408) c221_14 rfl (Or.inr (⟨rfl, (by repeat (first | exact q_Fr.rf | refine q_Fr.ud ?_ (by omega) (by first | assumption | rfl) rfl | refine q_Fr.udz ?_ (by omega) (by first | assumption | decide | omega) | refine q_Fr.tr ?_ (by assumption) (by intro k9 hk9; omega)))⟩))
theorem c195_0 : q_cat 195 0 (.aload_n 0) 1 0 0 (0) := ⟨rfl, rfl⟩
theorem c195_1 : q_cat 195 1 (.getfield 46) 3 8 6 (3) := ⟨rfl, rfl⟩
theorem c195_4 : q_cat 195 4 (.aload_n 0) 1 0 0 (0) := ⟨rfl, rfl⟩
theorem c195_5 : q_cat 195 5 (.getfield 26) 3 8 2 (3) := ⟨rfl, rfl⟩
theorem c195_8 : q_cat 195 8 (.aload_n 0) 1 0 0 (0) := ⟨rfl, rfl⟩
theorem c195_9 : q_cat 195 9 (.getfield 26) 3 8 2 (3) := ⟨rfl, rfl⟩
theorem c195_12 : q_cat 195 12 (.getfield 114) 3 6 3 (3) := ⟨rfl, rfl⟩
theorem c195_15 : q_cat 195 15 (.aload_n 0) 1 0 0 (0) := ⟨rfl, rfl⟩
theorem c195_16 : q_cat 195 16 (.getfield 26) 3 8 2 (3) := ⟨rfl, rfl⟩
theorem c195_19 : q_cat 195 19 (.getfield 102) 3 6 4 (0) := ⟨rfl, rfl⟩
theorem c195_22 : q_cat 195 22 (.invokevirtual 351) 3 84 0 (0) := ⟨rfl, rfl⟩
theorem c195_25 : q_cat 195 25 (.aload_n 0) 1 0 0 (0) := ⟨rfl, rfl⟩
theorem c195_26 : q_cat 195 26 (.getfield 46) 3 8 6 (3) := ⟨rfl, rfl⟩
theorem c195_29 : q_cat 195 29 (.areturn) 1 0 0 (0) := ⟨rfl, rfl⟩
theorem k195 {Γ : q_Γ} (hG : q_GG Γ) {h : q_F} (hZ : q_Bz h)   :
    q_M Γ q_K 155 195 [(2, Int.ofNat 0)] h (fun t w h' => (t = 1 ∧ (w = ((2, Int.ofNat 125) : q_V)) ∧ q_Fr (fun k => k = 0 ∨ (6 ≤ k ∧ k ≤ 138)) h h')) := by
  have hT6 := q_hT6
  obtain ⟨fT6_0, fT6_1, fT6_2, fT6_3, fT6_4, fT6_5, fT6_6, fT6_7, fT6_8, fT6_9, fT6_10⟩ := q_fT hT6
  have hT15 := q_hT15
  obtain ⟨fT15_0, fT15_1, fT15_2, fT15_3, fT15_4, fT15_5, fT15_6, fT15_7, fT15_8, fT15_9, fT15_10⟩ := q_fT hT15
  have hT24 := q_hT24
  obtain ⟨fT24_0, fT24_1, fT24_2, fT24_3, fT24_4, fT24_5, fT24_6, fT24_7, fT24_8, fT24_9, fT24_10⟩ := q_fT hT24
  obtain ⟨gP0, gP1, gP2, gP3⟩ := q_fG q_hP
  refine q_M.of (by decide) (Nat.le_of_ble_eq_true rfl) hG ?_
  refine r_aload_n c195_0 rfl rfl ?_
  refine r_getr c195_1 (by first | assumption | omega) (by decide) (by first | assumption | rfl) rfl rfl ?_
  refine r_aload_n c195_4 rfl rfl ?_
  refine r_getr c195_5 (by first | assumption | omega) (by decide) (by first | assumption | rfl) rfl rfl ?_
  refine r_aload_n c195_8 rfl rfl ?_
  refine r_getr c195_9 (by first | assumption | omega) (by decide) (by first | assumption | rfl) rfl rfl ?_
  refine r_getr c195_12 (by first | assumption | omega) (by decide) (by first | assumption | rfl) rfl rfl ?_
  refine r_aload_n c195_15 rfl rfl ?_
  refine r_getr c195_16 (by first | assumption | omega) (by decide) (by first | assumption | rfl) rfl rfl ?_
  refine r_geti c195_19 (by first | assumption | omega) (by decide) (by first | assumption | rfl) rfl rfl ?_
  refine r_vcG c195_22 (by first | assumption | omega) (by decide) (by first | assumption | rfl) rfl rfl rfl (k84 hG (q_Fr.bz (S := fun k => k = 0 ∨ (6 ≤ k ∧ k ≤ 138)) hZ (by repeat (first | exact q_Fr.rf | refine q_Fr.ud ?_ (by omega) (by first | assumption | rfl) rfl | refine q_Fr.udz ?_ (by omega) (by first | assumption | decide | omega) | refine q_Fr.tr ?_ (by assumption) (by intro k9 hk9; omega)))) (by first | assumption | exact q_hC (by assumption) | exact q_h1 (by assumption) | exact q_h3 (by assumption) | exact q_h5 (by assumption) | exact q_hG (by assumption) | exact q_hP | exact q_hB1 | exact q_hB2 | exact q_hT6 | exact q_hT15 | exact q_hT24) (by first | assumption | exact q_hC (by assumption) | exact q_h1 (by assumption) | exact q_h3 (by assumption) | exact q_h5 (by assumption) | exact q_hG (by assumption) | exact q_hP | exact q_hB1 | exact q_hB2 | exact q_hT6 | exact q_hT15 | exact q_hT24)) ?_
  intro t1 w1 g1 p1
  obtain ⟨rfl, e1⟩ := p1
  refine Or.inl ⟨rfl, ?_⟩
  refine r_aload_n c195_25 rfl rfl ?_
  refine r_getr c195_26 (by first | assumption | omega) (by decide) (by first | assumption | rfl) rfl rfl ?_
  exact r_aret c195_29 ⟨rfl, rfl, rfl⟩ ⟨rfl, rfl, (by repeat (first | exact q_Fr.rf | refine q_Fr.ud ?_ (by omega) (by first | assumption | rfl) rfl | refine q_Fr.udz ?_ (by omega) (by first | assumption | decide | omega) | refine q_Fr.tr ?_ (by assumption) (by intro k9 hk9; omega)))⟩
theorem c179_0 : q_cat 179 0 (.aload_n 0) 1 0 0 (0) := ⟨rfl, rfl⟩
theorem c179_1 : q_cat 179 1 (.getfield 33) 3 8 4 (3) := ⟨rfl, rfl⟩
theorem c179_4 : q_cat 179 4 (.aload_n 0) 1 0 0 (0) := ⟨rfl, rfl⟩
theorem c179_5 : q_cat 179 5 (.getfield 26) 3 8 2 (3) := ⟨rfl, rfl⟩
theorem c179_8 : q_cat 179 8 (.invokevirtual 358) 3 127 0 (0) := ⟨rfl, rfl⟩
theorem c179_11 : q_cat 179 11 (.aload_n 0) 1 0 0 (0) := ⟨rfl, rfl⟩
theorem c179_12 : q_cat 179 12 (.getfield 33) 3 8 4 (3) := ⟨rfl, rfl⟩
theorem c179_15 : q_cat 179 15 (.iconst 0) 1 0 0 (0) := ⟨rfl, rfl⟩
theorem c179_16 : q_cat 179 16 (.putfield 108) 3 6 6 (1) := ⟨rfl, rfl⟩
theorem c179_19 : q_cat 179 19 (.aload_n 0) 1 0 0 (0) := ⟨rfl, rfl⟩
theorem c179_20 : q_cat 179 20 (.getfield 33) 3 8 4 (3) := ⟨rfl, rfl⟩
theorem c179_23 : q_cat 179 23 (.aload_n 0) 1 0 0 (0) := ⟨rfl, rfl⟩
theorem c179_24 : q_cat 179 24 (.invokevirtual 215) 3 195 0 (0) := ⟨rfl, rfl⟩
theorem c179_27 : q_cat 179 27 (.aload_n 0) 1 0 0 (0) := ⟨rfl, rfl⟩
theorem c179_28 : q_cat 179 28 (.getfield 26) 3 8 2 (3) := ⟨rfl, rfl⟩
theorem c179_31 : q_cat 179 31 (.getfield 114) 3 6 3 (3) := ⟨rfl, rfl⟩
theorem c179_34 : q_cat 179 34 (.getfield 117) 3 7 1 (0) := ⟨rfl, rfl⟩
theorem c179_37 : q_cat 179 37 (.invokevirtual 219) 3 138 0 (0) := ⟨rfl, rfl⟩
theorem c179_40 : q_cat 179 40 (.pop) 1 0 0 (0) := ⟨rfl, rfl⟩
theorem c179_41 : q_cat 179 41 (.aload_n 0) 1 0 0 (0) := ⟨rfl, rfl⟩
theorem c179_42 : q_cat 179 42 (.getfield 33) 3 8 4 (3) := ⟨rfl, rfl⟩
theorem c179_45 : q_cat 179 45 (.areturn) 1 0 0 (0) := ⟨rfl, rfl⟩
theorem k179 {Γ : q_Γ} (hG : q_GG Γ) {h : q_F} (hZ : q_Bz h)   :
    q_M Γ q_K 155 179 [(2, Int.ofNat 0)] h (fun t w h' => (t = 1 ∧ (w = ((2, Int.ofNat 24) : q_V)) ∧ q_Fr (fun k => k = 0 ∨ (6 ≤ k ∧ k ≤ 138)) h h')) := by
  have hT6 := q_hT6
  obtain ⟨fT6_0, fT6_1, fT6_2, fT6_3, fT6_4, fT6_5, fT6_6, fT6_7, fT6_8, fT6_9, fT6_10⟩ := q_fT hT6
  have hT15 := q_hT15
  obtain ⟨fT15_0, fT15_1, fT15_2, fT15_3, fT15_4, fT15_5, fT15_6, fT15_7, fT15_8, fT15_9, fT15_10⟩ := q_fT hT15
  have hT24 := q_hT24
  obtain ⟨fT24_0, fT24_1, fT24_2, fT24_3, fT24_4, fT24_5, fT24_6, fT24_7, fT24_8, fT24_9, fT24_10⟩ := q_fT hT24
  obtain ⟨gP0, gP1, gP2, gP3⟩ := q_fG q_hP
  refine q_M.of (by decide) (Nat.le_of_ble_eq_true rfl) hG ?_
  refine r_aload_n c179_0 rfl rfl ?_
  refine r_getr c179_1 (by first | assumption | omega) (by decide) (by first | assumption | rfl) rfl rfl ?_
  refine r_aload_n c179_4 rfl rfl ?_
  refine r_getr c179_5 (by first | assumption | omega) (by decide) (by first | assumption | rfl) rfl rfl ?_
  refine r_vcG c179_8 (by first | assumption | omega) (by decide) (by first | assumption | rfl) rfl rfl rfl (k127 hG (q_Fr.bz (S := fun k => k = 0 ∨ (6 ≤ k ∧ k ≤ 138)) hZ (by repeat (first | exact q_Fr.rf | refine q_Fr.ud ?_ (by omega) (by first | assumption | rfl) rfl | refine q_Fr.udz ?_ (by omega) (by first | assumption | decide | omega) | refine q_Fr.tr ?_ (by assumption) (by intro k9 hk9; omega)))) (by first | assumption | exact q_hC (by assumption) | exact q_h1 (by assumption) | exact q_h3 (by assumption) | exact q_h5 (by assumption) | exact q_hG (by assumption) | exact q_hP | exact q_hB1 | exact q_hB2 | exact q_hT6 | exact q_hT15 | exact q_hT24) (by first | assumption | exact q_hC (by assumption) | exact q_h1 (by assumption) | exact q_h3 (by assumption) | exact q_h5 (by assumption) | exact q_hG (by assumption) | exact q_hP | exact q_hB1 | exact q_hB2 | exact q_hT6 | exact q_hT15 | exact q_hT24)) ?_
  intro t1 w1 g1 p1
  obtain ⟨rfl, e1⟩ := p1
  refine Or.inl ⟨rfl, ?_⟩
  refine r_aload_n c179_11 rfl rfl ?_
  refine r_getr c179_12 (by first | assumption | omega) (by decide) (by first | assumption | rfl) rfl rfl ?_
  refine r_iconst c179_15 rfl ?_
  refine r_puti c179_16 (by first | assumption | omega) (by decide) (by first | assumption | rfl) rfl rfl rfl ?_
  refine r_aload_n c179_19 rfl rfl ?_
  refine r_getr c179_20 (by first | assumption | omega) (by decide) (by first | assumption | rfl) rfl rfl ?_
  refine r_aload_n c179_23 rfl rfl ?_
  refine r_vcG c179_24 (by first | assumption | omega) (by decide) (by first | assumption | rfl) rfl rfl rfl (k195 hG (q_Fr.bz (S := fun k => k = 0 ∨ (6 ≤ k ∧ k ≤ 138)) hZ (by repeat (first | exact q_Fr.rf | refine q_Fr.ud ?_ (by omega) (by first | assumption | rfl) rfl | refine q_Fr.udz ?_ (by omega) (by first | assumption | decide | omega) | refine q_Fr.tr ?_ (by assumption) (by intro k9 hk9; omega))))) ?_
  intro t2 w2 g2 p2
  obtain ⟨rfl, rfl, e2⟩ := p2
  refine Or.inr (Or.inl ⟨rfl, ?_⟩)
  refine r_aload_n c179_27 rfl rfl ?_
  refine r_getr c179_28 (by first | assumption | omega) (by decide) (by first | assumption | rfl) rfl rfl ?_
  refine r_getr c179_31 (by first | assumption | omega) (by decide) (by first | assumption | rfl) rfl rfl ?_
  refine r_geti c179_34 (by first | assumption | omega) (by decide) (by first | assumption | rfl) rfl rfl ?_
  refine r_vcG c179_37 (by first | assumption | omega) (by decide) (by first | assumption | rfl) rfl rfl rfl (k138 hG (q_Fr.bz (S := fun k => k = 0 ∨ (6 ≤ k ∧ k ≤ 138)) hZ (by repeat (first | exact q_Fr.rf | refine q_Fr.ud ?_ (by omega) (by first | assumption | rfl) rfl | refine q_Fr.udz ?_ (by omega) (by first | assumption | decide | omega) | refine q_Fr.tr ?_ (by assumption) (by intro k9 hk9; omega)))) (by first | assumption | exact q_hC (by assumption) | exact q_h1 (by assumption) | exact q_h3 (by assumption) | exact q_h5 (by assumption) | exact q_hG (by assumption) | exact q_hP | exact q_hB1 | exact q_hB2 | exact q_hT6 | exact q_hT15 | exact q_hT24)) ?_
  intro t3 w3 g3 p3
  obtain ⟨rfl, ⟨z3, rfl⟩, e3⟩ := p3
  refine Or.inr (Or.inl ⟨rfl, ?_⟩)
  refine r_pop c179_40 rfl rfl ?_
  refine r_aload_n c179_41 rfl rfl ?_
  refine r_getr c179_42 (by first | assumption | omega) (by decide) (by first | assumption | rfl) rfl rfl ?_
  exact r_aret c179_45 ⟨rfl, rfl, rfl⟩ ⟨rfl, rfl, (by repeat (first | exact q_Fr.rf | refine q_Fr.ud ?_ (by omega) (by first | assumption | rfl) rfl | refine q_Fr.udz ?_ (by omega) (by first | assumption | decide | omega) | refine q_Fr.tr ?_ (by assumption) (by intro k9 hk9; omega)))⟩
theorem c177_0 : q_cat 177 0 (.aload_n 0) 1 0 0 (0) := ⟨rfl, rfl⟩
theorem c177_1 : q_cat 177 1 (.getfield 19) 3 8 1 (3) := ⟨rfl, rfl⟩
theorem c177_4 : q_cat 177 4 (.getfield 72) 3 5 4 (0) := ⟨rfl, rfl⟩
theorem c177_7 : q_cat 177 7 (.ireturn) 1 0 0 (0) := ⟨rfl, rfl⟩
theorem k177 {Γ : q_Γ} (hG : q_GG Γ) {h : q_F} (hZ : q_Bz h)   :
    q_M Γ q_K 155 177 [(2, Int.ofNat 0)] h (fun t w h' => (t = 1 ∧ (∃ z, w = ((0, z) : q_V)) ∧ h' = h)) := by
  have hT6 := q_hT6
  obtain ⟨fT6_0, fT6_1, fT6_2, fT6_3, fT6_4, fT6_5, fT6_6, fT6_7, fT6_8, fT6_9, fT6_10⟩ := q_fT hT6
  have hT15 := q_hT15
  obtain ⟨fT15_0, fT15_1, fT15_2, fT15_3, fT15_4, fT15_5, fT15_6, fT15_7, fT15_8, fT15_9, fT15_10⟩ := q_fT hT15
  have hT24 := q_hT24
  obtain ⟨fT24_0, fT24_1, fT24_2, fT24_3, fT24_4, fT24_5, fT24_6, fT24_7, fT24_8, fT24_9, fT24_10⟩ := q_fT hT24
  obtain ⟨gP0, gP1, gP2, gP3⟩ := q_fG q_hP
  refine q_M.of (by decide) (Nat.le_of_ble_eq_true rfl) hG ?_
  refine r_aload_n c177_0 rfl rfl ?_
  refine r_getr c177_1 (by first | assumption | omega) (by decide) (by first | assumption | rfl) rfl rfl ?_
  refine r_geti c177_4 (by first | assumption | omega) (by decide) (by first | assumption | rfl) rfl rfl ?_
  exact r_iret c177_7 ⟨rfl, rfl, rfl⟩ ⟨rfl, ⟨_, rfl⟩, rfl⟩
theorem c178_0 : q_cat 178 0 (.aload_n 0) 1 0 0 (0) := ⟨rfl, rfl⟩
theorem c178_1 : q_cat 178 1 (.getfield 19) 3 8 1 (3) := ⟨rfl, rfl⟩
theorem c178_4 : q_cat 178 4 (.getfield 99) 3 5 5 (0) := ⟨rfl, rfl⟩
theorem c178_7 : q_cat 178 7 (.ireturn) 1 0 0 (0) := ⟨rfl, rfl⟩
theorem k178 {Γ : q_Γ} (hG : q_GG Γ) {h : q_F} (hZ : q_Bz h)   :
    q_M Γ q_K 155 178 [(2, Int.ofNat 0)] h (fun t w h' => (t = 1 ∧ (∃ z, w = ((0, z) : q_V)) ∧ h' = h)) := by
  have hT6 := q_hT6
  obtain ⟨fT6_0, fT6_1, fT6_2, fT6_3, fT6_4, fT6_5, fT6_6, fT6_7, fT6_8, fT6_9, fT6_10⟩ := q_fT hT6
  have hT15 := q_hT15
  obtain ⟨fT15_0, fT15_1, fT15_2, fT15_3, fT15_4, fT15_5, fT15_6, fT15_7, fT15_8, fT15_9, fT15_10⟩ := q_fT hT15
  have hT24 := q_hT24
  obtain ⟨fT24_0, fT24_1, fT24_2, fT24_3, fT24_4, fT24_5, fT24_6, fT24_7, fT24_8, fT24_9, fT24_10⟩ := q_fT hT24
  obtain ⟨gP0, gP1, gP2, gP3⟩ := q_fG q_hP
  refine q_M.of (by decide) (Nat.le_of_ble_eq_true rfl) hG ?_
  refine r_aload_n c178_0 rfl rfl ?_
  refine r_getr c178_1 (by first | assumption | omega) (by decide) (by first | assumption | rfl) rfl rfl ?_
  refine r_geti c178_4 (by first | assumption | omega) (by decide) (by first | assumption | rfl) rfl rfl ?_
  exact r_iret c178_7 ⟨rfl, rfl, rfl⟩ ⟨rfl, ⟨_, rfl⟩, rfl⟩
theorem c171_0 : q_cat 171 0 (.iload_n 1) 1 1 0 (0) := ⟨rfl, rfl⟩
theorem c171_1 : q_cat 171 1 (.tableswitch 118 0 6 #[43, 51, 67, 83, 91, 102, 110]) 43 0 0 (0) := ⟨rfl, rfl⟩
theorem c171_44 : q_cat 171 44 (.aload_n 0) 1 0 0 (0) := ⟨rfl, rfl⟩
theorem c171_45 : q_cat 171 45 (.getfield 26) 3 8 2 (3) := ⟨rfl, rfl⟩
theorem c171_48 : q_cat 171 48 (.getfield 102) 3 6 4 (0) := ⟨rfl, rfl⟩
theorem c171_51 : q_cat 171 51 (.ireturn) 1 0 0 (0) := ⟨rfl, rfl⟩
theorem c171_52 : q_cat 171 52 (.aload_n 0) 1 0 0 (0) := ⟨rfl, rfl⟩
theorem c171_53 : q_cat 171 53 (.getfield 26) 3 8 2 (3) := ⟨rfl, rfl⟩
theorem c171_56 : q_cat 171 56 (.getfield 105) 3 6 5 (1) := ⟨rfl, rfl⟩
theorem c171_59 : q_cat 171 59 (.ifCond .eq 7) 3 66 0 (0) := ⟨rfl, rfl⟩
theorem c171_62 : q_cat 171 62 (.iconst 1) 1 0 0 (0) := ⟨rfl, rfl⟩
theorem c171_63 : q_cat 171 63 (.goto 4) 3 67 0 (0) := ⟨rfl, rfl⟩
theorem c171_66 : q_cat 171 66 (.iconst 0) 1 0 0 (0) := ⟨rfl, rfl⟩
theorem c171_67 : q_cat 171 67 (.ireturn) 1 0 0 (0) := ⟨rfl, rfl⟩
theorem c171_68 : q_cat 171 68 (.aload_n 0) 1 0 0 (0) := ⟨rfl, rfl⟩
theorem c171_69 : q_cat 171 69 (.getfield 26) 3 8 2 (3) := ⟨rfl, rfl⟩
theorem c171_72 : q_cat 171 72 (.getfield 108) 3 6 6 (1) := ⟨rfl, rfl⟩
theorem c171_75 : q_cat 171 75 (.ifCond .eq 7) 3 82 0 (0) := ⟨rfl, rfl⟩
theorem c171_78 : q_cat 171 78 (.iconst 1) 1 0 0 (0) := ⟨rfl, rfl⟩
theorem c171_79 : q_cat 171 79 (.goto 4) 3 83 0 (0) := ⟨rfl, rfl⟩
theorem c171_82 : q_cat 171 82 (.iconst 0) 1 0 0 (0) := ⟨rfl, rfl⟩
theorem c171_83 : q_cat 171 83 (.ireturn) 1 0 0 (0) := ⟨rfl, rfl⟩
theorem c171_84 : q_cat 171 84 (.aload_n 0) 1 0 0 (0) := ⟨rfl, rfl⟩
theorem c171_85 : q_cat 171 85 (.getfield 26) 3 8 2 (3) := ⟨rfl, rfl⟩
theorem c171_88 : q_cat 171 88 (.getfield 111) 3 6 7 (0) := ⟨rfl, rfl⟩
theorem c171_91 : q_cat 171 91 (.ireturn) 1 0 0 (0) := ⟨rfl, rfl⟩
theorem c171_92 : q_cat 171 92 (.aload_n 0) 1 0 0 (0) := ⟨rfl, rfl⟩
theorem c171_93 : q_cat 171 93 (.getfield 26) 3 8 2 (3) := ⟨rfl, rfl⟩
theorem c171_96 : q_cat 171 96 (.getfield 114) 3 6 3 (3) := ⟨rfl, rfl⟩
theorem c171_99 : q_cat 171 99 (.getfield 117) 3 7 1 (0) := ⟨rfl, rfl⟩
theorem c171_102 : q_cat 171 102 (.ireturn) 1 0 0 (0) := ⟨rfl, rfl⟩
theorem c171_103 : q_cat 171 103 (.aload_n 0) 1 0 0 (0) := ⟨rfl, rfl⟩
theorem c171_104 : q_cat 171 104 (.getfield 26) 3 8 2 (3) := ⟨rfl, rfl⟩
theorem c171_107 : q_cat 171 107 (.invokevirtual 120) 3 132 0 (0) := ⟨rfl, rfl⟩
theorem c171_110 : q_cat 171 110 (.ireturn) 1 0 0 (0) := ⟨rfl, rfl⟩
theorem c171_111 : q_cat 171 111 (.aload_n 0) 1 0 0 (0) := ⟨rfl, rfl⟩
theorem c171_112 : q_cat 171 112 (.getfield 39) 3 8 5 (3) := ⟨rfl, rfl⟩
theorem c171_115 : q_cat 171 115 (.getfield 124) 3 3 1 (0) := ⟨rfl, rfl⟩
theorem c171_118 : q_cat 171 118 (.ireturn) 1 0 0 (0) := ⟨rfl, rfl⟩
theorem c171_119 : q_cat 171 119 (.new 125) 3 0 130 (127) := ⟨rfl, rfl⟩
theorem c171_122 : q_cat 171 122 (.dup) 1 0 0 (0) := ⟨rfl, rfl⟩
theorem k171 {Γ : q_Γ} (hG : q_GG Γ) {h : q_F} (hZ : q_Bz h) {v1 : Int}  :
    q_M Γ q_K 155 171 [(2, Int.ofNat 0), (0, v1)] h (fun t w h' => (t = 1 ∧ (∃ z, w = ((0, z) : q_V)) ∧ h' = h) ∨ (t = 2 ∧ h' = h)) := by
  have hT6 := q_hT6
  obtain ⟨fT6_0, fT6_1, fT6_2, fT6_3, fT6_4, fT6_5, fT6_6, fT6_7, fT6_8, fT6_9, fT6_10⟩ := q_fT hT6
  have hT15 := q_hT15
  obtain ⟨fT15_0, fT15_1, fT15_2, fT15_3, fT15_4, fT15_5, fT15_6, fT15_7, fT15_8, fT15_9, fT15_10⟩ := q_fT hT15
  have hT24 := q_hT24
  obtain ⟨fT24_0, fT24_1, fT24_2, fT24_3, fT24_4, fT24_5, fT24_6, fT24_7, fT24_8, fT24_9, fT24_10⟩ := q_fT hT24
  obtain ⟨gP0, gP1, gP2, gP3⟩ := q_fG q_hP
  refine q_M.of (by decide) (Nat.le_of_ble_eq_true rfl) hG ?_
  refine r_iload_n c171_0 rfl rfl ?_
  refine r_tsw c171_1 (td := 119) (by first | exact q_w32_id (by omega) (by omega) | exact q_w32w _ | exact rfl) (by decide) (by decide) rfl rfl ?_ ?_
  · intro b1
    exact r_thr (y := 129) c171_119 rfl (Or.inr (⟨rfl, rfl⟩))
  · intro b1 b1b
    obtain e0 | e1 | e2 | e3 | e4 | e5 | e6 : _ = (0 : Int) ∨ _ = (1 : Int) ∨ _ = (2 : Int) ∨ _ = (3 : Int) ∨ _ = (4 : Int) ∨ _ = (5 : Int) ∨ _ = (6 : Int) := q_sw6 b1 b1b
    · refine ⟨44, by rw [e0]; rfl, ?_⟩
      refine r_aload_n c171_44 rfl rfl ?_
      refine r_getr c171_45 (by first | assumption | omega) (by decide) (by first | assumption | rfl) rfl rfl ?_
      refine r_geti c171_48 (by first | assumption | omega) (by decide) (by first | assumption | rfl) rfl rfl ?_
      exact r_iret c171_51 ⟨rfl, rfl, rfl⟩ (Or.inl ⟨rfl, ⟨_, rfl⟩, rfl⟩)
    · refine ⟨52, by rw [e1]; rfl, ?_⟩
      refine r_aload_n c171_52 rfl rfl ?_
      refine r_getr c171_53 (by first | assumption | omega) (by decide) (by first | assumption | rfl) rfl rfl ?_
      refine r_getz hZ c171_56 (by first | assumption | omega) (by decide) (by first | assumption | rfl) rfl rfl rfl ?_
      intro z2
      refine r_if_eq c171_59 rfl (by first | exact q_w32_id (by omega) (by omega) | exact q_w32w _ | exact rfl) ?_ ?_
      · intro b3
        refine r_iconst c171_66 rfl ?_
        exact r_iret c171_67 ⟨rfl, rfl, rfl⟩ (Or.inl ⟨rfl, ⟨_, rfl⟩, rfl⟩)
      · intro b3
        refine r_iconst c171_62 rfl ?_
        refine r_goto c171_63 ?_
        exact r_iret c171_67 ⟨rfl, rfl, rfl⟩ (Or.inl ⟨rfl, ⟨_, rfl⟩, rfl⟩)
    · refine ⟨68, by rw [e2]; rfl, ?_⟩
      refine r_aload_n c171_68 rfl rfl ?_
      refine r_getr c171_69 (by first | assumption | omega) (by decide) (by first | assumption | rfl) rfl rfl ?_
      refine r_getz hZ c171_72 (by first | assumption | omega) (by decide) (by first | assumption | rfl) rfl rfl rfl ?_
      intro z4
      refine r_if_eq c171_75 rfl (by first | exact q_w32_id (by omega) (by omega) | exact q_w32w _ | exact rfl) ?_ ?_
      · intro b5
        refine r_iconst c171_82 rfl ?_
        exact r_iret c171_83 ⟨rfl, rfl, rfl⟩ (Or.inl ⟨rfl, ⟨_, rfl⟩, rfl⟩)
      · intro b5
        refine r_iconst c171_78 rfl ?_
        refine r_goto c171_79 ?_
        exact r_iret c171_83 ⟨rfl, rfl, rfl⟩ (Or.inl ⟨rfl, ⟨_, rfl⟩, rfl⟩)
    · refine ⟨84, by rw [e3]; rfl, ?_⟩
      refine r_aload_n c171_84 rfl rfl ?_
      refine r_getr c171_85 (by first | assumption | omega) (by decide) (by first | assumption | rfl) rfl rfl ?_
      refine r_geti c171_88 (by first | assumption | omega) (by decide) (by first | assumption | rfl) rfl rfl ?_
      exact r_iret c171_91 ⟨rfl, rfl, rfl⟩ (Or.inl ⟨rfl, ⟨_, rfl⟩, rfl⟩)
    · refine ⟨92, by rw [e4]; rfl, ?_⟩
      refine r_aload_n c171_92 rfl rfl ?_
      refine r_getr c171_93 (by first | assumption | omega) (by decide) (by first | assumption | rfl) rfl rfl ?_
      refine r_getr c171_96 (by first | assumption | omega) (by decide) (by first | assumption | rfl) rfl rfl ?_
      refine r_geti c171_99 (by first | assumption | omega) (by decide) (by first | assumption | rfl) rfl rfl ?_
      exact r_iret c171_102 ⟨rfl, rfl, rfl⟩ (Or.inl ⟨rfl, ⟨_, rfl⟩, rfl⟩)
    · refine ⟨103, by rw [e5]; rfl, ?_⟩
      refine r_aload_n c171_103 rfl rfl ?_
      refine r_getr c171_104 (by first | assumption | omega) (by decide) (by first | assumption | rfl) rfl rfl ?_
      refine r_vcG c171_107 (by first | assumption | omega) (by decide) (by first | assumption | rfl) rfl rfl rfl (k132 hG hZ (by first | assumption | exact q_hC (by assumption) | exact q_h1 (by assumption) | exact q_h3 (by assumption) | exact q_h5 (by assumption) | exact q_hG (by assumption) | exact q_hP | exact q_hB1 | exact q_hB2 | exact q_hT6 | exact q_hT15 | exact q_hT24)) ?_
      intro t6 w6 g6 p6
      obtain ⟨rfl, ⟨z6, rfl⟩, rfl⟩ := p6
      refine Or.inr (Or.inl ⟨rfl, ?_⟩)
      exact r_iret c171_110 ⟨rfl, rfl, rfl⟩ (Or.inl ⟨rfl, ⟨_, rfl⟩, rfl⟩)
    · refine ⟨111, by rw [e6]; rfl, ?_⟩
      refine r_aload_n c171_111 rfl rfl ?_
      refine r_getr c171_112 (by first | assumption | omega) (by decide) (by first | assumption | rfl) rfl rfl ?_
      refine r_geti c171_115 (by first | assumption | omega) (by decide) (by first | assumption | rfl) rfl rfl ?_
      exact r_iret c171_118 ⟨rfl, rfl, rfl⟩ (Or.inl ⟨rfl, ⟨_, rfl⟩, rfl⟩)
theorem c157_0 : q_cat 157 0 (.aload_n 0) 1 0 0 (0) := ⟨rfl, rfl⟩
theorem c157_1 : q_cat 157 1 (.iload_n 1) 1 1 0 (0) := ⟨rfl, rfl⟩
theorem c157_2 : q_cat 157 2 (.invokevirtual 132) 3 162 0 (0) := ⟨rfl, rfl⟩
theorem c157_5 : q_cat 157 5 (.iload_n 2) 1 2 0 (0) := ⟨rfl, rfl⟩
theorem c157_6 : q_cat 157 6 (.ifCond .lt 9) 3 15 0 (0) := ⟨rfl, rfl⟩
theorem c157_9 : q_cat 157 9 (.iload_n 2) 1 2 0 (0) := ⟨rfl, rfl⟩
theorem c157_10 : q_cat 157 10 (.bipush 12) 2 0 0 (0) := ⟨rfl, rfl⟩
theorem c157_12 : q_cat 157 12 (.if_icmp .le 13) 3 25 0 (0) := ⟨rfl, rfl⟩
theorem c157_15 : q_cat 157 15 (.new 125) 3 0 130 (127) := ⟨rfl, rfl⟩
theorem c157_18 : q_cat 157 18 (.dup) 1 0 0 (0) := ⟨rfl, rfl⟩
theorem c157_25 : q_cat 157 25 (.aload_n 0) 1 0 0 (0) := ⟨rfl, rfl⟩
theorem c157_26 : q_cat 157 26 (.getfield 26) 3 8 2 (3) := ⟨rfl, rfl⟩
theorem c157_29 : q_cat 157 29 (.iload_n 1) 1 1 0 (0) := ⟨rfl, rfl⟩
theorem c157_30 : q_cat 157 30 (.invokevirtual 135) 3 125 0 (0) := ⟨rfl, rfl⟩
theorem c157_33 : q_cat 157 33 (.astore_n 3) 1 3 0 (0) := ⟨rfl, rfl⟩
theorem c157_34 : q_cat 157 34 (.iload_n 2) 1 2 0 (0) := ⟨rfl, rfl⟩
theorem c157_35 : q_cat 157 35 (.iconst 5) 1 0 0 (0) := ⟨rfl, rfl⟩
theorem c157_36 : q_cat 157 36 (.if_icmp .gt 11) 3 47 0 (0) := ⟨rfl, rfl⟩
theorem c157_39 : q_cat 157 39 (.aload_n 3) 1 3 0 (0) := ⟨rfl, rfl⟩
theorem c157_40 : q_cat 157 40 (.iload_n 2) 1 2 0 (0) := ⟨rfl, rfl⟩
theorem c157_41 : q_cat 157 41 (.invokevirtual 139) 3 45 0 (0) := ⟨rfl, rfl⟩
theorem c157_44 : q_cat 157 44 (.goto 8) 3 52 0 (0) := ⟨rfl, rfl⟩
theorem c157_47 : q_cat 157 47 (.aload_n 3) 1 3 0 (0) := ⟨rfl, rfl⟩
theorem c157_48 : q_cat 157 48 (.iload_n 2) 1 2 0 (0) := ⟨rfl, rfl⟩
theorem c157_49 : q_cat 157 49 (.invokevirtual 143) 3 50 0 (0) := ⟨rfl, rfl⟩
theorem c157_52 : q_cat 157 52 (.ireturn) 1 0 0 (0) := ⟨rfl, rfl⟩
theorem k157 {Γ : q_Γ} (hG : q_GG Γ) {h : q_F} (hZ : q_Bz h) {v1 : Int} {v2 : Int}  :
    q_M Γ q_K 155 157 [(2, Int.ofNat 0), (0, v1), (0, v2)] h (fun t w h' => (t = 1 ∧ (∃ z, w = ((0, z) : q_V)) ∧ h' = h) ∨ (t = 2 ∧ h' = h) ∨ (t = 3 ∧ h' = h)) := by
  have hT6 := q_hT6
  obtain ⟨fT6_0, fT6_1, fT6_2, fT6_3, fT6_4, fT6_5, fT6_6, fT6_7, fT6_8, fT6_9, fT6_10⟩ := q_fT hT6
  have hT15 := q_hT15
  obtain ⟨fT15_0, fT15_1, fT15_2, fT15_3, fT15_4, fT15_5, fT15_6, fT15_7, fT15_8, fT15_9, fT15_10⟩ := q_fT hT15
  have hT24 := q_hT24
  obtain ⟨fT24_0, fT24_1, fT24_2, fT24_3, fT24_4, fT24_5, fT24_6, fT24_7, fT24_8, fT24_9, fT24_10⟩ := q_fT hT24
  obtain ⟨gP0, gP1, gP2, gP3⟩ := q_fG q_hP
  refine q_M.of (by decide) (Nat.le_of_ble_eq_true rfl) hG ?_
  refine r_aload_n c157_0 rfl rfl ?_
  refine r_iload_n c157_1 rfl rfl ?_
  refine r_vcG c157_2 (by first | assumption | omega) (by decide) (by first | assumption | rfl) rfl rfl rfl (k162 hG hZ) ?_
  intro t1 w1 g1 p1
  rcases p1 with ⟨rfl, rfl⟩ | ⟨rfl, rfl⟩
  · skip
    refine Or.inl ⟨rfl, ?_⟩
    refine r_iload_n c157_5 rfl rfl ?_
    refine r_if_lt c157_6 rfl (by first | exact q_w32_id (by omega) (by omega) | exact q_w32w _ | exact rfl) ?_ ?_
    · intro b2
      exact r_thr (y := 129) c157_15 rfl (Or.inr (Or.inl ⟨rfl, rfl⟩))
    · intro b2
      refine r_iload_n c157_9 rfl rfl ?_
      refine r_bipush c157_10 rfl ?_
      refine r_ic_le c157_12 rfl (by first | exact q_w32_id (by omega) (by omega) | exact q_w32w _ | exact rfl) (show q_w32 (12) = 12 from rfl) ?_ ?_
      · intro b3
        refine r_aload_n c157_25 rfl rfl ?_
        refine r_getr c157_26 (by first | assumption | omega) (by decide) (by first | assumption | rfl) rfl rfl ?_
        refine r_iload_n c157_29 rfl rfl ?_
        refine r_vcG c157_30 (by first | assumption | omega) (by decide) (by first | assumption | rfl) rfl rfl rfl (k125 hG hZ (by first | assumption | exact q_hC (by assumption) | exact q_h1 (by assumption) | exact q_h3 (by assumption) | exact q_h5 (by assumption) | exact q_hG (by assumption) | exact q_hP | exact q_hB1 | exact q_hB2 | exact q_hT6 | exact q_hT15 | exact q_hT24)) ?_
        intro t4 w4 g4 p4
        obtain ⟨rfl, ⟨r4, rfl, ha4, hr4⟩, rfl⟩ := p4
        obtain ⟨fr40, fr41, fr42, fr43⟩ := q_fA ha4
        refine Or.inr (Or.inl ⟨rfl, ?_⟩)
        refine r_astore_n c157_33 (lo' := [(3, _), (0, _), (1, _), (2, _)]) rfl rfl rfl ?_
        refine r_iload_n c157_34 rfl rfl ?_
        refine r_iconst c157_35 rfl ?_
        refine r_ic_gt c157_36 rfl (by first | exact q_w32_id (by omega) (by omega) | exact q_w32w _ | exact rfl) (show q_w32 (5) = 5 from rfl) ?_ ?_
        · intro b5
          refine r_aload_n c157_47 rfl rfl ?_
          refine r_iload_n c157_48 rfl rfl ?_
          refine r_vcG c157_49 (by first | assumption | omega) (by decide) (by first | assumption | rfl) rfl rfl rfl (k50 hG hZ (by first | assumption | exact q_hC (by assumption) | exact q_h1 (by assumption) | exact q_h3 (by assumption) | exact q_h5 (by assumption) | exact q_hG (by assumption) | exact q_hP | exact q_hB1 | exact q_hB2 | exact q_hT6 | exact q_hT15 | exact q_hT24)) ?_
          intro t6 w6 g6 p6
          obtain ⟨rfl, ⟨z6, rfl⟩, rfl⟩ := p6
          refine Or.inr (Or.inl ⟨rfl, ?_⟩)
          exact r_iret c157_52 ⟨rfl, rfl, rfl⟩ (Or.inl ⟨rfl, ⟨_, rfl⟩, rfl⟩)
        · intro b5
          refine r_aload_n c157_39 rfl rfl ?_
          refine r_iload_n c157_40 rfl rfl ?_
          refine r_vcG c157_41 (by first | assumption | omega) (by decide) (by first | assumption | rfl) rfl rfl rfl (k45 hG hZ (by first | assumption | exact q_hC (by assumption) | exact q_h1 (by assumption) | exact q_h3 (by assumption) | exact q_h5 (by assumption) | exact q_hG (by assumption) | exact q_hP | exact q_hB1 | exact q_hB2 | exact q_hT6 | exact q_hT15 | exact q_hT24)) ?_
          intro t7 w7 g7 p7
          obtain ⟨rfl, ⟨z7, rfl⟩, rfl⟩ := p7
          refine Or.inr (Or.inl ⟨rfl, ?_⟩)
          refine r_goto c157_44 ?_
          exact r_iret c157_52 ⟨rfl, rfl, rfl⟩ (Or.inl ⟨rfl, ⟨_, rfl⟩, rfl⟩)
      · intro b3
        exact r_thr (y := 129) c157_15 rfl (Or.inr (Or.inl ⟨rfl, rfl⟩))
  · refine Or.inr (Or.inr ⟨1, rfl, ?_⟩)
    exact Or.inr ⟨rfl, (Or.inr (Or.inr (⟨rfl, rfl⟩)))⟩
theorem c170_0 : q_cat 170 0 (.aload_n 0) 1 0 0 (0) := ⟨rfl, rfl⟩
theorem c170_1 : q_cat 170 1 (.iload_n 1) 1 1 0 (0) := ⟨rfl, rfl⟩
theorem c170_2 : q_cat 170 2 (.invokevirtual 132) 3 162 0 (0) := ⟨rfl, rfl⟩
theorem c170_5 : q_cat 170 5 (.aload_n 0) 1 0 0 (0) := ⟨rfl, rfl⟩
theorem c170_6 : q_cat 170 6 (.iload_n 1) 1 1 0 (0) := ⟨rfl, rfl⟩
theorem c170_7 : q_cat 170 7 (.invokevirtual 146) 3 163 0 (0) := ⟨rfl, rfl⟩
theorem c170_10 : q_cat 170 10 (.aload_n 0) 1 0 0 (0) := ⟨rfl, rfl⟩
theorem c170_11 : q_cat 170 11 (.getfield 26) 3 8 2 (3) := ⟨rfl, rfl⟩
theorem c170_14 : q_cat 170 14 (.iload_n 1) 1 1 0 (0) := ⟨rfl, rfl⟩
theorem c170_15 : q_cat 170 15 (.invokevirtual 135) 3 125 0 (0) := ⟨rfl, rfl⟩
theorem c170_18 : q_cat 170 18 (.getfield 149) 3 1 12 (0) := ⟨rfl, rfl⟩
theorem c170_21 : q_cat 170 21 (.ireturn) 1 0 0 (0) := ⟨rfl, rfl⟩
theorem k170 {Γ : q_Γ} (hG : q_GG Γ) {h : q_F} (hZ : q_Bz h) {v1 : Int}  :
    q_M Γ q_K 155 170 [(2, Int.ofNat 0), (0, v1)] h (fun t w h' => (t = 1 ∧ (∃ z, w = ((0, z) : q_V)) ∧ h' = h) ∨ (t = 3 ∧ h' = h) ∨ (t = 4 ∧ h' = h)) := by
  have hT6 := q_hT6
  obtain ⟨fT6_0, fT6_1, fT6_2, fT6_3, fT6_4, fT6_5, fT6_6, fT6_7, fT6_8, fT6_9, fT6_10⟩ := q_fT hT6
  have hT15 := q_hT15
  obtain ⟨fT15_0, fT15_1, fT15_2, fT15_3, fT15_4, fT15_5, fT15_6, fT15_7, fT15_8, fT15_9, fT15_10⟩ := q_fT hT15
  have hT24 := q_hT24
  obtain ⟨fT24_0, fT24_1, fT24_2, fT24_3, fT24_4, fT24_5, fT24_6, fT24_7, fT24_8, fT24_9, fT24_10⟩ := q_fT hT24
  obtain ⟨gP0, gP1, gP2, gP3⟩ := q_fG q_hP
  refine q_M.of (by decide) (Nat.le_of_ble_eq_true rfl) hG ?_
  refine r_aload_n c170_0 rfl rfl ?_
  refine r_iload_n c170_1 rfl rfl ?_
  refine r_vcG c170_2 (by first | assumption | omega) (by decide) (by first | assumption | rfl) rfl rfl rfl (k162 hG hZ) ?_
  intro t1 w1 g1 p1
  rcases p1 with ⟨rfl, rfl⟩ | ⟨rfl, rfl⟩
  · skip
    refine Or.inl ⟨rfl, ?_⟩
    refine r_aload_n c170_5 rfl rfl ?_
    refine r_iload_n c170_6 rfl rfl ?_
    refine r_vcG c170_7 (by first | assumption | omega) (by decide) (by first | assumption | rfl) rfl rfl rfl (k163 hG hZ) ?_
    intro t2 w2 g2 p2
    rcases p2 with ⟨rfl, rfl⟩ | ⟨rfl, rfl⟩
    · skip
      refine Or.inl ⟨rfl, ?_⟩
      refine r_aload_n c170_10 rfl rfl ?_
      refine r_getr c170_11 (by first | assumption | omega) (by decide) (by first | assumption | rfl) rfl rfl ?_
      refine r_iload_n c170_14 rfl rfl ?_
      refine r_vcG c170_15 (by first | assumption | omega) (by decide) (by first | assumption | rfl) rfl rfl rfl (k125 hG hZ (by first | assumption | exact q_hC (by assumption) | exact q_h1 (by assumption) | exact q_h3 (by assumption) | exact q_h5 (by assumption) | exact q_hG (by assumption) | exact q_hP | exact q_hB1 | exact q_hB2 | exact q_hT6 | exact q_hT15 | exact q_hT24)) ?_
      intro t3 w3 g3 p3
      obtain ⟨rfl, ⟨r3, rfl, ha3, hr3⟩, rfl⟩ := p3
      obtain ⟨fr30, fr31, fr32, fr33⟩ := q_fA ha3
      refine Or.inr (Or.inl ⟨rfl, ?_⟩)
      refine r_geti c170_18 (by first | assumption | omega) (by decide) (by first | assumption | rfl) rfl rfl ?_
      exact r_iret c170_21 ⟨rfl, rfl, rfl⟩ (Or.inl ⟨rfl, ⟨_, rfl⟩, rfl⟩)
    · refine Or.inr (Or.inr ⟨2, rfl, ?_⟩)
      exact Or.inr ⟨rfl, (Or.inr (Or.inr (⟨rfl, rfl⟩)))⟩
  · refine Or.inr (Or.inr ⟨1, rfl, ?_⟩)
    exact Or.inr ⟨rfl, (Or.inr (Or.inl ⟨rfl, rfl⟩))⟩
theorem c176_0 : q_cat 176 0 (.aload_n 0) 1 0 0 (0) := ⟨rfl, rfl⟩
theorem c176_1 : q_cat 176 1 (.iload_n 1) 1 1 0 (0) := ⟨rfl, rfl⟩
theorem c176_2 : q_cat 176 2 (.invokevirtual 132) 3 162 0 (0) := ⟨rfl, rfl⟩
theorem c176_5 : q_cat 176 5 (.aload_n 0) 1 0 0 (0) := ⟨rfl, rfl⟩
theorem c176_6 : q_cat 176 6 (.iload_n 1) 1 1 0 (0) := ⟨rfl, rfl⟩
theorem c176_7 : q_cat 176 7 (.invokevirtual 146) 3 163 0 (0) := ⟨rfl, rfl⟩
theorem c176_10 : q_cat 176 10 (.aload_n 0) 1 0 0 (0) := ⟨rfl, rfl⟩
theorem c176_11 : q_cat 176 11 (.getfield 26) 3 8 2 (3) := ⟨rfl, rfl⟩
theorem c176_14 : q_cat 176 14 (.iload_n 1) 1 1 0 (0) := ⟨rfl, rfl⟩
theorem c176_15 : q_cat 176 15 (.invokevirtual 135) 3 125 0 (0) := ⟨rfl, rfl⟩
theorem c176_18 : q_cat 176 18 (.invokevirtual 152) 3 47 0 (0) := ⟨rfl, rfl⟩
theorem c176_21 : q_cat 176 21 (.ireturn) 1 0 0 (0) := ⟨rfl, rfl⟩
theorem k176 {Γ : q_Γ} (hG : q_GG Γ) {h : q_F} (hZ : q_Bz h) {v1 : Int}  :
    q_M Γ q_K 155 176 [(2, Int.ofNat 0), (0, v1)] h (fun t w h' => (t = 1 ∧ (∃ z, w = ((0, z) : q_V)) ∧ h' = h) ∨ (t = 3 ∧ h' = h) ∨ (t = 4 ∧ h' = h)) := by
  have hT6 := q_hT6
  obtain ⟨fT6_0, fT6_1, fT6_2, fT6_3, fT6_4, fT6_5, fT6_6, fT6_7, fT6_8, fT6_9, fT6_10⟩ := q_fT hT6
  have hT15 := q_hT15
  obtain ⟨fT15_0, fT15_1, fT15_2, fT15_3, fT15_4, fT15_5, fT15_6, fT15_7, fT15_8, fT15_9, fT15_10⟩ := q_fT hT15
  have hT24 := q_hT24
  obtain ⟨fT24_0, fT24_1, fT24_2, fT24_3, fT24_4, fT24_5, fT24_6, fT24_7, fT24_8, fT24_9, fT24_10⟩ := q_fT hT24
  obtain ⟨gP0, gP1, gP2, gP3⟩ := q_fG q_hP
  refine q_M.of (by decide) (Nat.le_of_ble_eq_true rfl) hG ?_
  refine r_aload_n c176_0 rfl rfl ?_
  refine r_iload_n c176_1 rfl rfl ?_
  refine r_vcG c176_2 (by first | assumption | omega) (by decide) (by first | assumption | rfl) rfl rfl rfl (k162 hG hZ) ?_
  intro t1 w1 g1 p1
  rcases p1 with ⟨rfl, rfl⟩ | ⟨rfl, rfl⟩
  · skip
    refine Or.inl ⟨rfl, ?_⟩
    refine r_aload_n c176_5 rfl rfl ?_
    refine r_iload_n c176_6 rfl rfl ?_
    refine r_vcG c176_7 (by first | assumption | omega) (by decide) (by first | assumption | rfl) rfl rfl rfl (k163 hG hZ) ?_
    intro t2 w2 g2 p2
    rcases p2 with ⟨rfl, rfl⟩ | ⟨rfl, rfl⟩
    · skip
      refine Or.inl ⟨rfl, ?_⟩
      refine r_aload_n c176_10 rfl rfl ?_
      refine r_getr c176_11 (by first | assumption | omega) (by decide) (by first | assumption | rfl) rfl rfl ?_
      refine r_iload_n c176_14 rfl rfl ?_
      refine r_vcG c176_15 (by first | assumption | omega) (by decide) (by first | assumption | rfl) rfl rfl rfl (k125 hG hZ (by first | assumption | exact q_hC (by assumption) | exact q_h1 (by assumption) | exact q_h3 (by assumption) | exact q_h5 (by assumption) | exact q_hG (by assumption) | exact q_hP | exact q_hB1 | exact q_hB2 | exact q_hT6 | exact q_hT15 | exact q_hT24)) ?_
      intro t3 w3 g3 p3
      obtain ⟨rfl, ⟨r3, rfl, ha3, hr3⟩, rfl⟩ := p3
      obtain ⟨fr30, fr31, fr32, fr33⟩ := q_fA ha3
      refine Or.inr (Or.inl ⟨rfl, ?_⟩)
      refine r_vcG c176_18 (by first | assumption | omega) (by decide) (by first | assumption | rfl) rfl rfl rfl (k47 hG hZ (by first | assumption | exact q_hC (by assumption) | exact q_h1 (by assumption) | exact q_h3 (by assumption) | exact q_h5 (by assumption) | exact q_hG (by assumption) | exact q_hP | exact q_hB1 | exact q_hB2 | exact q_hT6 | exact q_hT15 | exact q_hT24)) ?_
      intro t4 w4 g4 p4
      obtain ⟨rfl, ⟨z4, rfl⟩, rfl⟩ := p4
      refine Or.inr (Or.inl ⟨rfl, ?_⟩)
      exact r_iret c176_21 ⟨rfl, rfl, rfl⟩ (Or.inl ⟨rfl, ⟨_, rfl⟩, rfl⟩)
    · refine Or.inr (Or.inr ⟨2, rfl, ?_⟩)
      exact Or.inr ⟨rfl, (Or.inr (Or.inr (⟨rfl, rfl⟩)))⟩
  · refine Or.inr (Or.inr ⟨1, rfl, ?_⟩)
    exact Or.inr ⟨rfl, (Or.inr (Or.inl ⟨rfl, rfl⟩))⟩
theorem c204_0 : q_cat 204 0 (.aload_n 0) 1 0 0 (0) := ⟨rfl, rfl⟩
theorem c204_1 : q_cat 204 1 (.iload_n 1) 1 1 0 (0) := ⟨rfl, rfl⟩
theorem c204_2 : q_cat 204 2 (.invokevirtual 132) 3 162 0 (0) := ⟨rfl, rfl⟩
theorem c204_5 : q_cat 204 5 (.aload_n 0) 1 0 0 (0) := ⟨rfl, rfl⟩
theorem c204_6 : q_cat 204 6 (.getfield 26) 3 8 2 (3) := ⟨rfl, rfl⟩
theorem c204_9 : q_cat 204 9 (.iload_n 1) 1 1 0 (0) := ⟨rfl, rfl⟩
theorem c204_10 : q_cat 204 10 (.invokevirtual 135) 3 125 0 (0) := ⟨rfl, rfl⟩
theorem c204_13 : q_cat 204 13 (.invokevirtual 155) 3 54 0 (0) := ⟨rfl, rfl⟩
theorem c204_16 : q_cat 204 16 (.ireturn) 1 0 0 (0) := ⟨rfl, rfl⟩
theorem k204 {Γ : q_Γ} (hG : q_GG Γ) {h : q_F} (hZ : q_Bz h) {v1 : Int}  :
    q_M Γ q_K 155 204 [(2, Int.ofNat 0), (0, v1)] h (fun t w h' => (t = 1 ∧ (∃ z, w = ((0, z) : q_V) ∧ (z = 0 ∨ z = 1)) ∧ h' = h) ∨ (t = 3 ∧ h' = h)) := by
  have hT6 := q_hT6
  obtain ⟨fT6_0, fT6_1, fT6_2, fT6_3, fT6_4, fT6_5, fT6_6, fT6_7, fT6_8, fT6_9, fT6_10⟩ := q_fT hT6
  have hT15 := q_hT15
  obtain ⟨fT15_0, fT15_1, fT15_2, fT15_3, fT15_4, fT15_5, fT15_6, fT15_7, fT15_8, fT15_9, fT15_10⟩ := q_fT hT15
  have hT24 := q_hT24
  obtain ⟨fT24_0, fT24_1, fT24_2, fT24_3, fT24_4, fT24_5, fT24_6, fT24_7, fT24_8, fT24_9, fT24_10⟩ := q_fT hT24
  obtain ⟨gP0, gP1, gP2, gP3⟩ := q_fG q_hP
  refine q_M.of (by decide) (Nat.le_of_ble_eq_true rfl) hG ?_
  refine r_aload_n c204_0 rfl rfl ?_
  refine r_iload_n c204_1 rfl rfl ?_
  refine r_vcG c204_2 (by first | assumption | omega) (by decide) (by first | assumption | rfl) rfl rfl rfl (k162 hG hZ) ?_
  intro t1 w1 g1 p1
  rcases p1 with ⟨rfl, rfl⟩ | ⟨rfl, rfl⟩
  · skip
    refine Or.inl ⟨rfl, ?_⟩
    refine r_aload_n c204_5 rfl rfl ?_
    refine r_getr c204_6 (by first | assumption | omega) (by decide) (by first | assumption | rfl) rfl rfl ?_
    refine r_iload_n c204_9 rfl rfl ?_
    refine r_vcG c204_10 (by first | assumption | omega) (by decide) (by first | assumption | rfl) rfl rfl rfl (k125 hG hZ (by first | assumption | exact q_hC (by assumption) | exact q_h1 (by assumption) | exact q_h3 (by assumption) | exact q_h5 (by assumption) | exact q_hG (by assumption) | exact q_hP | exact q_hB1 | exact q_hB2 | exact q_hT6 | exact q_hT15 | exact q_hT24)) ?_
    intro t2 w2 g2 p2
    obtain ⟨rfl, ⟨r2, rfl, ha2, hr2⟩, rfl⟩ := p2
    obtain ⟨fr20, fr21, fr22, fr23⟩ := q_fA ha2
    refine Or.inr (Or.inl ⟨rfl, ?_⟩)
    refine r_vcG c204_13 (by first | assumption | omega) (by decide) (by first | assumption | rfl) rfl rfl rfl (k54 hG hZ (by first | assumption | exact q_hC (by assumption) | exact q_h1 (by assumption) | exact q_h3 (by assumption) | exact q_h5 (by assumption) | exact q_hG (by assumption) | exact q_hP | exact q_hB1 | exact q_hB2 | exact q_hT6 | exact q_hT15 | exact q_hT24)) ?_
    intro t3 w3 g3 p3
    obtain ⟨rfl, ⟨z3, rfl, hz3⟩, rfl⟩ := p3
    refine Or.inr (Or.inl ⟨rfl, ?_⟩)
    exact r_zret c204_16 ⟨rfl, rfl, rfl⟩ (by first | assumption | omega) (Or.inl ⟨rfl, ⟨_, rfl, (by first | assumption | omega)⟩, rfl⟩)
  · refine Or.inr (Or.inr ⟨1, rfl, ?_⟩)
    exact Or.inr ⟨rfl, (Or.inr (⟨rfl, rfl⟩))⟩
theorem c223_0 : q_cat 223 0 (.aload_n 0) 1 0 0 (0) := ⟨rfl, rfl⟩
theorem c223_1 : q_cat 223 1 (.getfield 26) 3 8 2 (3) := ⟨rfl, rfl⟩
theorem c223_4 : q_cat 223 4 (.getfield 159) 3 6 8 (2) := ⟨rfl, rfl⟩
theorem c223_7 : q_cat 223 7 (.lreturn) 1 0 0 (0) := ⟨rfl, rfl⟩
theorem k223 {Γ : q_Γ} (hG : q_GG Γ) {h : q_F} (hZ : q_Bz h)   :
    q_M Γ q_K 155 223 [(2, Int.ofNat 0)] h (fun t w h' => (t = 1 ∧ (∃ z, w = ((1, z) : q_V)) ∧ h' = h)) := by
  have hT6 := q_hT6
  obtain ⟨fT6_0, fT6_1, fT6_2, fT6_3, fT6_4, fT6_5, fT6_6, fT6_7, fT6_8, fT6_9, fT6_10⟩ := q_fT hT6
  have hT15 := q_hT15
  obtain ⟨fT15_0, fT15_1, fT15_2, fT15_3, fT15_4, fT15_5, fT15_6, fT15_7, fT15_8, fT15_9, fT15_10⟩ := q_fT hT15
  have hT24 := q_hT24
  obtain ⟨fT24_0, fT24_1, fT24_2, fT24_3, fT24_4, fT24_5, fT24_6, fT24_7, fT24_8, fT24_9, fT24_10⟩ := q_fT hT24
  obtain ⟨gP0, gP1, gP2, gP3⟩ := q_fG q_hP
  refine q_M.of (by decide) (Nat.le_of_ble_eq_true rfl) hG ?_
  refine r_aload_n c223_0 rfl rfl ?_
  refine r_getr c223_1 (by first | assumption | omega) (by decide) (by first | assumption | rfl) rfl rfl ?_
  refine r_getl c223_4 (by first | assumption | omega) (by decide) (by first | assumption | rfl) rfl rfl ?_
  exact r_lret c223_7 ⟨rfl, rfl, rfl⟩ ⟨rfl, ⟨_, rfl⟩, rfl⟩
theorem c180_0 : q_cat 180 0 (.aload_n 0) 1 0 0 (0) := ⟨rfl, rfl⟩
theorem c180_1 : q_cat 180 1 (.iload_n 1) 1 1 0 (0) := ⟨rfl, rfl⟩
theorem c180_2 : q_cat 180 2 (.invokevirtual 132) 3 162 0 (0) := ⟨rfl, rfl⟩
theorem c180_5 : q_cat 180 5 (.aload_n 0) 1 0 0 (0) := ⟨rfl, rfl⟩
theorem c180_6 : q_cat 180 6 (.invokevirtual 163) 3 165 0 (0) := ⟨rfl, rfl⟩
theorem c180_9 : q_cat 180 9 (.aload_n 0) 1 0 0 (0) := ⟨rfl, rfl⟩
theorem c180_10 : q_cat 180 10 (.invokevirtual 166) 3 167 0 (0) := ⟨rfl, rfl⟩
theorem c180_13 : q_cat 180 13 (.aload_n 0) 1 0 0 (0) := ⟨rfl, rfl⟩
theorem c180_14 : q_cat 180 14 (.getfield 39) 3 8 5 (3) := ⟨rfl, rfl⟩
theorem c180_17 : q_cat 180 17 (.aload_n 0) 1 0 0 (0) := ⟨rfl, rfl⟩
theorem c180_18 : q_cat 180 18 (.getfield 26) 3 8 2 (3) := ⟨rfl, rfl⟩
theorem c180_21 : q_cat 180 21 (.invokevirtual 169) 3 67 0 (0) := ⟨rfl, rfl⟩
theorem c180_24 : q_cat 180 24 (.aload_n 0) 1 0 0 (0) := ⟨rfl, rfl⟩
theorem c180_25 : q_cat 180 25 (.getfield 26) 3 8 2 (3) := ⟨rfl, rfl⟩
theorem c180_28 : q_cat 180 28 (.iload_n 1) 1 1 0 (0) := ⟨rfl, rfl⟩
theorem c180_29 : q_cat 180 29 (.invokevirtual 173) 3 131 0 (0) := ⟨rfl, rfl⟩
theorem c180_32 : q_cat 180 32 (.ireturn) 1 0 0 (0) := ⟨rfl, rfl⟩
theorem k180 {Γ : q_Γ} (hG : q_GG Γ) {h : q_F} (hZ : q_Bz h) {v1 : Int}  :
    q_M Γ q_K 155 180 [(2, Int.ofNat 0), (0, v1)] h (fun t w h' => (t = 1 ∧ (∃ z, w = ((0, z) : q_V)) ∧ q_Fr (fun k => k = 0 ∨ (6 ≤ k ∧ k ≤ 138)) h h') ∨ (t = 3 ∧ q_Fr (fun k => k = 0 ∨ (6 ≤ k ∧ k ≤ 138)) h h') ∨ (t = 4 ∧ q_Fr (fun k => k = 0 ∨ (6 ≤ k ∧ k ≤ 138)) h h')) := by
  have hT6 := q_hT6
  obtain ⟨fT6_0, fT6_1, fT6_2, fT6_3, fT6_4, fT6_5, fT6_6, fT6_7, fT6_8, fT6_9, fT6_10⟩ := q_fT hT6
  have hT15 := q_hT15
  obtain ⟨fT15_0, fT15_1, fT15_2, fT15_3, fT15_4, fT15_5, fT15_6, fT15_7, fT15_8, fT15_9, fT15_10⟩ := q_fT hT15
  have hT24 := q_hT24
  obtain ⟨fT24_0, fT24_1, fT24_2, fT24_3, fT24_4, fT24_5, fT24_6, fT24_7, fT24_8, fT24_9, fT24_10⟩ := q_fT hT24
  obtain ⟨gP0, gP1, gP2, gP3⟩ := q_fG q_hP
  refine q_M.of (by decide) (Nat.le_of_ble_eq_true rfl) hG ?_
  refine r_aload_n c180_0 rfl rfl ?_
  refine r_iload_n c180_1 rfl rfl ?_
  refine r_vcG c180_2 (by first | assumption | omega) (by decide) (by first | assumption | rfl) rfl rfl rfl (k162 hG (q_Fr.bz (S := fun k => k = 0 ∨ (6 ≤ k ∧ k ≤ 138)) hZ (by repeat (first | exact q_Fr.rf | refine q_Fr.ud ?_ (by omega) (by first | assumption | rfl) rfl | refine q_Fr.udz ?_ (by omega) (by first | assumption | decide | omega) | refine q_Fr.tr ?_ (by assumption) (by intro k9 hk9; omega))))) ?_
  intro t1 w1 g1 p1
  rcases p1 with ⟨rfl, rfl⟩ | ⟨rfl, rfl⟩
  · skip
    refine Or.inl ⟨rfl, ?_⟩
    refine r_aload_n c180_5 rfl rfl ?_
    refine r_vcG c180_6 (by first | assumption | omega) (by decide) (by first | assumption | rfl) rfl rfl rfl (k165 hG (q_Fr.bz (S := fun k => k = 0 ∨ (6 ≤ k ∧ k ≤ 138)) hZ (by repeat (first | exact q_Fr.rf | refine q_Fr.ud ?_ (by omega) (by first | assumption | rfl) rfl | refine q_Fr.udz ?_ (by omega) (by first | assumption | decide | omega) | refine q_Fr.tr ?_ (by assumption) (by intro k9 hk9; omega))))) ?_
    intro t2 w2 g2 p2
    rcases p2 with ⟨rfl, rfl⟩ | ⟨rfl, rfl⟩
    · skip
      refine Or.inl ⟨rfl, ?_⟩
      refine r_aload_n c180_9 rfl rfl ?_
      refine r_vcG c180_10 (by first | assumption | omega) (by decide) (by first | assumption | rfl) rfl rfl rfl (k167 hG (q_Fr.bz (S := fun k => k = 0 ∨ (6 ≤ k ∧ k ≤ 138)) hZ (by repeat (first | exact q_Fr.rf | refine q_Fr.ud ?_ (by omega) (by first | assumption | rfl) rfl | refine q_Fr.udz ?_ (by omega) (by first | assumption | decide | omega) | refine q_Fr.tr ?_ (by assumption) (by intro k9 hk9; omega))))) ?_
      intro t3 w3 g3 p3
      rcases p3 with ⟨rfl, rfl⟩ | ⟨rfl, rfl⟩
      · skip
        refine Or.inl ⟨rfl, ?_⟩
        refine r_aload_n c180_13 rfl rfl ?_
        refine r_getr c180_14 (by first | assumption | omega) (by decide) (by first | assumption | rfl) rfl rfl ?_
        refine r_aload_n c180_17 rfl rfl ?_
        refine r_getr c180_18 (by first | assumption | omega) (by decide) (by first | assumption | rfl) rfl rfl ?_
        refine r_vcG c180_21 (by first | assumption | omega) (by decide) (by first | assumption | rfl) rfl rfl rfl (k67 hG (q_Fr.bz (S := fun k => k = 0 ∨ (6 ≤ k ∧ k ≤ 138)) hZ (by repeat (first | exact q_Fr.rf | refine q_Fr.ud ?_ (by omega) (by first | assumption | rfl) rfl | refine q_Fr.udz ?_ (by omega) (by first | assumption | decide | omega) | refine q_Fr.tr ?_ (by assumption) (by intro k9 hk9; omega)))) (by first | assumption | exact q_hC (by assumption) | exact q_h1 (by assumption) | exact q_h3 (by assumption) | exact q_h5 (by assumption) | exact q_hG (by assumption) | exact q_hP | exact q_hB1 | exact q_hB2 | exact q_hT6 | exact q_hT15 | exact q_hT24)) ?_
        intro t4 w4 g4 p4
        obtain ⟨rfl, e4⟩ := p4
        refine Or.inl ⟨rfl, ?_⟩
        refine r_aload_n c180_24 rfl rfl ?_
        refine r_getr c180_25 (by first | assumption | omega) (by decide) (by first | assumption | rfl) rfl rfl ?_
        refine r_iload_n c180_28 rfl rfl ?_
        refine r_vcG c180_29 (by first | assumption | omega) (by decide) (by first | assumption | rfl) rfl rfl rfl (k131 hG (q_Fr.bz (S := fun k => k = 0 ∨ (6 ≤ k ∧ k ≤ 138)) hZ (by repeat (first | exact q_Fr.rf | refine q_Fr.ud ?_ (by omega) (by first | assumption | rfl) rfl | refine q_Fr.udz ?_ (by omega) (by first | assumption | decide | omega) | refine q_Fr.tr ?_ (by assumption) (by intro k9 hk9; omega)))) (by first | assumption | exact q_hC (by assumption) | exact q_h1 (by assumption) | exact q_h3 (by assumption) | exact q_h5 (by assumption) | exact q_hG (by assumption) | exact q_hP | exact q_hB1 | exact q_hB2 | exact q_hT6 | exact q_hT15 | exact q_hT24)) ?_
        intro t5 w5 g5 p5
        obtain ⟨rfl, ⟨z5, rfl⟩, e5⟩ := p5
        refine Or.inr (Or.inl ⟨rfl, ?_⟩)
        exact r_iret c180_32 ⟨rfl, rfl, rfl⟩ (Or.inl ⟨rfl, ⟨_, rfl⟩, (by repeat (first | exact q_Fr.rf | refine q_Fr.ud ?_ (by omega) (by first | assumption | rfl) rfl | refine q_Fr.udz ?_ (by omega) (by first | assumption | decide | omega) | refine q_Fr.tr ?_ (by assumption) (by intro k9 hk9; omega)))⟩)
      · refine Or.inr (Or.inr ⟨2, rfl, ?_⟩)
        exact Or.inr ⟨rfl, (Or.inr (Or.inr (⟨rfl, (by repeat (first | exact q_Fr.rf | refine q_Fr.ud ?_ (by omega) (by first | assumption | rfl) rfl | refine q_Fr.udz ?_ (by omega) (by first | assumption | decide | omega) | refine q_Fr.tr ?_ (by assumption) (by intro k9 hk9; omega)))⟩)))⟩
    · refine Or.inr (Or.inr ⟨2, rfl, ?_⟩)
      exact Or.inr ⟨rfl, (Or.inr (Or.inr (⟨rfl, (by repeat (first | exact q_Fr.rf | refine q_Fr.ud ?_ (by omega) (by first | assumption | rfl) rfl | refine q_Fr.udz ?_ (by omega) (by first | assumption | decide | omega) | refine q_Fr.tr ?_ (by assumption) (by intro k9 hk9; omega)))⟩)))⟩
  · refine Or.inr (Or.inr ⟨1, rfl, ?_⟩)
    exact Or.inr ⟨rfl, (Or.inr (Or.inl ⟨rfl, (by repeat (first | exact q_Fr.rf | refine q_Fr.ud ?_ (by omega) (by first | assumption | rfl) rfl | refine q_Fr.udz ?_ (by omega) (by first | assumption | decide | omega) | refine q_Fr.tr ?_ (by assumption) (by intro k9 hk9; omega)))⟩))⟩
theorem c184_0 : q_cat 184 0 (.aload_n 0) 1 0 0 (0) := ⟨rfl, rfl⟩
theorem c184_1 : q_cat 184 1 (.iload_n 1) 1 1 0 (0) := ⟨rfl, rfl⟩
theorem c184_2 : q_cat 184 2 (.invokevirtual 132) 3 162 0 (0) := ⟨rfl, rfl⟩
theorem c184_5 : q_cat 184 5 (.iload_n 2) 1 2 0 (0) := ⟨rfl, rfl⟩
theorem c184_6 : q_cat 184 6 (.bipush (-100)) 2 0 0 (0) := ⟨rfl, rfl⟩
theorem c184_8 : q_cat 184 8 (.if_icmp .lt 13) 3 21 0 (0) := ⟨rfl, rfl⟩
theorem c184_11 : q_cat 184 11 (.iload_n 2) 1 2 0 (0) := ⟨rfl, rfl⟩
theorem c184_12 : q_cat 184 12 (.bipush 100) 2 0 0 (0) := ⟨rfl, rfl⟩
theorem c184_14 : q_cat 184 14 (.if_icmp .gt 7) 3 21 0 (0) := ⟨rfl, rfl⟩
theorem c184_17 : q_cat 184 17 (.iload_n 2) 1 2 0 (0) := ⟨rfl, rfl⟩
theorem c184_18 : q_cat 184 18 (.ifCond .ne 13) 3 31 0 (0) := ⟨rfl, rfl⟩
theorem c184_21 : q_cat 184 21 (.new 125) 3 0 130 (176) := ⟨rfl, rfl⟩
theorem c184_24 : q_cat 184 24 (.dup) 1 0 0 (0) := ⟨rfl, rfl⟩
theorem c184_31 : q_cat 184 31 (.aload_n 0) 1 0 0 (0) := ⟨rfl, rfl⟩
theorem c184_32 : q_cat 184 32 (.invokevirtual 166) 3 167 0 (0) := ⟨rfl, rfl⟩
theorem c184_35 : q_cat 184 35 (.aload_n 0) 1 0 0 (0) := ⟨rfl, rfl⟩
theorem c184_36 : q_cat 184 36 (.getfield 39) 3 8 5 (3) := ⟨rfl, rfl⟩
theorem c184_39 : q_cat 184 39 (.aload_n 0) 1 0 0 (0) := ⟨rfl, rfl⟩
theorem c184_40 : q_cat 184 40 (.getfield 26) 3 8 2 (3) := ⟨rfl, rfl⟩
theorem c184_43 : q_cat 184 43 (.invokevirtual 169) 3 67 0 (0) := ⟨rfl, rfl⟩
theorem c184_46 : q_cat 184 46 (.aload_n 0) 1 0 0 (0) := ⟨rfl, rfl⟩
theorem c184_47 : q_cat 184 47 (.getfield 26) 3 8 2 (3) := ⟨rfl, rfl⟩
theorem c184_50 : q_cat 184 50 (.iload_n 1) 1 1 0 (0) := ⟨rfl, rfl⟩
theorem c184_51 : q_cat 184 51 (.iload_n 2) 1 2 0 (0) := ⟨rfl, rfl⟩
theorem c184_52 : q_cat 184 52 (.invokevirtual 178) 3 134 0 (0) := ⟨rfl, rfl⟩
theorem c184_55 : q_cat 184 55 (.aload_n 0) 1 0 0 (0) := ⟨rfl, rfl⟩
theorem c184_56 : q_cat 184 56 (.getfield 26) 3 8 2 (3) := ⟨rfl, rfl⟩
theorem c184_59 : q_cat 184 59 (.iload_n 1) 1 1 0 (0) := ⟨rfl, rfl⟩
theorem c184_60 : q_cat 184 60 (.invokevirtual 135) 3 125 0 (0) := ⟨rfl, rfl⟩
theorem c184_63 : q_cat 184 63 (.getfield 182) 3 1 6 (0) := ⟨rfl, rfl⟩
theorem c184_66 : q_cat 184 66 (.ireturn) 1 0 0 (0) := ⟨rfl, rfl⟩
theorem k184 {Γ : q_Γ} (hG : q_GG Γ) {h : q_F} (hZ : q_Bz h) {v1 : Int} {v2 : Int}  :
    q_M Γ q_K 155 184 [(2, Int.ofNat 0), (0, v1), (0, v2)] h (fun t w h' => (t = 1 ∧ (∃ z, w = ((0, z) : q_V)) ∧ q_Fr (fun k => k = 0 ∨ (6 ≤ k ∧ k ≤ 138)) h h') ∨ (t = 2 ∧ q_Fr (fun k => k = 0 ∨ (6 ≤ k ∧ k ≤ 138)) h h') ∨ (t = 3 ∧ q_Fr (fun k => k = 0 ∨ (6 ≤ k ∧ k ≤ 138)) h h') ∨ (t = 4 ∧ q_Fr (fun k => k = 0 ∨ (6 ≤ k ∧ k ≤ 138)) h h')) := by
  have hT6 := q_hT6
  obtain ⟨fT6_0, fT6_1, fT6_2, fT6_3, fT6_4, fT6_5, fT6_6, fT6_7, fT6_8, fT6_9, fT6_10⟩ := q_fT hT6
  have hT15 := q_hT15
  obtain ⟨fT15_0, fT15_1, fT15_2, fT15_3, fT15_4, fT15_5, fT15_6, fT15_7, fT15_8, fT15_9, fT15_10⟩ := q_fT hT15
  have hT24 := q_hT24
  obtain ⟨fT24_0, fT24_1, fT24_2, fT24_3, fT24_4, fT24_5, fT24_6, fT24_7, fT24_8, fT24_9, fT24_10⟩ := q_fT hT24
  obtain ⟨gP0, gP1, gP2, gP3⟩ := q_fG q_hP
  refine q_M.of (by decide) (Nat.le_of_ble_eq_true rfl) hG ?_
  refine r_aload_n c184_0 rfl rfl ?_
  refine r_iload_n c184_1 rfl rfl ?_
  refine r_vcG c184_2 (by first | assumption | omega) (by decide) (by first | assumption | rfl) rfl rfl rfl (k162 hG (q_Fr.bz (S := fun k => k = 0 ∨ (6 ≤ k ∧ k ≤ 138)) hZ (by repeat (first | exact q_Fr.rf | refine q_Fr.ud ?_ (by omega) (by first | assumption | rfl) rfl | refine q_Fr.udz ?_ (by omega) (by first | assumption | decide | omega) | refine q_Fr.tr ?_ (by assumption) (by intro k9 hk9; omega))))) ?_
  intro t1 w1 g1 p1
  rcases p1 with ⟨rfl, rfl⟩ | ⟨rfl, rfl⟩
  · skip
    refine Or.inl ⟨rfl, ?_⟩
    refine r_iload_n c184_5 rfl rfl ?_
    refine r_bipush c184_6 rfl ?_
    refine r_ic_lt c184_8 rfl (by first | exact q_w32_id (by omega) (by omega) | exact q_w32w _ | exact rfl) (show q_w32 (-100) = -100 from rfl) ?_ ?_
    · intro b2
      exact r_thr (y := 129) c184_21 rfl (Or.inr (Or.inl ⟨rfl, (by repeat (first | exact q_Fr.rf | refine q_Fr.ud ?_ (by omega) (by first | assumption | rfl) rfl | refine q_Fr.udz ?_ (by omega) (by first | assumption | decide | omega) | refine q_Fr.tr ?_ (by assumption) (by intro k9 hk9; omega)))⟩))
    · intro b2
      refine r_iload_n c184_11 rfl rfl ?_
      refine r_bipush c184_12 rfl ?_
      refine r_ic_gt c184_14 rfl (by first | exact q_w32_id (by omega) (by omega) | exact q_w32w _ | exact rfl) (show q_w32 (100) = 100 from rfl) ?_ ?_
      · intro b3
        exact r_thr (y := 129) c184_21 rfl (Or.inr (Or.inl ⟨rfl, (by repeat (first | exact q_Fr.rf | refine q_Fr.ud ?_ (by omega) (by first | assumption | rfl) rfl | refine q_Fr.udz ?_ (by omega) (by first | assumption | decide | omega) | refine q_Fr.tr ?_ (by assumption) (by intro k9 hk9; omega)))⟩))
      · intro b3
        refine r_iload_n c184_17 rfl rfl ?_
        refine r_if_ne c184_18 rfl (by first | exact q_w32_id (by omega) (by omega) | exact q_w32w _ | exact rfl) ?_ ?_
        · intro b4
          refine r_aload_n c184_31 rfl rfl ?_
          refine r_vcG c184_32 (by first | assumption | omega) (by decide) (by first | assumption | rfl) rfl rfl rfl (k167 hG (q_Fr.bz (S := fun k => k = 0 ∨ (6 ≤ k ∧ k ≤ 138)) hZ (by repeat (first | exact q_Fr.rf | refine q_Fr.ud ?_ (by omega) (by first | assumption | rfl) rfl | refine q_Fr.udz ?_ (by omega) (by first | assumption | decide | omega) | refine q_Fr.tr ?_ (by assumption) (by intro k9 hk9; omega))))) ?_
          intro t5 w5 g5 p5
          rcases p5 with ⟨rfl, rfl⟩ | ⟨rfl, rfl⟩
          · skip
            refine Or.inl ⟨rfl, ?_⟩
            refine r_aload_n c184_35 rfl rfl ?_
            refine r_getr c184_36 (by first | assumption | omega) (by decide) (by first | assumption | rfl) rfl rfl ?_
            refine r_aload_n c184_39 rfl rfl ?_
            refine r_getr c184_40 (by first | assumption | omega) (by decide) (by first | assumption | rfl) rfl rfl ?_
            refine r_vcG c184_43 (by first | assumption | omega) (by decide) (by first | assumption | rfl) rfl rfl rfl (k67 hG (q_Fr.bz (S := fun k => k = 0 ∨ (6 ≤ k ∧ k ≤ 138)) hZ (by repeat (first | exact q_Fr.rf | refine q_Fr.ud ?_ (by omega) (by first | assumption | rfl) rfl | refine q_Fr.udz ?_ (by omega) (by first | assumption | decide | omega) | refine q_Fr.tr ?_ (by assumption) (by intro k9 hk9; omega)))) (by first | assumption | exact q_hC (by assumption) | exact q_h1 (by assumption) | exact q_h3 (by assumption) | exact q_h5 (by assumption) | exact q_hG (by assumption) | exact q_hP | exact q_hB1 | exact q_hB2 | exact q_hT6 | exact q_hT15 | exact q_hT24)) ?_
            intro t6 w6 g6 p6
            obtain ⟨rfl, e6⟩ := p6
            refine Or.inl ⟨rfl, ?_⟩
            refine r_aload_n c184_46 rfl rfl ?_
            refine r_getr c184_47 (by first | assumption | omega) (by decide) (by first | assumption | rfl) rfl rfl ?_
            refine r_iload_n c184_50 rfl rfl ?_
            refine r_iload_n c184_51 rfl rfl ?_
            refine r_vcG c184_52 (by first | assumption | omega) (by decide) (by first | assumption | rfl) rfl rfl rfl (k134 hG (q_Fr.bz (S := fun k => k = 0 ∨ (6 ≤ k ∧ k ≤ 138)) hZ (by repeat (first | exact q_Fr.rf | refine q_Fr.ud ?_ (by omega) (by first | assumption | rfl) rfl | refine q_Fr.udz ?_ (by omega) (by first | assumption | decide | omega) | refine q_Fr.tr ?_ (by assumption) (by intro k9 hk9; omega)))) (by first | assumption | exact q_hC (by assumption) | exact q_h1 (by assumption) | exact q_h3 (by assumption) | exact q_h5 (by assumption) | exact q_hG (by assumption) | exact q_hP | exact q_hB1 | exact q_hB2 | exact q_hT6 | exact q_hT15 | exact q_hT24)) ?_
            intro t7 w7 g7 p7
            obtain ⟨rfl, e7⟩ := p7
            refine Or.inl ⟨rfl, ?_⟩
            refine r_aload_n c184_55 rfl rfl ?_
            refine r_getr c184_56 (by first | assumption | omega) (by decide) (by first | assumption | rfl) rfl rfl ?_
            refine r_iload_n c184_59 rfl rfl ?_
            refine r_vcG c184_60 (by first | assumption | omega) (by decide) (by first | assumption | rfl) rfl rfl rfl (k125 hG (q_Fr.bz (S := fun k => k = 0 ∨ (6 ≤ k ∧ k ≤ 138)) hZ (by repeat (first | exact q_Fr.rf | refine q_Fr.ud ?_ (by omega) (by first | assumption | rfl) rfl | refine q_Fr.udz ?_ (by omega) (by first | assumption | decide | omega) | refine q_Fr.tr ?_ (by assumption) (by intro k9 hk9; omega)))) (by first | assumption | exact q_hC (by assumption) | exact q_h1 (by assumption) | exact q_h3 (by assumption) | exact q_h5 (by assumption) | exact q_hG (by assumption) | exact q_hP | exact q_hB1 | exact q_hB2 | exact q_hT6 | exact q_hT15 | exact q_hT24)) ?_
            intro t8 w8 g8 p8
            obtain ⟨rfl, ⟨r8, rfl, ha8, hr8⟩, rfl⟩ := p8
            obtain ⟨fr80, fr81, fr82, fr83⟩ := q_fA ha8
            refine Or.inr (Or.inl ⟨rfl, ?_⟩)
            refine r_geti c184_63 (by first | assumption | omega) (by decide) (by first | assumption | rfl) rfl rfl ?_
            exact r_iret c184_66 ⟨rfl, rfl, rfl⟩ (Or.inl ⟨rfl, ⟨_, rfl⟩, (by repeat (first | exact q_Fr.rf | refine q_Fr.ud ?_ (by omega) (by first | assumption | rfl) rfl | refine q_Fr.udz ?_ (by omega) (by first | assumption | decide | omega) | refine q_Fr.tr ?_ (by assumption) (by intro k9 hk9; omega)))⟩)
          · refine Or.inr (Or.inr ⟨2, rfl, ?_⟩)
            exact Or.inr ⟨rfl, (Or.inr (Or.inr (Or.inr (⟨rfl, (by repeat (first | exact q_Fr.rf | refine q_Fr.ud ?_ (by omega) (by first | assumption | rfl) rfl | refine q_Fr.udz ?_ (by omega) (by first | assumption | decide | omega) | refine q_Fr.tr ?_ (by assumption) (by intro k9 hk9; omega)))⟩))))⟩
        · intro b4
          exact r_thr (y := 129) c184_21 rfl (Or.inr (Or.inl ⟨rfl, (by repeat (first | exact q_Fr.rf | refine q_Fr.ud ?_ (by omega) (by first | assumption | rfl) rfl | refine q_Fr.udz ?_ (by omega) (by first | assumption | decide | omega) | refine q_Fr.tr ?_ (by assumption) (by intro k9 hk9; omega)))⟩))
  · refine Or.inr (Or.inr ⟨1, rfl, ?_⟩)
    exact Or.inr ⟨rfl, (Or.inr (Or.inr (Or.inl ⟨rfl, (by repeat (first | exact q_Fr.rf | refine q_Fr.ud ?_ (by omega) (by first | assumption | rfl) rfl | refine q_Fr.udz ?_ (by omega) (by first | assumption | decide | omega) | refine q_Fr.tr ?_ (by assumption) (by intro k9 hk9; omega)))⟩)))⟩
theorem c198_0 : q_cat 198 0 (.aload_n 0) 1 0 0 (0) := ⟨rfl, rfl⟩
theorem c198_1 : q_cat 198 1 (.iload_n 1) 1 1 0 (0) := ⟨rfl, rfl⟩
theorem c198_2 : q_cat 198 2 (.iload_n 2) 1 2 0 (0) := ⟨rfl, rfl⟩
theorem c198_3 : q_cat 198 3 (.iload_n 3) 1 3 0 (0) := ⟨rfl, rfl⟩
theorem c198_4 : q_cat 198 4 (.invokevirtual 185) 3 166 0 (0) := ⟨rfl, rfl⟩
theorem c198_7 : q_cat 198 7 (.aload_n 0) 1 0 0 (0) := ⟨rfl, rfl⟩
theorem c198_8 : q_cat 198 8 (.invokevirtual 189) 3 168 0 (0) := ⟨rfl, rfl⟩
theorem c198_11 : q_cat 198 11 (.aload_n 0) 1 0 0 (0) := ⟨rfl, rfl⟩
theorem c198_12 : q_cat 198 12 (.getfield 53) 3 8 7 (3) := ⟨rfl, rfl⟩
theorem c198_15 : q_cat 198 15 (.aload_n 0) 1 0 0 (0) := ⟨rfl, rfl⟩
theorem c198_16 : q_cat 198 16 (.getfield 26) 3 8 2 (3) := ⟨rfl, rfl⟩
theorem c198_19 : q_cat 198 19 (.getfield 114) 3 6 3 (3) := ⟨rfl, rfl⟩
theorem c198_22 : q_cat 198 22 (.invokevirtual 192) 3 144 0 (0) := ⟨rfl, rfl⟩
theorem c198_25 : q_cat 198 25 (.aload_n 0) 1 0 0 (0) := ⟨rfl, rfl⟩
theorem c198_26 : q_cat 198 26 (.getfield 53) 3 8 7 (3) := ⟨rfl, rfl⟩
theorem c198_29 : q_cat 198 29 (.aload_n 0) 1 0 0 (0) := ⟨rfl, rfl⟩
theorem c198_30 : q_cat 198 30 (.getfield 53) 3 8 7 (3) := ⟨rfl, rfl⟩
theorem c198_33 : q_cat 198 33 (.getfield 117) 3 7 1 (0) := ⟨rfl, rfl⟩
theorem c198_36 : q_cat 198 36 (.iload_n 1) 1 1 0 (0) := ⟨rfl, rfl⟩
theorem c198_37 : q_cat 198 37 (.iload_n 2) 1 2 0 (0) := ⟨rfl, rfl⟩
theorem c198_38 : q_cat 198 38 (.iload_n 3) 1 3 0 (0) := ⟨rfl, rfl⟩
theorem c198_39 : q_cat 198 39 (.invokevirtual 196) 3 150 0 (0) := ⟨rfl, rfl⟩
theorem c198_42 : q_cat 198 42 (.aload_n 0) 1 0 0 (0) := ⟨rfl, rfl⟩
theorem c198_43 : q_cat 198 43 (.invokevirtual 200) 3 221 0 (0) := ⟨rfl, rfl⟩
theorem c198_46 : q_cat 198 46 (.ireturn) 1 0 0 (0) := ⟨rfl, rfl⟩
theorem k198 {Γ : q_Γ} (hG : q_GG Γ) {h : q_F} (hZ : q_Bz h) {v1 : Int} {v2 : Int} {v3 : Int}  :
    q_M Γ q_K 155 198 [(2, Int.ofNat 0), (0, v1), (0, v2), (0, v3)] h (fun t w h' => (t = 1 ∧ (∃ z, w = ((0, z) : q_V)) ∧ q_Fr (fun k => k = 0 ∨ (6 ≤ k ∧ k ≤ 138)) h h') ∨ (t = 2 ∧ q_Fr (fun k => k = 0 ∨ (6 ≤ k ∧ k ≤ 138)) h h') ∨ (t = 4 ∧ q_Fr (fun k => k = 0 ∨ (6 ≤ k ∧ k ≤ 138)) h h')) := by
  have hT6 := q_hT6
  obtain ⟨fT6_0, fT6_1, fT6_2, fT6_3, fT6_4, fT6_5, fT6_6, fT6_7, fT6_8, fT6_9, fT6_10⟩ := q_fT hT6
  have hT15 := q_hT15
  obtain ⟨fT15_0, fT15_1, fT15_2, fT15_3, fT15_4, fT15_5, fT15_6, fT15_7, fT15_8, fT15_9, fT15_10⟩ := q_fT hT15
  have hT24 := q_hT24
  obtain ⟨fT24_0, fT24_1, fT24_2, fT24_3, fT24_4, fT24_5, fT24_6, fT24_7, fT24_8, fT24_9, fT24_10⟩ := q_fT hT24
  obtain ⟨gP0, gP1, gP2, gP3⟩ := q_fG q_hP
  refine q_M.of (by decide) (Nat.le_of_ble_eq_true rfl) hG ?_
  refine r_aload_n c198_0 rfl rfl ?_
  refine r_iload_n c198_1 rfl rfl ?_
  refine r_iload_n c198_2 rfl rfl ?_
  refine r_iload_n c198_3 rfl rfl ?_
  refine r_vcG c198_4 (by first | assumption | omega) (by decide) (by first | assumption | rfl) rfl rfl rfl (k166 hG (q_Fr.bz (S := fun k => k = 0 ∨ (6 ≤ k ∧ k ≤ 138)) hZ (by repeat (first | exact q_Fr.rf | refine q_Fr.ud ?_ (by omega) (by first | assumption | rfl) rfl | refine q_Fr.udz ?_ (by omega) (by first | assumption | decide | omega) | refine q_Fr.tr ?_ (by assumption) (by intro k9 hk9; omega))))) ?_
  intro t1 w1 g1 p1
  rcases p1 with ⟨rfl, rfl⟩ | ⟨rfl, rfl⟩
  · skip
    refine Or.inl ⟨rfl, ?_⟩
    refine r_aload_n c198_7 rfl rfl ?_
    refine r_vcG c198_8 (by first | assumption | omega) (by decide) (by first | assumption | rfl) rfl rfl rfl (k168 hG (q_Fr.bz (S := fun k => k = 0 ∨ (6 ≤ k ∧ k ≤ 138)) hZ (by repeat (first | exact q_Fr.rf | refine q_Fr.ud ?_ (by omega) (by first | assumption | rfl) rfl | refine q_Fr.udz ?_ (by omega) (by first | assumption | decide | omega) | refine q_Fr.tr ?_ (by assumption) (by intro k9 hk9; omega))))) ?_
    intro t2 w2 g2 p2
    rcases p2 with ⟨rfl, rfl⟩ | ⟨rfl, rfl⟩
    · skip
      refine Or.inl ⟨rfl, ?_⟩
      refine r_aload_n c198_11 rfl rfl ?_
      refine r_getr c198_12 (by first | assumption | omega) (by decide) (by first | assumption | rfl) rfl rfl ?_
      refine r_aload_n c198_15 rfl rfl ?_
      refine r_getr c198_16 (by first | assumption | omega) (by decide) (by first | assumption | rfl) rfl rfl ?_
      refine r_getr c198_19 (by first | assumption | omega) (by decide) (by first | assumption | rfl) rfl rfl ?_
      refine r_vcG c198_22 (by first | assumption | omega) (by decide) (by first | assumption | rfl) rfl rfl rfl (k144 hG (q_Fr.bz (S := fun k => k = 0 ∨ (6 ≤ k ∧ k ≤ 138)) hZ (by repeat (first | exact q_Fr.rf | refine q_Fr.ud ?_ (by omega) (by first | assumption | rfl) rfl | refine q_Fr.udz ?_ (by omega) (by first | assumption | decide | omega) | refine q_Fr.tr ?_ (by assumption) (by intro k9 hk9; omega)))) (by first | assumption | exact q_hC (by assumption) | exact q_h1 (by assumption) | exact q_h3 (by assumption) | exact q_h5 (by assumption) | exact q_hG (by assumption) | exact q_hP | exact q_hB1 | exact q_hB2 | exact q_hT6 | exact q_hT15 | exact q_hT24) (by first | assumption | exact q_hC (by assumption) | exact q_h1 (by assumption) | exact q_h3 (by assumption) | exact q_h5 (by assumption) | exact q_hG (by assumption) | exact q_hP | exact q_hB1 | exact q_hB2 | exact q_hT6 | exact q_hT15 | exact q_hT24)) ?_
      intro t3 w3 g3 p3
      obtain ⟨rfl, e3⟩ := p3
      refine Or.inl ⟨rfl, ?_⟩
      refine r_aload_n c198_25 rfl rfl ?_
      refine r_getr c198_26 (by first | assumption | omega) (by decide) (by first | assumption | rfl) rfl rfl ?_
      refine r_aload_n c198_29 rfl rfl ?_
      refine r_getr c198_30 (by first | assumption | omega) (by decide) (by first | assumption | rfl) rfl rfl ?_
      refine r_geti c198_33 (by first | assumption | omega) (by decide) (by first | assumption | rfl) rfl rfl ?_
      refine r_iload_n c198_36 rfl rfl ?_
      refine r_iload_n c198_37 rfl rfl ?_
      refine r_iload_n c198_38 rfl rfl ?_
      refine r_vcG c198_39 (by first | assumption | omega) (by decide) (by first | assumption | rfl) rfl rfl rfl (k150 hG (q_Fr.bz (S := fun k => k = 0 ∨ (6 ≤ k ∧ k ≤ 138)) hZ (by repeat (first | exact q_Fr.rf | refine q_Fr.ud ?_ (by omega) (by first | assumption | rfl) rfl | refine q_Fr.udz ?_ (by omega) (by first | assumption | decide | omega) | refine q_Fr.tr ?_ (by assumption) (by intro k9 hk9; omega)))) (by first | assumption | exact q_hC (by assumption) | exact q_h1 (by assumption) | exact q_h3 (by assumption) | exact q_h5 (by assumption) | exact q_hG (by assumption) | exact q_hP | exact q_hB1 | exact q_hB2 | exact q_hT6 | exact q_hT15 | exact q_hT24)) ?_
      intro t4 w4 g4 p4
      obtain ⟨rfl, e4⟩ := p4
      refine Or.inl ⟨rfl, ?_⟩
      refine r_aload_n c198_42 rfl rfl ?_
      refine r_vcG c198_43 (by first | assumption | omega) (by decide) (by first | assumption | rfl) rfl rfl rfl (k221 hG (q_Fr.bz (S := fun k => k = 0 ∨ (6 ≤ k ∧ k ≤ 138)) hZ (by repeat (first | exact q_Fr.rf | refine q_Fr.ud ?_ (by omega) (by first | assumption | rfl) rfl | refine q_Fr.udz ?_ (by omega) (by first | assumption | decide | omega) | refine q_Fr.tr ?_ (by assumption) (by intro k9 hk9; omega))))) ?_
      intro t5 w5 g5 p5
      rcases p5 with ⟨rfl, ⟨z5, rfl⟩, e5⟩ | ⟨rfl, e5⟩
      · skip
        refine Or.inr (Or.inl ⟨rfl, ?_⟩)
        exact r_iret c198_46 ⟨rfl, rfl, rfl⟩ (Or.inl ⟨rfl, ⟨_, rfl⟩, (by repeat (first | exact q_Fr.rf | refine q_Fr.ud ?_ (by omega) (by first | assumption | rfl) rfl | refine q_Fr.udz ?_ (by omega) (by first | assumption | decide | omega) | refine q_Fr.tr ?_ (by assumption) (by intro k9 hk9; omega)))⟩)
      · refine Or.inr (Or.inr ⟨2, rfl, ?_⟩)
        exact Or.inr ⟨rfl, (Or.inr (Or.inr (⟨rfl, (by repeat (first | exact q_Fr.rf | refine q_Fr.ud ?_ (by omega) (by first | assumption | rfl) rfl | refine q_Fr.udz ?_ (by omega) (by first | assumption | decide | omega) | refine q_Fr.tr ?_ (by assumption) (by intro k9 hk9; omega)))⟩)))⟩
    · refine Or.inr (Or.inr ⟨2, rfl, ?_⟩)
      exact Or.inr ⟨rfl, (Or.inr (Or.inr (⟨rfl, (by repeat (first | exact q_Fr.rf | refine q_Fr.ud ?_ (by omega) (by first | assumption | rfl) rfl | refine q_Fr.udz ?_ (by omega) (by first | assumption | decide | omega) | refine q_Fr.tr ?_ (by assumption) (by intro k9 hk9; omega)))⟩)))⟩
  · refine Or.inr (Or.inr ⟨0, rfl, ?_⟩)
    exact Or.inr ⟨rfl, (Or.inr (Or.inl ⟨rfl, (by repeat (first | exact q_Fr.rf | refine q_Fr.ud ?_ (by omega) (by first | assumption | rfl) rfl | refine q_Fr.udz ?_ (by omega) (by first | assumption | decide | omega) | refine q_Fr.tr ?_ (by assumption) (by intro k9 hk9; omega)))⟩))⟩
theorem c229_0 : q_cat 229 0 (.aload_n 0) 1 0 0 (0) := ⟨rfl, rfl⟩
theorem c229_1 : q_cat 229 1 (.getfield 26) 3 8 2 (3) := ⟨rfl, rfl⟩
theorem c229_4 : q_cat 229 4 (.getfield 114) 3 6 3 (3) := ⟨rfl, rfl⟩
theorem c229_7 : q_cat 229 7 (.getfield 117) 3 7 1 (0) := ⟨rfl, rfl⟩
theorem c229_10 : q_cat 229 10 (.ifCond .ne 13) 3 23 0 (0) := ⟨rfl, rfl⟩
theorem c229_13 : q_cat 229 13 (.new 203) 3 3 208 (205) := ⟨rfl, rfl⟩
theorem c229_16 : q_cat 229 16 (.dup) 1 0 0 (0) := ⟨rfl, rfl⟩
theorem c229_23 : q_cat 229 23 (.aload_n 0) 1 0 0 (0) := ⟨rfl, rfl⟩
theorem c229_24 : q_cat 229 24 (.getfield 39) 3 8 5 (3) := ⟨rfl, rfl⟩
theorem c229_27 : q_cat 229 27 (.aload_n 0) 1 0 0 (0) := ⟨rfl, rfl⟩
theorem c229_28 : q_cat 229 28 (.getfield 26) 3 8 2 (3) := ⟨rfl, rfl⟩
theorem c229_31 : q_cat 229 31 (.invokevirtual 169) 3 67 0 (0) := ⟨rfl, rfl⟩
theorem c229_34 : q_cat 229 34 (.aload_n 0) 1 0 0 (0) := ⟨rfl, rfl⟩
theorem c229_35 : q_cat 229 35 (.getfield 26) 3 8 2 (3) := ⟨rfl, rfl⟩
theorem c229_38 : q_cat 229 38 (.getfield 114) 3 6 3 (3) := ⟨rfl, rfl⟩
theorem c229_41 : q_cat 229 41 (.aload_n 0) 1 0 0 (0) := ⟨rfl, rfl⟩
theorem c229_42 : q_cat 229 42 (.getfield 26) 3 8 2 (3) := ⟨rfl, rfl⟩
theorem c229_45 : q_cat 229 45 (.getfield 114) 3 6 3 (3) := ⟨rfl, rfl⟩
theorem c229_48 : q_cat 229 48 (.getfield 117) 3 7 1 (0) := ⟨rfl, rfl⟩
theorem c229_51 : q_cat 229 51 (.iconst 1) 1 0 0 (0) := ⟨rfl, rfl⟩
theorem c229_52 : q_cat 229 52 (.isub) 1 0 0 (0) := ⟨rfl, rfl⟩
theorem c229_53 : q_cat 229 53 (.invokevirtual 208) 3 152 0 (0) := ⟨rfl, rfl⟩
theorem c229_56 : q_cat 229 56 (.aload_n 0) 1 0 0 (0) := ⟨rfl, rfl⟩
theorem c229_57 : q_cat 229 57 (.getfield 26) 3 8 2 (3) := ⟨rfl, rfl⟩
theorem c229_60 : q_cat 229 60 (.getfield 114) 3 6 3 (3) := ⟨rfl, rfl⟩
theorem c229_63 : q_cat 229 63 (.getfield 117) 3 7 1 (0) := ⟨rfl, rfl⟩
theorem c229_66 : q_cat 229 66 (.ireturn) 1 0 0 (0) := ⟨rfl, rfl⟩
theorem k229 {Γ : q_Γ} (hG : q_GG Γ) {h : q_F} (hZ : q_Bz h)   :
    q_M Γ q_K 155 229 [(2, Int.ofNat 0)] h (fun t w h' => (t = 1 ∧ (∃ z, w = ((0, z) : q_V)) ∧ q_Fr (fun k => k = 0 ∨ (6 ≤ k ∧ k ≤ 138)) h h') ∨ (t = 5 ∧ q_Fr (fun k => k = 0 ∨ (6 ≤ k ∧ k ≤ 138)) h h')) := by
  have hT6 := q_hT6
  obtain ⟨fT6_0, fT6_1, fT6_2, fT6_3, fT6_4, fT6_5, fT6_6, fT6_7, fT6_8, fT6_9, fT6_10⟩ := q_fT hT6
  have hT15 := q_hT15
  obtain ⟨fT15_0, fT15_1, fT15_2, fT15_3, fT15_4, fT15_5, fT15_6, fT15_7, fT15_8, fT15_9, fT15_10⟩ := q_fT hT15
  have hT24 := q_hT24
  obtain ⟨fT24_0, fT24_1, fT24_2, fT24_3, fT24_4, fT24_5, fT24_6, fT24_7, fT24_8, fT24_9, fT24_10⟩ := q_fT hT24
  obtain ⟨gP0, gP1, gP2, gP3⟩ := q_fG q_hP
  refine q_M.of (by decide) (Nat.le_of_ble_eq_true rfl) hG ?_
  refine r_aload_n c229_0 rfl rfl ?_
  refine r_getr c229_1 (by first | assumption | omega) (by decide) (by first | assumption | rfl) rfl rfl ?_
  refine r_getr c229_4 (by first | assumption | omega) (by decide) (by first | assumption | rfl) rfl rfl ?_
  refine r_geti c229_7 (by first | assumption | omega) (by decide) (by first | assumption | rfl) rfl rfl ?_
  refine r_if_ne c229_10 rfl (by first | exact q_w32_id (by omega) (by omega) | exact q_w32w _ | exact rfl) ?_ ?_
  · intro b1
    refine r_aload_n c229_23 rfl rfl ?_
    refine r_getr c229_24 (by first | assumption | omega) (by decide) (by first | assumption | rfl) rfl rfl ?_
    refine r_aload_n c229_27 rfl rfl ?_
    refine r_getr c229_28 (by first | assumption | omega) (by decide) (by first | assumption | rfl) rfl rfl ?_
    refine r_vcG c229_31 (by first | assumption | omega) (by decide) (by first | assumption | rfl) rfl rfl rfl (k67 hG (q_Fr.bz (S := fun k => k = 0 ∨ (6 ≤ k ∧ k ≤ 138)) hZ (by repeat (first | exact q_Fr.rf | refine q_Fr.ud ?_ (by omega) (by first | assumption | rfl) rfl | refine q_Fr.udz ?_ (by omega) (by first | assumption | decide | omega) | refine q_Fr.tr ?_ (by assumption) (by intro k9 hk9; omega)))) (by first | assumption | exact q_hC (by assumption) | exact q_h1 (by assumption) | exact q_h3 (by assumption) | exact q_h5 (by assumption) | exact q_hG (by assumption) | exact q_hP | exact q_hB1 | exact q_hB2 | exact q_hT6 | exact q_hT15 | exact q_hT24)) ?_
    intro t2 w2 g2 p2
    obtain ⟨rfl, e2⟩ := p2
    refine Or.inl ⟨rfl, ?_⟩
    refine r_aload_n c229_34 rfl rfl ?_
    refine r_getr c229_35 (by first | assumption | omega) (by decide) (by first | assumption | rfl) rfl rfl ?_
    refine r_getr c229_38 (by first | assumption | omega) (by decide) (by first | assumption | rfl) rfl rfl ?_
    refine r_aload_n c229_41 rfl rfl ?_
    refine r_getr c229_42 (by first | assumption | omega) (by decide) (by first | assumption | rfl) rfl rfl ?_
    refine r_getr c229_45 (by first | assumption | omega) (by decide) (by first | assumption | rfl) rfl rfl ?_
    refine r_geti c229_48 (by first | assumption | omega) (by decide) (by first | assumption | rfl) rfl rfl ?_
    refine r_iconst c229_51 rfl ?_
    refine r_isub c229_52 (by first | exact q_w32_id (by omega) (by omega) | exact q_w32w _ | exact rfl) rfl ?_
    refine r_vcG c229_53 (by first | assumption | omega) (by decide) (by first | assumption | rfl) rfl rfl rfl (k152 hG (q_Fr.bz (S := fun k => k = 0 ∨ (6 ≤ k ∧ k ≤ 138)) hZ (by repeat (first | exact q_Fr.rf | refine q_Fr.ud ?_ (by omega) (by first | assumption | rfl) rfl | refine q_Fr.udz ?_ (by omega) (by first | assumption | decide | omega) | refine q_Fr.tr ?_ (by assumption) (by intro k9 hk9; omega)))) (by first | assumption | exact q_hC (by assumption) | exact q_h1 (by assumption) | exact q_h3 (by assumption) | exact q_h5 (by assumption) | exact q_hG (by assumption) | exact q_hP | exact q_hB1 | exact q_hB2 | exact q_hT6 | exact q_hT15 | exact q_hT24)) ?_
    intro t3 w3 g3 p3
    obtain ⟨rfl, e3⟩ := p3
    refine Or.inl ⟨rfl, ?_⟩
    refine r_aload_n c229_56 rfl rfl ?_
    refine r_getr c229_57 (by first | assumption | omega) (by decide) (by first | assumption | rfl) rfl rfl ?_
    refine r_getr c229_60 (by first | assumption | omega) (by decide) (by first | assumption | rfl) rfl rfl ?_
    refine r_geti c229_63 (by first | assumption | omega) (by decide) (by first | assumption | rfl) rfl rfl ?_
    exact r_iret c229_66 ⟨rfl, rfl, rfl⟩ (Or.inl ⟨rfl, ⟨_, rfl⟩, (by repeat (first | exact q_Fr.rf | refine q_Fr.ud ?_ (by omega) (by first | assumption | rfl) rfl | refine q_Fr.udz ?_ (by omega) (by first | assumption | decide | omega) | refine q_Fr.tr ?_ (by assumption) (by intro k9 hk9; omega)))⟩)
  · intro b1
    exact r_thr (y := 207) c229_13 rfl (Or.inr (⟨rfl, (by repeat (first | exact q_Fr.rf | refine q_Fr.ud ?_ (by omega) (by first | assumption | rfl) rfl | refine q_Fr.udz ?_ (by omega) (by first | assumption | decide | omega) | refine q_Fr.tr ?_ (by assumption) (by intro k9 hk9; omega)))⟩))
theorem c207_0 : q_cat 207 0 (.iload_n 1) 1 1 0 (0) := ⟨rfl, rfl⟩
theorem c207_1 : q_cat 207 1 (.iconst 1) 1 0 0 (0) := ⟨rfl, rfl⟩
theorem c207_2 : q_cat 207 2 (.if_icmp .lt 9) 3 11 0 (0) := ⟨rfl, rfl⟩
theorem c207_5 : q_cat 207 5 (.iload_n 1) 1 1 0 (0) := ⟨rfl, rfl⟩
theorem c207_6 : q_cat 207 6 (.bipush 16) 2 0 0 (0) := ⟨rfl, rfl⟩
theorem c207_8 : q_cat 207 8 (.if_icmp .le 13) 3 21 0 (0) := ⟨rfl, rfl⟩
theorem c207_11 : q_cat 207 11 (.new 125) 3 0 130 (211) := ⟨rfl, rfl⟩
theorem c207_14 : q_cat 207 14 (.dup) 1 0 0 (0) := ⟨rfl, rfl⟩
theorem c207_21 : q_cat 207 21 (.iload_n 1) 1 1 0 (0) := ⟨rfl, rfl⟩
theorem c207_22 : q_cat 207 22 (.aload_n 0) 1 0 0 (0) := ⟨rfl, rfl⟩
theorem c207_23 : q_cat 207 23 (.getfield 26) 3 8 2 (3) := ⟨rfl, rfl⟩
theorem c207_26 : q_cat 207 26 (.getfield 114) 3 6 3 (3) := ⟨rfl, rfl⟩
theorem c207_29 : q_cat 207 29 (.getfield 117) 3 7 1 (0) := ⟨rfl, rfl⟩
theorem c207_32 : q_cat 207 32 (.if_icmp .le 13) 3 45 0 (0) := ⟨rfl, rfl⟩
theorem c207_35 : q_cat 207 35 (.new 203) 3 3 208 (213) := ⟨rfl, rfl⟩
theorem c207_38 : q_cat 207 38 (.dup) 1 0 0 (0) := ⟨rfl, rfl⟩
theorem c207_45 : q_cat 207 45 (.aload_n 0) 1 0 0 (0) := ⟨rfl, rfl⟩
theorem c207_46 : q_cat 207 46 (.getfield 39) 3 8 5 (3) := ⟨rfl, rfl⟩
theorem c207_49 : q_cat 207 49 (.aload_n 0) 1 0 0 (0) := ⟨rfl, rfl⟩
theorem c207_50 : q_cat 207 50 (.getfield 26) 3 8 2 (3) := ⟨rfl, rfl⟩
theorem c207_53 : q_cat 207 53 (.invokevirtual 169) 3 67 0 (0) := ⟨rfl, rfl⟩
theorem c207_56 : q_cat 207 56 (.aload_n 0) 1 0 0 (0) := ⟨rfl, rfl⟩
theorem c207_57 : q_cat 207 57 (.getfield 26) 3 8 2 (3) := ⟨rfl, rfl⟩
theorem c207_60 : q_cat 207 60 (.aload_n 0) 1 0 0 (0) := ⟨rfl, rfl⟩
theorem c207_61 : q_cat 207 61 (.invokevirtual 215) 3 195 0 (0) := ⟨rfl, rfl⟩
theorem c207_64 : q_cat 207 64 (.iload_n 1) 1 1 0 (0) := ⟨rfl, rfl⟩
theorem c207_65 : q_cat 207 65 (.invokevirtual 219) 3 138 0 (0) := ⟨rfl, rfl⟩
theorem c207_68 : q_cat 207 68 (.ireturn) 1 0 0 (0) := ⟨rfl, rfl⟩
theorem k207 {Γ : q_Γ} (hG : q_GG Γ) {h : q_F} (hZ : q_Bz h) {v1 : Int}  :
    q_M Γ q_K 155 207 [(2, Int.ofNat 0), (0, v1)] h (fun t w h' => (t = 1 ∧ (∃ z, w = ((0, z) : q_V)) ∧ q_Fr (fun k => k = 0 ∨ (6 ≤ k ∧ k ≤ 138)) h h') ∨ (t = 2 ∧ q_Fr (fun k => k = 0 ∨ (6 ≤ k ∧ k ≤ 138)) h h') ∨ (t = 5 ∧ q_Fr (fun k => k = 0 ∨ (6 ≤ k ∧ k ≤ 138)) h h')) := by
  have hT6 := q_hT6
  obtain ⟨fT6_0, fT6_1, fT6_2, fT6_3, fT6_4, fT6_5, fT6_6, fT6_7, fT6_8, fT6_9, fT6_10⟩ := q_fT hT6
  have hT15 := q_hT15
  obtain ⟨fT15_0, fT15_1, fT15_2, fT15_3, fT15_4, fT15_5, fT15_6, fT15_7, fT15_8, fT15_9, fT15_10⟩ := q_fT hT15
  have hT24 := q_hT24
  obtain ⟨fT24_0, fT24_1, fT24_2, fT24_3, fT24_4, fT24_5, fT24_6, fT24_7, fT24_8, fT24_9, fT24_10⟩ := q_fT hT24
  obtain ⟨gP0, gP1, gP2, gP3⟩ := q_fG q_hP
  refine q_M.of (by decide) (Nat.le_of_ble_eq_true rfl) hG ?_
  refine r_iload_n c207_0 rfl rfl ?_
  refine r_iconst c207_1 rfl ?_
  refine r_ic_lt c207_2 rfl (by first | exact q_w32_id (by omega) (by omega) | exact q_w32w _ | exact rfl) (show q_w32 (1) = 1 from rfl) ?_ ?_
  · intro b1
    exact r_thr (y := 129) c207_11 rfl (Or.inr (Or.inl ⟨rfl, (by repeat (first | exact q_Fr.rf | refine q_Fr.ud ?_ (by omega) (by first | assumption | rfl) rfl | refine q_Fr.udz ?_ (by omega) (by first | assumption | decide | omega) | refine q_Fr.tr ?_ (by assumption) (by intro k9 hk9; omega)))⟩))
  · intro b1
    refine r_iload_n c207_5 rfl rfl ?_
    refine r_bipush c207_6 rfl ?_
    refine r_ic_le c207_8 rfl (by first | exact q_w32_id (by omega) (by omega) | exact q_w32w _ | exact rfl) (show q_w32 (16) = 16 from rfl) ?_ ?_
    · intro b2
      refine r_iload_n c207_21 rfl rfl ?_
      refine r_aload_n c207_22 rfl rfl ?_
      refine r_getr c207_23 (by first | assumption | omega) (by decide) (by first | assumption | rfl) rfl rfl ?_
      refine r_getr c207_26 (by first | assumption | omega) (by decide) (by first | assumption | rfl) rfl rfl ?_
      refine r_geti c207_29 (by first | assumption | omega) (by decide) (by first | assumption | rfl) rfl rfl ?_
      refine r_ic_le c207_32 rfl (by first | exact q_w32_id (by omega) (by omega) | exact q_w32w _ | exact rfl) (by first | exact q_w32_id (by omega) (by omega) | exact q_w32w _ | exact rfl) ?_ ?_
      · intro b3
        refine r_aload_n c207_45 rfl rfl ?_
        refine r_getr c207_46 (by first | assumption | omega) (by decide) (by first | assumption | rfl) rfl rfl ?_
        refine r_aload_n c207_49 rfl rfl ?_
        refine r_getr c207_50 (by first | assumption | omega) (by decide) (by first | assumption | rfl) rfl rfl ?_
        refine r_vcG c207_53 (by first | assumption | omega) (by decide) (by first | assumption | rfl) rfl rfl rfl (k67 hG (q_Fr.bz (S := fun k => k = 0 ∨ (6 ≤ k ∧ k ≤ 138)) hZ (by repeat (first | exact q_Fr.rf | refine q_Fr.ud ?_ (by omega) (by first | assumption | rfl) rfl | refine q_Fr.udz ?_ (by omega) (by first | assumption | decide | omega) | refine q_Fr.tr ?_ (by assumption) (by intro k9 hk9; omega)))) (by first | assumption | exact q_hC (by assumption) | exact q_h1 (by assumption) | exact q_h3 (by assumption) | exact q_h5 (by assumption) | exact q_hG (by assumption) | exact q_hP | exact q_hB1 | exact q_hB2 | exact q_hT6 | exact q_hT15 | exact q_hT24)) ?_
        intro t4 w4 g4 p4
        obtain ⟨rfl, e4⟩ := p4
        refine Or.inl ⟨rfl, ?_⟩
        refine r_aload_n c207_56 rfl rfl ?_
        refine r_getr c207_57 (by first | assumption | omega) (by decide) (by first | assumption | rfl) rfl rfl ?_
        refine r_aload_n c207_60 rfl rfl ?_
        refine r_vcG c207_61 (by first | assumption | omega) (by decide) (by first | assumption | rfl) rfl rfl rfl (k195 hG (q_Fr.bz (S := fun k => k = 0 ∨ (6 ≤ k ∧ k ≤ 138)) hZ (by repeat (first | exact q_Fr.rf | refine q_Fr.ud ?_ (by omega) (by first | assumption | rfl) rfl | refine q_Fr.udz ?_ (by omega) (by first | assumption | decide | omega) | refine q_Fr.tr ?_ (by assumption) (by intro k9 hk9; omega))))) ?_
        intro t5 w5 g5 p5
        obtain ⟨rfl, rfl, e5⟩ := p5
        refine Or.inr (Or.inl ⟨rfl, ?_⟩)
        refine r_iload_n c207_64 rfl rfl ?_
        refine r_vcG c207_65 (by first | assumption | omega) (by decide) (by first | assumption | rfl) rfl rfl rfl (k138 hG (q_Fr.bz (S := fun k => k = 0 ∨ (6 ≤ k ∧ k ≤ 138)) hZ (by repeat (first | exact q_Fr.rf | refine q_Fr.ud ?_ (by omega) (by first | assumption | rfl) rfl | refine q_Fr.udz ?_ (by omega) (by first | assumption | decide | omega) | refine q_Fr.tr ?_ (by assumption) (by intro k9 hk9; omega)))) (by first | assumption | exact q_hC (by assumption) | exact q_h1 (by assumption) | exact q_h3 (by assumption) | exact q_h5 (by assumption) | exact q_hG (by assumption) | exact q_hP | exact q_hB1 | exact q_hB2 | exact q_hT6 | exact q_hT15 | exact q_hT24)) ?_
        intro t6 w6 g6 p6
        obtain ⟨rfl, ⟨z6, rfl⟩, e6⟩ := p6
        refine Or.inr (Or.inl ⟨rfl, ?_⟩)
        exact r_iret c207_68 ⟨rfl, rfl, rfl⟩ (Or.inl ⟨rfl, ⟨_, rfl⟩, (by repeat (first | exact q_Fr.rf | refine q_Fr.ud ?_ (by omega) (by first | assumption | rfl) rfl | refine q_Fr.udz ?_ (by omega) (by first | assumption | decide | omega) | refine q_Fr.tr ?_ (by assumption) (by intro k9 hk9; omega)))⟩)
      · intro b3
        exact r_thr (y := 207) c207_35 rfl (Or.inr (Or.inr (⟨rfl, (by repeat (first | exact q_Fr.rf | refine q_Fr.ud ?_ (by omega) (by first | assumption | rfl) rfl | refine q_Fr.udz ?_ (by omega) (by first | assumption | decide | omega) | refine q_Fr.tr ?_ (by assumption) (by intro k9 hk9; omega)))⟩)))
    · intro b2
      exact r_thr (y := 129) c207_11 rfl (Or.inr (Or.inl ⟨rfl, (by repeat (first | exact q_Fr.rf | refine q_Fr.ud ?_ (by omega) (by first | assumption | rfl) rfl | refine q_Fr.udz ?_ (by omega) (by first | assumption | decide | omega) | refine q_Fr.tr ?_ (by assumption) (by intro k9 hk9; omega)))⟩))
theorem c205_0 : q_cat 205 0 (.aload_n 0) 1 0 0 (0) := ⟨rfl, rfl⟩
theorem c205_1 : q_cat 205 1 (.getfield 39) 3 8 5 (3) := ⟨rfl, rfl⟩
theorem c205_4 : q_cat 205 4 (.aload_n 0) 1 0 0 (0) := ⟨rfl, rfl⟩
theorem c205_5 : q_cat 205 5 (.getfield 26) 3 8 2 (3) := ⟨rfl, rfl⟩
theorem c205_8 : q_cat 205 8 (.invokevirtual 169) 3 67 0 (0) := ⟨rfl, rfl⟩
theorem c205_11 : q_cat 205 11 (.aload_n 0) 1 0 0 (0) := ⟨rfl, rfl⟩
theorem c205_12 : q_cat 205 12 (.getfield 26) 3 8 2 (3) := ⟨rfl, rfl⟩
theorem c205_15 : q_cat 205 15 (.getfield 111) 3 6 7 (0) := ⟨rfl, rfl⟩
theorem c205_18 : q_cat 205 18 (.istore_n 1) 1 1 0 (0) := ⟨rfl, rfl⟩
theorem c205_19 : q_cat 205 19 (.aload_n 0) 1 0 0 (0) := ⟨rfl, rfl⟩
theorem c205_20 : q_cat 205 20 (.getfield 26) 3 8 2 (3) := ⟨rfl, rfl⟩
theorem c205_23 : q_cat 205 23 (.iconst 0) 1 0 0 (0) := ⟨rfl, rfl⟩
theorem c205_24 : q_cat 205 24 (.invokevirtual 223) 3 142 0 (0) := ⟨rfl, rfl⟩
theorem c205_27 : q_cat 205 27 (.iload_n 1) 1 1 0 (0) := ⟨rfl, rfl⟩
theorem c205_28 : q_cat 205 28 (.ireturn) 1 0 0 (0) := ⟨rfl, rfl⟩
theorem k205 {Γ : q_Γ} (hG : q_GG Γ) {h : q_F} (hZ : q_Bz h)   :
    q_M Γ q_K 155 205 [(2, Int.ofNat 0)] h (fun t w h' => (t = 1 ∧ (∃ z, w = ((0, z) : q_V)) ∧ q_Fr (fun k => k = 0 ∨ (6 ≤ k ∧ k ≤ 138)) h h')) := by
  have hT6 := q_hT6
  obtain ⟨fT6_0, fT6_1, fT6_2, fT6_3, fT6_4, fT6_5, fT6_6, fT6_7, fT6_8, fT6_9, fT6_10⟩ := q_fT hT6
  have hT15 := q_hT15
  obtain ⟨fT15_0, fT15_1, fT15_2, fT15_3, fT15_4, fT15_5, fT15_6, fT15_7, fT15_8, fT15_9, fT15_10⟩ := q_fT hT15
  have hT24 := q_hT24
  obtain ⟨fT24_0, fT24_1, fT24_2, fT24_3, fT24_4, fT24_5, fT24_6, fT24_7, fT24_8, fT24_9, fT24_10⟩ := q_fT hT24
  obtain ⟨gP0, gP1, gP2, gP3⟩ := q_fG q_hP
  refine q_M.of (by decide) (Nat.le_of_ble_eq_true rfl) hG ?_
  refine r_aload_n c205_0 rfl rfl ?_
  refine r_getr c205_1 (by first | assumption | omega) (by decide) (by first | assumption | rfl) rfl rfl ?_
  refine r_aload_n c205_4 rfl rfl ?_
  refine r_getr c205_5 (by first | assumption | omega) (by decide) (by first | assumption | rfl) rfl rfl ?_
  refine r_vcG c205_8 (by first | assumption | omega) (by decide) (by first | assumption | rfl) rfl rfl rfl (k67 hG (q_Fr.bz (S := fun k => k = 0 ∨ (6 ≤ k ∧ k ≤ 138)) hZ (by repeat (first | exact q_Fr.rf | refine q_Fr.ud ?_ (by omega) (by first | assumption | rfl) rfl | refine q_Fr.udz ?_ (by omega) (by first | assumption | decide | omega) | refine q_Fr.tr ?_ (by assumption) (by intro k9 hk9; omega)))) (by first | assumption | exact q_hC (by assumption) | exact q_h1 (by assumption) | exact q_h3 (by assumption) | exact q_h5 (by assumption) | exact q_hG (by assumption) | exact q_hP | exact q_hB1 | exact q_hB2 | exact q_hT6 | exact q_hT15 | exact q_hT24)) ?_
  intro t1 w1 g1 p1
  obtain ⟨rfl, e1⟩ := p1
  refine Or.inl ⟨rfl, ?_⟩
  refine r_aload_n c205_11 rfl rfl ?_
  refine r_getr c205_12 (by first | assumption | omega) (by decide) (by first | assumption | rfl) rfl rfl ?_
  refine r_geti c205_15 (by first | assumption | omega) (by decide) (by first | assumption | rfl) rfl rfl ?_
  refine r_istore_n c205_18 (lo' := [(1, _), (0, _)]) rfl rfl rfl ?_
  refine r_aload_n c205_19 rfl rfl ?_
  refine r_getr c205_20 (by first | assumption | omega) (by decide) (by first | assumption | rfl) rfl rfl ?_
  refine r_iconst c205_23 rfl ?_
  refine r_vcG c205_24 (by first | assumption | omega) (by decide) (by first | assumption | rfl) rfl rfl rfl (k142 hG (q_Fr.bz (S := fun k => k = 0 ∨ (6 ≤ k ∧ k ≤ 138)) hZ (by repeat (first | exact q_Fr.rf | refine q_Fr.ud ?_ (by omega) (by first | assumption | rfl) rfl | refine q_Fr.udz ?_ (by omega) (by first | assumption | decide | omega) | refine q_Fr.tr ?_ (by assumption) (by intro k9 hk9; omega)))) (by first | assumption | exact q_hC (by assumption) | exact q_h1 (by assumption) | exact q_h3 (by assumption) | exact q_h5 (by assumption) | exact q_hG (by assumption) | exact q_hP | exact q_hB1 | exact q_hB2 | exact q_hT6 | exact q_hT15 | exact q_hT24)) ?_
  intro t2 w2 g2 p2
  obtain ⟨rfl, e2⟩ := p2
  refine Or.inl ⟨rfl, ?_⟩
  refine r_iload_n c205_27 rfl rfl ?_
  exact r_iret c205_28 ⟨rfl, rfl, rfl⟩ ⟨rfl, ⟨_, rfl⟩, (by repeat (first | exact q_Fr.rf | refine q_Fr.ud ?_ (by omega) (by first | assumption | rfl) rfl | refine q_Fr.udz ?_ (by omega) (by first | assumption | decide | omega) | refine q_Fr.tr ?_ (by assumption) (by intro k9 hk9; omega)))⟩
theorem c210_0 : q_cat 210 0 (.aload_n 0) 1 0 0 (0) := ⟨rfl, rfl⟩
theorem c210_1 : q_cat 210 1 (.getfield 39) 3 8 5 (3) := ⟨rfl, rfl⟩
theorem c210_4 : q_cat 210 4 (.aload_n 0) 1 0 0 (0) := ⟨rfl, rfl⟩
theorem c210_5 : q_cat 210 5 (.getfield 26) 3 8 2 (3) := ⟨rfl, rfl⟩
theorem c210_8 : q_cat 210 8 (.invokevirtual 169) 3 67 0 (0) := ⟨rfl, rfl⟩
theorem c210_11 : q_cat 210 11 (.aload_n 0) 1 0 0 (0) := ⟨rfl, rfl⟩
theorem c210_12 : q_cat 210 12 (.getfield 26) 3 8 2 (3) := ⟨rfl, rfl⟩
theorem c210_15 : q_cat 210 15 (.getfield 105) 3 6 5 (1) := ⟨rfl, rfl⟩
theorem c210_18 : q_cat 210 18 (.istore_n 2) 1 2 0 (0) := ⟨rfl, rfl⟩
theorem c210_19 : q_cat 210 19 (.aload_n 0) 1 0 0 (0) := ⟨rfl, rfl⟩
theorem c210_20 : q_cat 210 20 (.getfield 26) 3 8 2 (3) := ⟨rfl, rfl⟩
theorem c210_23 : q_cat 210 23 (.iload_n 1) 1 1 0 (0) := ⟨rfl, rfl⟩
theorem c210_24 : q_cat 210 24 (.putfield 105) 3 6 5 (1) := ⟨rfl, rfl⟩
theorem c210_27 : q_cat 210 27 (.iload_n 2) 1 2 0 (0) := ⟨rfl, rfl⟩
theorem c210_28 : q_cat 210 28 (.ireturn) 1 0 0 (0) := ⟨rfl, rfl⟩
theorem k210 {Γ : q_Γ} (hG : q_GG Γ) {h : q_F} (hZ : q_Bz h) {v1 : Int} (hz1 : v1 = 0 ∨ v1 = 1) :
    q_M Γ q_K 155 210 [(2, Int.ofNat 0), (0, v1)] h (fun t w h' => (t = 1 ∧ (∃ z, w = ((0, z) : q_V) ∧ (z = 0 ∨ z = 1)) ∧ q_Fr (fun k => k = 0 ∨ (6 ≤ k ∧ k ≤ 138)) h h')) := by
  have hT6 := q_hT6
  obtain ⟨fT6_0, fT6_1, fT6_2, fT6_3, fT6_4, fT6_5, fT6_6, fT6_7, fT6_8, fT6_9, fT6_10⟩ := q_fT hT6
  have hT15 := q_hT15
  obtain ⟨fT15_0, fT15_1, fT15_2, fT15_3, fT15_4, fT15_5, fT15_6, fT15_7, fT15_8, fT15_9, fT15_10⟩ := q_fT hT15
  have hT24 := q_hT24
  obtain ⟨fT24_0, fT24_1, fT24_2, fT24_3, fT24_4, fT24_5, fT24_6, fT24_7, fT24_8, fT24_9, fT24_10⟩ := q_fT hT24
  obtain ⟨gP0, gP1, gP2, gP3⟩ := q_fG q_hP
  refine q_M.of (by decide) (Nat.le_of_ble_eq_true rfl) hG ?_
  refine r_aload_n c210_0 rfl rfl ?_
  refine r_getr c210_1 (by first | assumption | omega) (by decide) (by first | assumption | rfl) rfl rfl ?_
  refine r_aload_n c210_4 rfl rfl ?_
  refine r_getr c210_5 (by first | assumption | omega) (by decide) (by first | assumption | rfl) rfl rfl ?_
  refine r_vcG c210_8 (by first | assumption | omega) (by decide) (by first | assumption | rfl) rfl rfl rfl (k67 hG (q_Fr.bz (S := fun k => k = 0 ∨ (6 ≤ k ∧ k ≤ 138)) hZ (by repeat (first | exact q_Fr.rf | refine q_Fr.ud ?_ (by omega) (by first | assumption | rfl) rfl | refine q_Fr.udz ?_ (by omega) (by first | assumption | decide | omega) | refine q_Fr.tr ?_ (by assumption) (by intro k9 hk9; omega)))) (by first | assumption | exact q_hC (by assumption) | exact q_h1 (by assumption) | exact q_h3 (by assumption) | exact q_h5 (by assumption) | exact q_hG (by assumption) | exact q_hP | exact q_hB1 | exact q_hB2 | exact q_hT6 | exact q_hT15 | exact q_hT24)) ?_
  intro t1 w1 g1 p1
  obtain ⟨rfl, e1⟩ := p1
  refine Or.inl ⟨rfl, ?_⟩
  refine r_aload_n c210_11 rfl rfl ?_
  refine r_getr c210_12 (by first | assumption | omega) (by decide) (by first | assumption | rfl) rfl rfl ?_
  refine r_getz (q_Fr.bz (S := fun k => k = 0 ∨ (6 ≤ k ∧ k ≤ 138)) hZ (by repeat (first | exact q_Fr.rf | refine q_Fr.ud ?_ (by omega) (by first | assumption | rfl) rfl | refine q_Fr.udz ?_ (by omega) (by first | assumption | decide | omega) | refine q_Fr.tr ?_ (by assumption) (by intro k9 hk9; omega)))) c210_15 (by first | assumption | omega) (by decide) (by first | assumption | rfl) rfl rfl rfl ?_
  intro z2
  refine r_istore_n c210_18 (lo' := [(2, _), (0, _), (1, _)]) rfl rfl rfl ?_
  refine r_aload_n c210_19 rfl rfl ?_
  refine r_getr c210_20 (by first | assumption | omega) (by decide) (by first | assumption | rfl) rfl rfl ?_
  refine r_iload_n c210_23 rfl rfl ?_
  refine r_puti c210_24 (by first | assumption | omega) (by decide) (by first | assumption | rfl) rfl (q_fit_b (by first | assumption | omega)) rfl ?_
  refine r_iload_n c210_27 rfl rfl ?_
  exact r_zret c210_28 ⟨rfl, rfl, rfl⟩ (by first | assumption | omega) ⟨rfl, ⟨_, rfl, (by first | assumption | omega)⟩, (by repeat (first | exact q_Fr.rf | refine q_Fr.ud ?_ (by omega) (by first | assumption | rfl) rfl | refine q_Fr.udz ?_ (by omega) (by first | assumption | decide | omega) | refine q_Fr.tr ?_ (by assumption) (by intro k9 hk9; omega)))⟩
theorem c211_0 : q_cat 211 0 (.aload_n 0) 1 0 0 (0) := ⟨rfl, rfl⟩
theorem c211_1 : q_cat 211 1 (.getfield 39) 3 8 5 (3) := ⟨rfl, rfl⟩
theorem c211_4 : q_cat 211 4 (.aload_n 0) 1 0 0 (0) := ⟨rfl, rfl⟩
theorem c211_5 : q_cat 211 5 (.getfield 26) 3 8 2 (3) := ⟨rfl, rfl⟩
theorem c211_8 : q_cat 211 8 (.invokevirtual 169) 3 67 0 (0) := ⟨rfl, rfl⟩
theorem c211_11 : q_cat 211 11 (.aload_n 0) 1 0 0 (0) := ⟨rfl, rfl⟩
theorem c211_12 : q_cat 211 12 (.getfield 26) 3 8 2 (3) := ⟨rfl, rfl⟩
theorem c211_15 : q_cat 211 15 (.getfield 108) 3 6 6 (1) := ⟨rfl, rfl⟩
theorem c211_18 : q_cat 211 18 (.istore_n 2) 1 2 0 (0) := ⟨rfl, rfl⟩
theorem c211_19 : q_cat 211 19 (.aload_n 0) 1 0 0 (0) := ⟨rfl, rfl⟩
theorem c211_20 : q_cat 211 20 (.getfield 26) 3 8 2 (3) := ⟨rfl, rfl⟩
theorem c211_23 : q_cat 211 23 (.iload_n 1) 1 1 0 (0) := ⟨rfl, rfl⟩
theorem c211_24 : q_cat 211 24 (.putfield 108) 3 6 6 (1) := ⟨rfl, rfl⟩
theorem c211_27 : q_cat 211 27 (.iload_n 2) 1 2 0 (0) := ⟨rfl, rfl⟩
theorem c211_28 : q_cat 211 28 (.ireturn) 1 0 0 (0) := ⟨rfl, rfl⟩
theorem k211 {Γ : q_Γ} (hG : q_GG Γ) {h : q_F} (hZ : q_Bz h) {v1 : Int} (hz1 : v1 = 0 ∨ v1 = 1) :
    q_M Γ q_K 155 211 [(2, Int.ofNat 0), (0, v1)] h (fun t w h' => (t = 1 ∧ (∃ z, w = ((0, z) : q_V) ∧ (z = 0 ∨ z = 1)) ∧ q_Fr (fun k => k = 0 ∨ (6 ≤ k ∧ k ≤ 138)) h h')) := by
  have hT6 := q_hT6
  obtain ⟨fT6_0, fT6_1, fT6_2, fT6_3, fT6_4, fT6_5, fT6_6, fT6_7, fT6_8, fT6_9, fT6_10⟩ := q_fT hT6
  have hT15 := q_hT15
  obtain ⟨fT15_0, fT15_1, fT15_2, fT15_3, fT15_4, fT15_5, fT15_6, fT15_7, fT15_8, fT15_9, fT15_10⟩ := q_fT hT15
  have hT24 := q_hT24
  obtain ⟨fT24_0, fT24_1, fT24_2, fT24_3, fT24_4, fT24_5, fT24_6, fT24_7, fT24_8, fT24_9, fT24_10⟩ := q_fT hT24
  obtain ⟨gP0, gP1, gP2, gP3⟩ := q_fG q_hP
  refine q_M.of (by decide) (Nat.le_of_ble_eq_true rfl) hG ?_
  refine r_aload_n c211_0 rfl rfl ?_
  refine r_getr c211_1 (by first | assumption | omega) (by decide) (by first | assumption | rfl) rfl rfl ?_
  refine r_aload_n c211_4 rfl rfl ?_
  refine r_getr c211_5 (by first | assumption | omega) (by decide) (by first | assumption | rfl) rfl rfl ?_
  refine r_vcG c211_8 (by first | assumption | omega) (by decide) (by first | assumption | rfl) rfl rfl rfl (k67 hG (q_Fr.bz (S := fun k => k = 0 ∨ (6 ≤ k ∧ k ≤ 138)) hZ (by repeat (first | exact q_Fr.rf | refine q_Fr.ud ?_ (by omega) (by first | assumption | rfl) rfl | refine q_Fr.udz ?_ (by omega) (by first | assumption | decide | omega) | refine q_Fr.tr ?_ (by assumption) (by intro k9 hk9; omega)))) (by first | assumption | exact q_hC (by assumption) | exact q_h1 (by assumption) | exact q_h3 (by assumption) | exact q_h5 (by assumption) | exact q_hG (by assumption) | exact q_hP | exact q_hB1 | exact q_hB2 | exact q_hT6 | exact q_hT15 | exact q_hT24)) ?_
  intro t1 w1 g1 p1
  obtain ⟨rfl, e1⟩ := p1
  refine Or.inl ⟨rfl, ?_⟩
  refine r_aload_n c211_11 rfl rfl ?_
  refine r_getr c211_12 (by first | assumption | omega) (by decide) (by first | assumption | rfl) rfl rfl ?_
  refine r_getz (q_Fr.bz (S := fun k => k = 0 ∨ (6 ≤ k ∧ k ≤ 138)) hZ (by repeat (first | exact q_Fr.rf | refine q_Fr.ud ?_ (by omega) (by first | assumption | rfl) rfl | refine q_Fr.udz ?_ (by omega) (by first | assumption | decide | omega) | refine q_Fr.tr ?_ (by assumption) (by intro k9 hk9; omega)))) c211_15 (by first | assumption | omega) (by decide) (by first | assumption | rfl) rfl rfl rfl ?_
  intro z2
  refine r_istore_n c211_18 (lo' := [(2, _), (0, _), (1, _)]) rfl rfl rfl ?_
  refine r_aload_n c211_19 rfl rfl ?_
  refine r_getr c211_20 (by first | assumption | omega) (by decide) (by first | assumption | rfl) rfl rfl ?_
  refine r_iload_n c211_23 rfl rfl ?_
  refine r_puti c211_24 (by first | assumption | omega) (by decide) (by first | assumption | rfl) rfl (q_fit_b (by first | assumption | omega)) rfl ?_
  refine r_iload_n c211_27 rfl rfl ?_
  exact r_zret c211_28 ⟨rfl, rfl, rfl⟩ (by first | assumption | omega) ⟨rfl, ⟨_, rfl, (by first | assumption | omega)⟩, (by repeat (first | exact q_Fr.rf | refine q_Fr.ud ?_ (by omega) (by first | assumption | rfl) rfl | refine q_Fr.udz ?_ (by omega) (by first | assumption | decide | omega) | refine q_Fr.tr ?_ (by assumption) (by intro k9 hk9; omega)))⟩
theorem c213_0 : q_cat 213 0 (.aload_n 0) 1 0 0 (0) := ⟨rfl, rfl⟩
theorem c213_1 : q_cat 213 1 (.iload_n 1) 1 1 0 (0) := ⟨rfl, rfl⟩
theorem c213_2 : q_cat 213 2 (.invokevirtual 132) 3 162 0 (0) := ⟨rfl, rfl⟩
theorem c213_5 : q_cat 213 5 (.iload_n 2) 1 2 0 (0) := ⟨rfl, rfl⟩
theorem c213_6 : q_cat 213 6 (.ifCond .lt 8) 3 14 0 (0) := ⟨rfl, rfl⟩
theorem c213_9 : q_cat 213 9 (.iload_n 2) 1 2 0 (0) := ⟨rfl, rfl⟩
theorem c213_10 : q_cat 213 10 (.iconst 2) 1 0 0 (0) := ⟨rfl, rfl⟩
theorem c213_11 : q_cat 213 11 (.if_icmp .le 13) 3 24 0 (0) := ⟨rfl, rfl⟩
theorem c213_14 : q_cat 213 14 (.new 125) 3 0 130 (226) := ⟨rfl, rfl⟩
theorem c213_17 : q_cat 213 17 (.dup) 1 0 0 (0) := ⟨rfl, rfl⟩
theorem c213_24 : q_cat 213 24 (.aload_n 0) 1 0 0 (0) := ⟨rfl, rfl⟩
theorem c213_25 : q_cat 213 25 (.getfield 39) 3 8 5 (3) := ⟨rfl, rfl⟩
theorem c213_28 : q_cat 213 28 (.aload_n 0) 1 0 0 (0) := ⟨rfl, rfl⟩
theorem c213_29 : q_cat 213 29 (.getfield 26) 3 8 2 (3) := ⟨rfl, rfl⟩
theorem c213_32 : q_cat 213 32 (.invokevirtual 169) 3 67 0 (0) := ⟨rfl, rfl⟩
theorem c213_35 : q_cat 213 35 (.aload_n 0) 1 0 0 (0) := ⟨rfl, rfl⟩
theorem c213_36 : q_cat 213 36 (.getfield 26) 3 8 2 (3) := ⟨rfl, rfl⟩
theorem c213_39 : q_cat 213 39 (.iload_n 1) 1 1 0 (0) := ⟨rfl, rfl⟩
theorem c213_40 : q_cat 213 40 (.invokevirtual 135) 3 125 0 (0) := ⟨rfl, rfl⟩
theorem c213_43 : q_cat 213 43 (.astore_n 3) 1 3 0 (0) := ⟨rfl, rfl⟩
theorem c213_44 : q_cat 213 44 (.aload_n 3) 1 3 0 (0) := ⟨rfl, rfl⟩
theorem c213_45 : q_cat 213 45 (.getfield 228) 3 1 9 (0) := ⟨rfl, rfl⟩
theorem c213_48 : q_cat 213 48 (.istore 4) 2 4 0 (0) := ⟨rfl, rfl⟩
theorem c213_50 : q_cat 213 50 (.aload_n 3) 1 3 0 (0) := ⟨rfl, rfl⟩
theorem c213_51 : q_cat 213 51 (.iload_n 2) 1 2 0 (0) := ⟨rfl, rfl⟩
theorem c213_52 : q_cat 213 52 (.putfield 228) 3 1 9 (0) := ⟨rfl, rfl⟩
theorem c213_55 : q_cat 213 55 (.iload 4) 2 4 0 (0) := ⟨rfl, rfl⟩
theorem c213_57 : q_cat 213 57 (.ireturn) 1 0 0 (0) := ⟨rfl, rfl⟩
theorem k213 {Γ : q_Γ} (hG : q_GG Γ) {h : q_F} (hZ : q_Bz h) {v1 : Int} {v2 : Int}  :
    q_M Γ q_K 155 213 [(2, Int.ofNat 0), (0, v1), (0, v2)] h (fun t w h' => (t = 1 ∧ (∃ z, w = ((0, z) : q_V)) ∧ q_Fr (fun k => k = 0 ∨ (6 ≤ k ∧ k ≤ 138)) h h') ∨ (t = 2 ∧ q_Fr (fun k => k = 0 ∨ (6 ≤ k ∧ k ≤ 138)) h h') ∨ (t = 3 ∧ q_Fr (fun k => k = 0 ∨ (6 ≤ k ∧ k ≤ 138)) h h')) := by
  have hT6 := q_hT6
  obtain ⟨fT6_0, fT6_1, fT6_2, fT6_3, fT6_4, fT6_5, fT6_6, fT6_7, fT6_8, fT6_9, fT6_10⟩ := q_fT hT6
  have hT15 := q_hT15
  obtain ⟨fT15_0, fT15_1, fT15_2, fT15_3, fT15_4, fT15_5, fT15_6, fT15_7, fT15_8, fT15_9, fT15_10⟩ := q_fT hT15
  have hT24 := q_hT24
  obtain ⟨fT24_0, fT24_1, fT24_2, fT24_3, fT24_4, fT24_5, fT24_6, fT24_7, fT24_8, fT24_9, fT24_10⟩ := q_fT hT24
  obtain ⟨gP0, gP1, gP2, gP3⟩ := q_fG q_hP
  refine q_M.of (by decide) (Nat.le_of_ble_eq_true rfl) hG ?_
  refine r_aload_n c213_0 rfl rfl ?_
  refine r_iload_n c213_1 rfl rfl ?_
  refine r_vcG c213_2 (by first | assumption | omega) (by decide) (by first | assumption | rfl) rfl rfl rfl (k162 hG (q_Fr.bz (S := fun k => k = 0 ∨ (6 ≤ k ∧ k ≤ 138)) hZ (by repeat (first | exact q_Fr.rf | refine q_Fr.ud ?_ (by omega) (by first | assumption | rfl) rfl | refine q_Fr.udz ?_ (by omega) (by first | assumption | decide | omega) | refine q_Fr.tr ?_ (by assumption) (by intro k9 hk9; omega))))) ?_
  intro t1 w1 g1 p1
  rcases p1 with ⟨rfl, rfl⟩ | ⟨rfl, rfl⟩
  · skip
    refine Or.inl ⟨rfl, ?_⟩
    refine r_iload_n c213_5 rfl rfl ?_
    refine r_if_lt c213_6 rfl (by first | exact q_w32_id (by omega) (by omega) | exact q_w32w _ | exact rfl) ?_ ?_
    · intro b2
      exact r_thr (y := 129) c213_14 rfl (Or.inr (Or.inl ⟨rfl, (by repeat (first | exact q_Fr.rf | refine q_Fr.ud ?_ (by omega) (by first | assumption | rfl) rfl | refine q_Fr.udz ?_ (by omega) (by first | assumption | decide | omega) | refine q_Fr.tr ?_ (by assumption) (by intro k9 hk9; omega)))⟩))
    · intro b2
      refine r_iload_n c213_9 rfl rfl ?_
      refine r_iconst c213_10 rfl ?_
      refine r_ic_le c213_11 rfl (by first | exact q_w32_id (by omega) (by omega) | exact q_w32w _ | exact rfl) (show q_w32 (2) = 2 from rfl) ?_ ?_
      · intro b3
        refine r_aload_n c213_24 rfl rfl ?_
        refine r_getr c213_25 (by first | assumption | omega) (by decide) (by first | assumption | rfl) rfl rfl ?_
        refine r_aload_n c213_28 rfl rfl ?_
        refine r_getr c213_29 (by first | assumption | omega) (by decide) (by first | assumption | rfl) rfl rfl ?_
        refine r_vcG c213_32 (by first | assumption | omega) (by decide) (by first | assumption | rfl) rfl rfl rfl (k67 hG (q_Fr.bz (S := fun k => k = 0 ∨ (6 ≤ k ∧ k ≤ 138)) hZ (by repeat (first | exact q_Fr.rf | refine q_Fr.ud ?_ (by omega) (by first | assumption | rfl) rfl | refine q_Fr.udz ?_ (by omega) (by first | assumption | decide | omega) | refine q_Fr.tr ?_ (by assumption) (by intro k9 hk9; omega)))) (by first | assumption | exact q_hC (by assumption) | exact q_h1 (by assumption) | exact q_h3 (by assumption) | exact q_h5 (by assumption) | exact q_hG (by assumption) | exact q_hP | exact q_hB1 | exact q_hB2 | exact q_hT6 | exact q_hT15 | exact q_hT24)) ?_
        intro t4 w4 g4 p4
        obtain ⟨rfl, e4⟩ := p4
        refine Or.inl ⟨rfl, ?_⟩
        refine r_aload_n c213_35 rfl rfl ?_
        refine r_getr c213_36 (by first | assumption | omega) (by decide) (by first | assumption | rfl) rfl rfl ?_
        refine r_iload_n c213_39 rfl rfl ?_
        refine r_vcG c213_40 (by first | assumption | omega) (by decide) (by first | assumption | rfl) rfl rfl rfl (k125 hG (q_Fr.bz (S := fun k => k = 0 ∨ (6 ≤ k ∧ k ≤ 138)) hZ (by repeat (first | exact q_Fr.rf | refine q_Fr.ud ?_ (by omega) (by first | assumption | rfl) rfl | refine q_Fr.udz ?_ (by omega) (by first | assumption | decide | omega) | refine q_Fr.tr ?_ (by assumption) (by intro k9 hk9; omega)))) (by first | assumption | exact q_hC (by assumption) | exact q_h1 (by assumption) | exact q_h3 (by assumption) | exact q_h5 (by assumption) | exact q_hG (by assumption) | exact q_hP | exact q_hB1 | exact q_hB2 | exact q_hT6 | exact q_hT15 | exact q_hT24)) ?_
        intro t5 w5 g5 p5
        obtain ⟨rfl, ⟨r5, rfl, ha5, hr5⟩, rfl⟩ := p5
        obtain ⟨fr50, fr51, fr52, fr53⟩ := q_fA ha5
        refine Or.inr (Or.inl ⟨rfl, ?_⟩)
        refine r_astore_n c213_43 (lo' := [(3, _), (0, _), (1, _), (2, _)]) rfl rfl rfl ?_
        refine r_aload_n c213_44 rfl rfl ?_
        refine r_geti c213_45 (by first | assumption | omega) (by decide) (by first | assumption | rfl) rfl rfl ?_
        refine r_istore c213_48 (lo' := [(4, _), (3, _), (0, _), (1, _), (2, _)]) rfl rfl rfl ?_
        refine r_aload_n c213_50 rfl rfl ?_
        refine r_iload_n c213_51 rfl rfl ?_
        refine r_puti c213_52 (by first | assumption | omega) (by decide) (by first | assumption | rfl) rfl rfl rfl ?_
        refine r_iload c213_55 rfl rfl ?_
        exact r_iret c213_57 ⟨rfl, rfl, rfl⟩ (Or.inl ⟨rfl, ⟨_, rfl⟩, (by repeat (first | exact q_Fr.rf | refine q_Fr.ud ?_ (by omega) (by first | assumption | rfl) rfl | refine q_Fr.udz ?_ (by omega) (by first | assumption | decide | omega) | refine q_Fr.tr ?_ (by assumption) (by intro k9 hk9; omega)))⟩)
      · intro b3
        exact r_thr (y := 129) c213_14 rfl (Or.inr (Or.inl ⟨rfl, (by repeat (first | exact q_Fr.rf | refine q_Fr.ud ?_ (by omega) (by first | assumption | rfl) rfl | refine q_Fr.udz ?_ (by omega) (by first | assumption | decide | omega) | refine q_Fr.tr ?_ (by assumption) (by intro k9 hk9; omega)))⟩))
  · refine Or.inr (Or.inr ⟨1, rfl, ?_⟩)
    exact Or.inr ⟨rfl, (Or.inr (Or.inr (⟨rfl, (by repeat (first | exact q_Fr.rf | refine q_Fr.ud ?_ (by omega) (by first | assumption | rfl) rfl | refine q_Fr.udz ?_ (by omega) (by first | assumption | decide | omega) | refine q_Fr.tr ?_ (by assumption) (by intro k9 hk9; omega)))⟩)))⟩
theorem c212_0 : q_cat 212 0 (.iload_n 1) 1 1 0 (0) := ⟨rfl, rfl⟩
theorem c212_1 : q_cat 212 1 (.iconst 1) 1 0 0 (0) := ⟨rfl, rfl⟩
theorem c212_2 : q_cat 212 2 (.if_icmp .lt 10) 3 12 0 (0) := ⟨rfl, rfl⟩
theorem c212_5 : q_cat 212 5 (.iload_n 1) 1 1 0 (0) := ⟨rfl, rfl⟩
theorem c212_6 : q_cat 212 6 (.sipush 1000) 3 0 0 (0) := ⟨rfl, rfl⟩
theorem c212_9 : q_cat 212 9 (.if_icmp .le 13) 3 22 0 (0) := ⟨rfl, rfl⟩
theorem c212_12 : q_cat 212 12 (.new 125) 3 0 130 (231) := ⟨rfl, rfl⟩
theorem c212_15 : q_cat 212 15 (.dup) 1 0 0 (0) := ⟨rfl, rfl⟩
theorem c212_22 : q_cat 212 22 (.aload_n 0) 1 0 0 (0) := ⟨rfl, rfl⟩
theorem c212_23 : q_cat 212 23 (.getfield 39) 3 8 5 (3) := ⟨rfl, rfl⟩
theorem c212_26 : q_cat 212 26 (.aload_n 0) 1 0 0 (0) := ⟨rfl, rfl⟩
theorem c212_27 : q_cat 212 27 (.getfield 26) 3 8 2 (3) := ⟨rfl, rfl⟩
theorem c212_30 : q_cat 212 30 (.invokevirtual 169) 3 67 0 (0) := ⟨rfl, rfl⟩
theorem c212_33 : q_cat 212 33 (.aload_n 0) 1 0 0 (0) := ⟨rfl, rfl⟩
theorem c212_34 : q_cat 212 34 (.getfield 26) 3 8 2 (3) := ⟨rfl, rfl⟩
theorem c212_37 : q_cat 212 37 (.getfield 102) 3 6 4 (0) := ⟨rfl, rfl⟩
theorem c212_40 : q_cat 212 40 (.istore_n 2) 1 2 0 (0) := ⟨rfl, rfl⟩
theorem c212_41 : q_cat 212 41 (.aload_n 0) 1 0 0 (0) := ⟨rfl, rfl⟩
theorem c212_42 : q_cat 212 42 (.getfield 26) 3 8 2 (3) := ⟨rfl, rfl⟩
theorem c212_45 : q_cat 212 45 (.iload_n 1) 1 1 0 (0) := ⟨rfl, rfl⟩
theorem c212_46 : q_cat 212 46 (.putfield 102) 3 6 4 (0) := ⟨rfl, rfl⟩
theorem c212_49 : q_cat 212 49 (.iload_n 2) 1 2 0 (0) := ⟨rfl, rfl⟩
theorem c212_50 : q_cat 212 50 (.ireturn) 1 0 0 (0) := ⟨rfl, rfl⟩
theorem k212 {Γ : q_Γ} (hG : q_GG Γ) {h : q_F} (hZ : q_Bz h) {v1 : Int}  :
    q_M Γ q_K 155 212 [(2, Int.ofNat 0), (0, v1)] h (fun t w h' => (t = 1 ∧ (∃ z, w = ((0, z) : q_V)) ∧ q_Fr (fun k => k = 0 ∨ (6 ≤ k ∧ k ≤ 138)) h h') ∨ (t = 2 ∧ q_Fr (fun k => k = 0 ∨ (6 ≤ k ∧ k ≤ 138)) h h')) := by
  have hT6 := q_hT6
  obtain ⟨fT6_0, fT6_1, fT6_2, fT6_3, fT6_4, fT6_5, fT6_6, fT6_7, fT6_8, fT6_9, fT6_10⟩ := q_fT hT6
  have hT15 := q_hT15
  obtain ⟨fT15_0, fT15_1, fT15_2, fT15_3, fT15_4, fT15_5, fT15_6, fT15_7, fT15_8, fT15_9, fT15_10⟩ := q_fT hT15
  have hT24 := q_hT24
  obtain ⟨fT24_0, fT24_1, fT24_2, fT24_3, fT24_4, fT24_5, fT24_6, fT24_7, fT24_8, fT24_9, fT24_10⟩ := q_fT hT24
  obtain ⟨gP0, gP1, gP2, gP3⟩ := q_fG q_hP
  refine q_M.of (by decide) (Nat.le_of_ble_eq_true rfl) hG ?_
  refine r_iload_n c212_0 rfl rfl ?_
  refine r_iconst c212_1 rfl ?_
  refine r_ic_lt c212_2 rfl (by first | exact q_w32_id (by omega) (by omega) | exact q_w32w _ | exact rfl) (show q_w32 (1) = 1 from rfl) ?_ ?_
  · intro b1
    exact r_thr (y := 129) c212_12 rfl (Or.inr (⟨rfl, (by repeat (first | exact q_Fr.rf | refine q_Fr.ud ?_ (by omega) (by first | assumption | rfl) rfl | refine q_Fr.udz ?_ (by omega) (by first | assumption | decide | omega) | refine q_Fr.tr ?_ (by assumption) (by intro k9 hk9; omega)))⟩))
  · intro b1
    refine r_iload_n c212_5 rfl rfl ?_
    refine r_sipush c212_6 rfl ?_
    refine r_ic_le c212_9 rfl (by first | exact q_w32_id (by omega) (by omega) | exact q_w32w _ | exact rfl) (show q_w32 (1000) = 1000 from rfl) ?_ ?_
    · intro b2
      refine r_aload_n c212_22 rfl rfl ?_
      refine r_getr c212_23 (by first | assumption | omega) (by decide) (by first | assumption | rfl) rfl rfl ?_
      refine r_aload_n c212_26 rfl rfl ?_
      refine r_getr c212_27 (by first | assumption | omega) (by decide) (by first | assumption | rfl) rfl rfl ?_
      refine r_vcG c212_30 (by first | assumption | omega) (by decide) (by first | assumption | rfl) rfl rfl rfl (k67 hG (q_Fr.bz (S := fun k => k = 0 ∨ (6 ≤ k ∧ k ≤ 138)) hZ (by repeat (first | exact q_Fr.rf | refine q_Fr.ud ?_ (by omega) (by first | assumption | rfl) rfl | refine q_Fr.udz ?_ (by omega) (by first | assumption | decide | omega) | refine q_Fr.tr ?_ (by assumption) (by intro k9 hk9; omega)))) (by first | assumption | exact q_hC (by assumption) | exact q_h1 (by assumption) | exact q_h3 (by assumption) | exact q_h5 (by assumption) | exact q_hG (by assumption) | exact q_hP | exact q_hB1 | exact q_hB2 | exact q_hT6 | exact q_hT15 | exact q_hT24)) ?_
      intro t3 w3 g3 p3
      obtain ⟨rfl, e3⟩ := p3
      refine Or.inl ⟨rfl, ?_⟩
      refine r_aload_n c212_33 rfl rfl ?_
      refine r_getr c212_34 (by first | assumption | omega) (by decide) (by first | assumption | rfl) rfl rfl ?_
      refine r_geti c212_37 (by first | assumption | omega) (by decide) (by first | assumption | rfl) rfl rfl ?_
      refine r_istore_n c212_40 (lo' := [(2, _), (0, _), (1, _)]) rfl rfl rfl ?_
      refine r_aload_n c212_41 rfl rfl ?_
      refine r_getr c212_42 (by first | assumption | omega) (by decide) (by first | assumption | rfl) rfl rfl ?_
      refine r_iload_n c212_45 rfl rfl ?_
      refine r_puti c212_46 (by first | assumption | omega) (by decide) (by first | assumption | rfl) rfl rfl rfl ?_
      refine r_iload_n c212_49 rfl rfl ?_
      exact r_iret c212_50 ⟨rfl, rfl, rfl⟩ (Or.inl ⟨rfl, ⟨_, rfl⟩, (by repeat (first | exact q_Fr.rf | refine q_Fr.ud ?_ (by omega) (by first | assumption | rfl) rfl | refine q_Fr.udz ?_ (by omega) (by first | assumption | decide | omega) | refine q_Fr.tr ?_ (by assumption) (by intro k9 hk9; omega)))⟩)
    · intro b2
      exact r_thr (y := 129) c212_12 rfl (Or.inr (⟨rfl, (by repeat (first | exact q_Fr.rf | refine q_Fr.ud ?_ (by omega) (by first | assumption | rfl) rfl | refine q_Fr.udz ?_ (by omega) (by first | assumption | decide | omega) | refine q_Fr.tr ?_ (by assumption) (by intro k9 hk9; omega)))⟩))
theorem c222_0 : q_cat 222 0 (.aload_n 0) 1 0 0 (0) := ⟨rfl, rfl⟩
theorem c222_1 : q_cat 222 1 (.iload_n 1) 1 1 0 (0) := ⟨rfl, rfl⟩
theorem c222_2 : q_cat 222 2 (.invokevirtual 235) 3 164 0 (0) := ⟨rfl, rfl⟩
theorem c222_5 : q_cat 222 5 (.aload_n 0) 1 0 0 (0) := ⟨rfl, rfl⟩
theorem c222_6 : q_cat 222 6 (.iload_n 2) 1 2 0 (0) := ⟨rfl, rfl⟩
theorem c222_7 : q_cat 222 7 (.invokevirtual 132) 3 162 0 (0) := ⟨rfl, rfl⟩
theorem c222_10 : q_cat 222 10 (.aload_n 0) 1 0 0 (0) := ⟨rfl, rfl⟩
theorem c222_11 : q_cat 222 11 (.getfield 26) 3 8 2 (3) := ⟨rfl, rfl⟩
theorem c222_14 : q_cat 222 14 (.getfield 114) 3 6 3 (3) := ⟨rfl, rfl⟩
theorem c222_17 : q_cat 222 17 (.iload_n 1) 1 1 0 (0) := ⟨rfl, rfl⟩
theorem c222_18 : q_cat 222 18 (.iload_n 2) 1 2 0 (0) := ⟨rfl, rfl⟩
theorem c222_19 : q_cat 222 19 (.invokevirtual 244) 3 148 0 (0) := ⟨rfl, rfl⟩
theorem c222_22 : q_cat 222 22 (.ireturn) 1 0 0 (0) := ⟨rfl, rfl⟩
theorem k222 {Γ : q_Γ} (hG : q_GG Γ) {h : q_F} (hZ : q_Bz h) {v1 : Int} {v2 : Int}  :
    q_M Γ q_K 155 222 [(2, Int.ofNat 0), (0, v1), (0, v2)] h (fun t w h' => (t = 1 ∧ (∃ z, w = ((0, z) : q_V)) ∧ h' = h) ∨ (t = 3 ∧ h' = h)) := by
  have hT6 := q_hT6
  obtain ⟨fT6_0, fT6_1, fT6_2, fT6_3, fT6_4, fT6_5, fT6_6, fT6_7, fT6_8, fT6_9, fT6_10⟩ := q_fT hT6
  have hT15 := q_hT15
  obtain ⟨fT15_0, fT15_1, fT15_2, fT15_3, fT15_4, fT15_5, fT15_6, fT15_7, fT15_8, fT15_9, fT15_10⟩ := q_fT hT15
  have hT24 := q_hT24
  obtain ⟨fT24_0, fT24_1, fT24_2, fT24_3, fT24_4, fT24_5, fT24_6, fT24_7, fT24_8, fT24_9, fT24_10⟩ := q_fT hT24
  obtain ⟨gP0, gP1, gP2, gP3⟩ := q_fG q_hP
  refine q_M.of (by decide) (Nat.le_of_ble_eq_true rfl) hG ?_
  refine r_aload_n c222_0 rfl rfl ?_
  refine r_iload_n c222_1 rfl rfl ?_
  refine r_vcG c222_2 (by first | assumption | omega) (by decide) (by first | assumption | rfl) rfl rfl rfl (k164 hG hZ) ?_
  intro t1 w1 g1 p1
  rcases p1 with ⟨rfl, rfl⟩ | ⟨rfl, rfl⟩
  · skip
    refine Or.inl ⟨rfl, ?_⟩
    refine r_aload_n c222_5 rfl rfl ?_
    refine r_iload_n c222_6 rfl rfl ?_
    refine r_vcG c222_7 (by first | assumption | omega) (by decide) (by first | assumption | rfl) rfl rfl rfl (k162 hG hZ) ?_
    intro t2 w2 g2 p2
    rcases p2 with ⟨rfl, rfl⟩ | ⟨rfl, rfl⟩
    · skip
      refine Or.inl ⟨rfl, ?_⟩
      refine r_aload_n c222_10 rfl rfl ?_
      refine r_getr c222_11 (by first | assumption | omega) (by decide) (by first | assumption | rfl) rfl rfl ?_
      refine r_getr c222_14 (by first | assumption | omega) (by decide) (by first | assumption | rfl) rfl rfl ?_
      refine r_iload_n c222_17 rfl rfl ?_
      refine r_iload_n c222_18 rfl rfl ?_
      refine r_vcG c222_19 (by first | assumption | omega) (by decide) (by first | assumption | rfl) rfl rfl rfl (k148 hG hZ (by first | assumption | exact q_hC (by assumption) | exact q_h1 (by assumption) | exact q_h3 (by assumption) | exact q_h5 (by assumption) | exact q_hG (by assumption) | exact q_hP | exact q_hB1 | exact q_hB2 | exact q_hT6 | exact q_hT15 | exact q_hT24)) ?_
      intro t3 w3 g3 p3
      obtain ⟨rfl, ⟨z3, rfl⟩, rfl⟩ := p3
      refine Or.inr (Or.inl ⟨rfl, ?_⟩)
      exact r_iret c222_22 ⟨rfl, rfl, rfl⟩ (Or.inl ⟨rfl, ⟨_, rfl⟩, rfl⟩)
    · refine Or.inr (Or.inr ⟨1, rfl, ?_⟩)
      exact Or.inr ⟨rfl, (Or.inr (⟨rfl, rfl⟩))⟩
  · refine Or.inr (Or.inr ⟨1, rfl, ?_⟩)
    exact Or.inr ⟨rfl, (Or.inr (⟨rfl, rfl⟩))⟩
theorem c191_0 : q_cat 191 0 (.aload_n 0) 1 0 0 (0) := ⟨rfl, rfl⟩
theorem c191_1 : q_cat 191 1 (.iload_n 1) 1 1 0 (0) := ⟨rfl, rfl⟩
theorem c191_2 : q_cat 191 2 (.invokevirtual 235) 3 164 0 (0) := ⟨rfl, rfl⟩
theorem c191_5 : q_cat 191 5 (.iload_n 2) 1 2 0 (0) := ⟨rfl, rfl⟩
theorem c191_6 : q_cat 191 6 (.ifCond .lt 9) 3 15 0 (0) := ⟨rfl, rfl⟩
theorem c191_9 : q_cat 191 9 (.iload_n 2) 1 2 0 (0) := ⟨rfl, rfl⟩
theorem c191_10 : q_cat 191 10 (.bipush 7) 2 0 0 (0) := ⟨rfl, rfl⟩
theorem c191_12 : q_cat 191 12 (.if_icmp .le 13) 3 25 0 (0) := ⟨rfl, rfl⟩
theorem c191_15 : q_cat 191 15 (.new 125) 3 0 130 (127) := ⟨rfl, rfl⟩
theorem c191_18 : q_cat 191 18 (.dup) 1 0 0 (0) := ⟨rfl, rfl⟩
theorem c191_25 : q_cat 191 25 (.aload_n 0) 1 0 0 (0) := ⟨rfl, rfl⟩
theorem c191_26 : q_cat 191 26 (.invokevirtual 215) 3 195 0 (0) := ⟨rfl, rfl⟩
theorem c191_29 : q_cat 191 29 (.iload_n 1) 1 1 0 (0) := ⟨rfl, rfl⟩
theorem c191_30 : q_cat 191 30 (.iload_n 2) 1 2 0 (0) := ⟨rfl, rfl⟩
theorem c191_31 : q_cat 191 31 (.invokevirtual 248) 3 88 0 (0) := ⟨rfl, rfl⟩
theorem c191_34 : q_cat 191 34 (.ireturn) 1 0 0 (0) := ⟨rfl, rfl⟩
theorem k191 {Γ : q_Γ} (hG : q_GG Γ) {h : q_F} (hZ : q_Bz h) {v1 : Int} {v2 : Int}  :
    q_M Γ q_K 155 191 [(2, Int.ofNat 0), (0, v1), (0, v2)] h (fun t w h' => (t = 1 ∧ (∃ z, w = ((0, z) : q_V)) ∧ q_Fr (fun k => k = 0 ∨ (6 ≤ k ∧ k ≤ 138)) h h') ∨ (t = 2 ∧ q_Fr (fun k => k = 0 ∨ (6 ≤ k ∧ k ≤ 138)) h h') ∨ (t = 3 ∧ q_Fr (fun k => k = 0 ∨ (6 ≤ k ∧ k ≤ 138)) h h')) := by
  have hT6 := q_hT6
  obtain ⟨fT6_0, fT6_1, fT6_2, fT6_3, fT6_4, fT6_5, fT6_6, fT6_7, fT6_8, fT6_9, fT6_10⟩ := q_fT hT6
  have hT15 := q_hT15
  obtain ⟨fT15_0, fT15_1, fT15_2, fT15_3, fT15_4, fT15_5, fT15_6, fT15_7, fT15_8, fT15_9, fT15_10⟩ := q_fT hT15
  have hT24 := q_hT24
  obtain ⟨fT24_0, fT24_1, fT24_2, fT24_3, fT24_4, fT24_5, fT24_6, fT24_7, fT24_8, fT24_9, fT24_10⟩ := q_fT hT24
  obtain ⟨gP0, gP1, gP2, gP3⟩ := q_fG q_hP
  refine q_M.of (by decide) (Nat.le_of_ble_eq_true rfl) hG ?_
  refine r_aload_n c191_0 rfl rfl ?_
  refine r_iload_n c191_1 rfl rfl ?_
  refine r_vcG c191_2 (by first | assumption | omega) (by decide) (by first | assumption | rfl) rfl rfl rfl (k164 hG (q_Fr.bz (S := fun k => k = 0 ∨ (6 ≤ k ∧ k ≤ 138)) hZ (by repeat (first | exact q_Fr.rf | refine q_Fr.ud ?_ (by omega) (by first | assumption | rfl) rfl | refine q_Fr.udz ?_ (by omega) (by first | assumption | decide | omega) | refine q_Fr.tr ?_ (by assumption) (by intro k9 hk9; omega))))) ?_
  intro t1 w1 g1 p1
  rcases p1 with ⟨rfl, rfl⟩ | ⟨rfl, rfl⟩
  · skip
    refine Or.inl ⟨rfl, ?_⟩
    refine r_iload_n c191_5 rfl rfl ?_
    refine r_if_lt c191_6 rfl (by first | exact q_w32_id (by omega) (by omega) | exact q_w32w _ | exact rfl) ?_ ?_
    · intro b2
      exact r_thr (y := 129) c191_15 rfl (Or.inr (Or.inl ⟨rfl, (by repeat (first | exact q_Fr.rf | refine q_Fr.ud ?_ (by omega) (by first | assumption | rfl) rfl | refine q_Fr.udz ?_ (by omega) (by first | assumption | decide | omega) | refine q_Fr.tr ?_ (by assumption) (by intro k9 hk9; omega)))⟩))
    · intro b2
      refine r_iload_n c191_9 rfl rfl ?_
      refine r_bipush c191_10 rfl ?_
      refine r_ic_le c191_12 rfl (by first | exact q_w32_id (by omega) (by omega) | exact q_w32w _ | exact rfl) (show q_w32 (7) = 7 from rfl) ?_ ?_
      · intro b3
        refine r_aload_n c191_25 rfl rfl ?_
        refine r_vcG c191_26 (by first | assumption | omega) (by decide) (by first | assumption | rfl) rfl rfl rfl (k195 hG (q_Fr.bz (S := fun k => k = 0 ∨ (6 ≤ k ∧ k ≤ 138)) hZ (by repeat (first | exact q_Fr.rf | refine q_Fr.ud ?_ (by omega) (by first | assumption | rfl) rfl | refine q_Fr.udz ?_ (by omega) (by first | assumption | decide | omega) | refine q_Fr.tr ?_ (by assumption) (by intro k9 hk9; omega))))) ?_
        intro t4 w4 g4 p4
        obtain ⟨rfl, rfl, e4⟩ := p4
        refine Or.inr (Or.inl ⟨rfl, ?_⟩)
        refine r_iload_n c191_29 rfl rfl ?_
        refine r_iload_n c191_30 rfl rfl ?_
        refine r_vcG c191_31 (by first | assumption | omega) (by decide) (by first | assumption | rfl) rfl rfl rfl (k88 hG (q_Fr.bz (S := fun k => k = 0 ∨ (6 ≤ k ∧ k ≤ 138)) hZ (by repeat (first | exact q_Fr.rf | refine q_Fr.ud ?_ (by omega) (by first | assumption | rfl) rfl | refine q_Fr.udz ?_ (by omega) (by first | assumption | decide | omega) | refine q_Fr.tr ?_ (by assumption) (by intro k9 hk9; omega))))) ?_
        intro t5 w5 g5 p5
        obtain ⟨rfl, ⟨z5, rfl⟩, rfl⟩ := p5
        refine Or.inr (Or.inl ⟨rfl, ?_⟩)
        exact r_iret c191_34 ⟨rfl, rfl, rfl⟩ (Or.inl ⟨rfl, ⟨_, rfl⟩, (by repeat (first | exact q_Fr.rf | refine q_Fr.ud ?_ (by omega) (by first | assumption | rfl) rfl | refine q_Fr.udz ?_ (by omega) (by first | assumption | decide | omega) | refine q_Fr.tr ?_ (by assumption) (by intro k9 hk9; omega)))⟩)
      · intro b3
        exact r_thr (y := 129) c191_15 rfl (Or.inr (Or.inl ⟨rfl, (by repeat (first | exact q_Fr.rf | refine q_Fr.ud ?_ (by omega) (by first | assumption | rfl) rfl | refine q_Fr.udz ?_ (by omega) (by first | assumption | decide | omega) | refine q_Fr.tr ?_ (by assumption) (by intro k9 hk9; omega)))⟩))
  · refine Or.inr (Or.inr ⟨1, rfl, ?_⟩)
    exact Or.inr ⟨rfl, (Or.inr (Or.inr (⟨rfl, (by repeat (first | exact q_Fr.rf | refine q_Fr.ud ?_ (by omega) (by first | assumption | rfl) rfl | refine q_Fr.udz ?_ (by omega) (by first | assumption | decide | omega) | refine q_Fr.tr ?_ (by assumption) (by intro k9 hk9; omega)))⟩)))⟩
theorem c216_0 : q_cat 216 0 (.aload_n 0) 1 0 0 (0) := ⟨rfl, rfl⟩
theorem c216_1 : q_cat 216 1 (.iload_n 1) 1 1 0 (0) := ⟨rfl, rfl⟩
theorem c216_2 : q_cat 216 2 (.invokevirtual 235) 3 164 0 (0) := ⟨rfl, rfl⟩
theorem c216_5 : q_cat 216 5 (.aload_n 0) 1 0 0 (0) := ⟨rfl, rfl⟩
theorem c216_6 : q_cat 216 6 (.invokevirtual 215) 3 195 0 (0) := ⟨rfl, rfl⟩
theorem c216_9 : q_cat 216 9 (.astore_n 3) 1 3 0 (0) := ⟨rfl, rfl⟩
theorem c216_10 : q_cat 216 10 (.iload_n 2) 1 2 0 (0) := ⟨rfl, rfl⟩
theorem c216_11 : q_cat 216 11 (.ifCond .lt 12) 3 23 0 (0) := ⟨rfl, rfl⟩
theorem c216_14 : q_cat 216 14 (.iload_n 2) 1 2 0 (0) := ⟨rfl, rfl⟩
theorem c216_15 : q_cat 216 15 (.aload_n 3) 1 3 0 (0) := ⟨rfl, rfl⟩
theorem c216_16 : q_cat 216 16 (.iload_n 1) 1 1 0 (0) := ⟨rfl, rfl⟩
theorem c216_17 : q_cat 216 17 (.invokevirtual 250) 3 79 0 (0) := ⟨rfl, rfl⟩
theorem c216_20 : q_cat 216 20 (.if_icmp .lt 13) 3 33 0 (0) := ⟨rfl, rfl⟩
theorem c216_23 : q_cat 216 23 (.new 203) 3 3 208 (253) := ⟨rfl, rfl⟩
theorem c216_26 : q_cat 216 26 (.dup) 1 0 0 (0) := ⟨rfl, rfl⟩
theorem c216_33 : q_cat 216 33 (.aload_n 3) 1 3 0 (0) := ⟨rfl, rfl⟩
theorem c216_34 : q_cat 216 34 (.iload_n 1) 1 1 0 (0) := ⟨rfl, rfl⟩
theorem c216_35 : q_cat 216 35 (.iload_n 2) 1 2 0 (0) := ⟨rfl, rfl⟩
theorem c216_36 : q_cat 216 36 (.invokevirtual 255) 3 93 0 (0) := ⟨rfl, rfl⟩
theorem c216_39 : q_cat 216 39 (.ireturn) 1 0 0 (0) := ⟨rfl, rfl⟩
theorem k216 {Γ : q_Γ} (hG : q_GG Γ) {h : q_F} (hZ : q_Bz h) {v1 : Int} {v2 : Int}  :
    q_M Γ q_K 155 216 [(2, Int.ofNat 0), (0, v1), (0, v2)] h (fun t w h' => (t = 1 ∧ (∃ z, w = ((0, z) : q_V)) ∧ q_Fr (fun k => k = 0 ∨ (6 ≤ k ∧ k ≤ 138)) h h') ∨ (t = 3 ∧ q_Fr (fun k => k = 0 ∨ (6 ≤ k ∧ k ≤ 138)) h h') ∨ (t = 5 ∧ q_Fr (fun k => k = 0 ∨ (6 ≤ k ∧ k ≤ 138)) h h')) := by
  have hT6 := q_hT6
  obtain ⟨fT6_0, fT6_1, fT6_2, fT6_3, fT6_4, fT6_5, fT6_6, fT6_7, fT6_8, fT6_9, fT6_10⟩ := q_fT hT6
  have hT15 := q_hT15
  obtain ⟨fT15_0, fT15_1, fT15_2, fT15_3, fT15_4, fT15_5, fT15_6, fT15_7, fT15_8, fT15_9, fT15_10⟩ := q_fT hT15
  have hT24 := q_hT24
  obtain ⟨fT24_0, fT24_1, fT24_2, fT24_3, fT24_4, fT24_5, fT24_6, fT24_7, fT24_8, fT24_9, fT24_10⟩ := q_fT hT24
  obtain ⟨gP0, gP1, gP2, gP3⟩ := q_fG q_hP
  refine q_M.of (by decide) (Nat.le_of_ble_eq_true rfl) hG ?_
  refine r_aload_n c216_0 rfl rfl ?_
  refine r_iload_n c216_1 rfl rfl ?_
  refine r_vcG c216_2 (by first | assumption | omega) (by decide) (by first | assumption | rfl) rfl rfl rfl (k164 hG (q_Fr.bz (S := fun k => k = 0 ∨ (6 ≤ k ∧ k ≤ 138)) hZ (by repeat (first | exact q_Fr.rf | refine q_Fr.ud ?_ (by omega) (by first | assumption | rfl) rfl | refine q_Fr.udz ?_ (by omega) (by first | assumption | decide | omega) | refine q_Fr.tr ?_ (by assumption) (by intro k9 hk9; omega))))) ?_
  intro t1 w1 g1 p1
  rcases p1 with ⟨rfl, rfl⟩ | ⟨rfl, rfl⟩
  · skip
    refine Or.inl ⟨rfl, ?_⟩
    refine r_aload_n c216_5 rfl rfl ?_
    refine r_vcG c216_6 (by first | assumption | omega) (by decide) (by first | assumption | rfl) rfl rfl rfl (k195 hG (q_Fr.bz (S := fun k => k = 0 ∨ (6 ≤ k ∧ k ≤ 138)) hZ (by repeat (first | exact q_Fr.rf | refine q_Fr.ud ?_ (by omega) (by first | assumption | rfl) rfl | refine q_Fr.udz ?_ (by omega) (by first | assumption | decide | omega) | refine q_Fr.tr ?_ (by assumption) (by intro k9 hk9; omega))))) ?_
    intro t2 w2 g2 p2
    obtain ⟨rfl, rfl, e2⟩ := p2
    refine Or.inr (Or.inl ⟨rfl, ?_⟩)
    refine r_astore_n c216_9 (lo' := [(3, _), (0, _), (1, _), (2, _)]) rfl rfl rfl ?_
    refine r_iload_n c216_10 rfl rfl ?_
    refine r_if_lt c216_11 rfl (by first | exact q_w32_id (by omega) (by omega) | exact q_w32w _ | exact rfl) ?_ ?_
    · intro b3
      exact r_thr (y := 207) c216_23 rfl (Or.inr (Or.inr (⟨rfl, (by repeat (first | exact q_Fr.rf | refine q_Fr.ud ?_ (by omega) (by first | assumption | rfl) rfl | refine q_Fr.udz ?_ (by omega) (by first | assumption | decide | omega) | refine q_Fr.tr ?_ (by assumption) (by intro k9 hk9; omega)))⟩)))
    · intro b3
      refine r_iload_n c216_14 rfl rfl ?_
      refine r_aload_n c216_15 rfl rfl ?_
      refine r_iload_n c216_16 rfl rfl ?_
      refine r_vcG c216_17 (by first | assumption | omega) (by decide) (by first | assumption | rfl) rfl rfl rfl (k79 hG (q_Fr.bz (S := fun k => k = 0 ∨ (6 ≤ k ∧ k ≤ 138)) hZ (by repeat (first | exact q_Fr.rf | refine q_Fr.ud ?_ (by omega) (by first | assumption | rfl) rfl | refine q_Fr.udz ?_ (by omega) (by first | assumption | decide | omega) | refine q_Fr.tr ?_ (by assumption) (by intro k9 hk9; omega))))) ?_
      intro t4 w4 g4 p4
      obtain ⟨rfl, ⟨z4, rfl⟩, rfl⟩ := p4
      refine Or.inr (Or.inl ⟨rfl, ?_⟩)
      refine r_ic_lt c216_20 rfl (by first | exact q_w32_id (by omega) (by omega) | exact q_w32w _ | exact rfl) (by first | exact q_w32_id (by omega) (by omega) | exact q_w32w _ | exact rfl) ?_ ?_
      · intro b5
        refine r_aload_n c216_33 rfl rfl ?_
        refine r_iload_n c216_34 rfl rfl ?_
        refine r_iload_n c216_35 rfl rfl ?_
        refine r_vcG c216_36 (by first | assumption | omega) (by decide) (by first | assumption | rfl) rfl rfl rfl (k93 hG (q_Fr.bz (S := fun k => k = 0 ∨ (6 ≤ k ∧ k ≤ 138)) hZ (by repeat (first | exact q_Fr.rf | refine q_Fr.ud ?_ (by omega) (by first | assumption | rfl) rfl | refine q_Fr.udz ?_ (by omega) (by first | assumption | decide | omega) | refine q_Fr.tr ?_ (by assumption) (by intro k9 hk9; omega))))) ?_
        intro t6 w6 g6 p6
        obtain ⟨rfl, ⟨z6, rfl⟩, rfl⟩ := p6
        refine Or.inr (Or.inl ⟨rfl, ?_⟩)
        exact r_iret c216_39 ⟨rfl, rfl, rfl⟩ (Or.inl ⟨rfl, ⟨_, rfl⟩, (by repeat (first | exact q_Fr.rf | refine q_Fr.ud ?_ (by omega) (by first | assumption | rfl) rfl | refine q_Fr.udz ?_ (by omega) (by first | assumption | decide | omega) | refine q_Fr.tr ?_ (by assumption) (by intro k9 hk9; omega)))⟩)
      · intro b5
        exact r_thr (y := 207) c216_23 rfl (Or.inr (Or.inr (⟨rfl, (by repeat (first | exact q_Fr.rf | refine q_Fr.ud ?_ (by omega) (by first | assumption | rfl) rfl | refine q_Fr.udz ?_ (by omega) (by first | assumption | decide | omega) | refine q_Fr.tr ?_ (by assumption) (by intro k9 hk9; omega)))⟩)))
  · refine Or.inr (Or.inr ⟨1, rfl, ?_⟩)
    exact Or.inr ⟨rfl, (Or.inr (Or.inl ⟨rfl, (by repeat (first | exact q_Fr.rf | refine q_Fr.ud ?_ (by omega) (by first | assumption | rfl) rfl | refine q_Fr.udz ?_ (by omega) (by first | assumption | decide | omega) | refine q_Fr.tr ?_ (by assumption) (by intro k9 hk9; omega)))⟩))⟩
theorem c217_0 : q_cat 217 0 (.aload_n 0) 1 0 0 (0) := ⟨rfl, rfl⟩
theorem c217_1 : q_cat 217 1 (.iload_n 1) 1 1 0 (0) := ⟨rfl, rfl⟩
theorem c217_2 : q_cat 217 2 (.invokevirtual 235) 3 164 0 (0) := ⟨rfl, rfl⟩
theorem c217_5 : q_cat 217 5 (.aload_n 0) 1 0 0 (0) := ⟨rfl, rfl⟩
theorem c217_6 : q_cat 217 6 (.iload_n 2) 1 2 0 (0) := ⟨rfl, rfl⟩
theorem c217_7 : q_cat 217 7 (.invokevirtual 132) 3 162 0 (0) := ⟨rfl, rfl⟩
theorem c217_10 : q_cat 217 10 (.aload_n 0) 1 0 0 (0) := ⟨rfl, rfl⟩
theorem c217_11 : q_cat 217 11 (.invokevirtual 215) 3 195 0 (0) := ⟨rfl, rfl⟩
theorem c217_14 : q_cat 217 14 (.astore 4) 2 4 0 (0) := ⟨rfl, rfl⟩
theorem c217_16 : q_cat 217 16 (.aload_n 0) 1 0 0 (0) := ⟨rfl, rfl⟩
theorem c217_17 : q_cat 217 17 (.aload 4) 2 4 0 (0) := ⟨rfl, rfl⟩
theorem c217_19 : q_cat 217 19 (.iload_n 1) 1 1 0 (0) := ⟨rfl, rfl⟩
theorem c217_20 : q_cat 217 20 (.invokevirtual 250) 3 79 0 (0) := ⟨rfl, rfl⟩
theorem c217_23 : q_cat 217 23 (.iload_n 3) 1 3 0 (0) := ⟨rfl, rfl⟩
theorem c217_24 : q_cat 217 24 (.invokevirtual 258) 3 169 0 (0) := ⟨rfl, rfl⟩
theorem c217_27 : q_cat 217 27 (.aload 4) 2 4 0 (0) := ⟨rfl, rfl⟩
theorem c217_29 : q_cat 217 29 (.iload_n 1) 1 1 0 (0) := ⟨rfl, rfl⟩
theorem c217_30 : q_cat 217 30 (.iload_n 2) 1 2 0 (0) := ⟨rfl, rfl⟩
theorem c217_31 : q_cat 217 31 (.iload_n 3) 1 3 0 (0) := ⟨rfl, rfl⟩
theorem c217_32 : q_cat 217 32 (.invokevirtual 261) 3 83 0 (0) := ⟨rfl, rfl⟩
theorem c217_35 : q_cat 217 35 (.ireturn) 1 0 0 (0) := ⟨rfl, rfl⟩
theorem k217 {Γ : q_Γ} (hG : q_GG Γ) {h : q_F} (hZ : q_Bz h) {v1 : Int} {v2 : Int} {v3 : Int}  :
    q_M Γ q_K 155 217 [(2, Int.ofNat 0), (0, v1), (0, v2), (0, v3)] h (fun t w h' => (t = 1 ∧ (∃ z, w = ((0, z) : q_V)) ∧ q_Fr (fun k => k = 0 ∨ (6 ≤ k ∧ k ≤ 138)) h h') ∨ (t = 2 ∧ q_Fr (fun k => k = 0 ∨ (6 ≤ k ∧ k ≤ 138)) h h') ∨ (t = 3 ∧ q_Fr (fun k => k = 0 ∨ (6 ≤ k ∧ k ≤ 138)) h h')) := by
  have hT6 := q_hT6
  obtain ⟨fT6_0, fT6_1, fT6_2, fT6_3, fT6_4, fT6_5, fT6_6, fT6_7, fT6_8, fT6_9, fT6_10⟩ := q_fT hT6
  have hT15 := q_hT15
  obtain ⟨fT15_0, fT15_1, fT15_2, fT15_3, fT15_4, fT15_5, fT15_6, fT15_7, fT15_8, fT15_9, fT15_10⟩ := q_fT hT15
  have hT24 := q_hT24
  obtain ⟨fT24_0, fT24_1, fT24_2, fT24_3, fT24_4, fT24_5, fT24_6, fT24_7, fT24_8, fT24_9, fT24_10⟩ := q_fT hT24
  obtain ⟨gP0, gP1, gP2, gP3⟩ := q_fG q_hP
  refine q_M.of (by decide) (Nat.le_of_ble_eq_true rfl) hG ?_
  refine r_aload_n c217_0 rfl rfl ?_
  refine r_iload_n c217_1 rfl rfl ?_
  refine r_vcG c217_2 (by first | assumption | omega) (by decide) (by first | assumption | rfl) rfl rfl rfl (k164 hG (q_Fr.bz (S := fun k => k = 0 ∨ (6 ≤ k ∧ k ≤ 138)) hZ (by repeat (first | exact q_Fr.rf | refine q_Fr.ud ?_ (by omega) (by first | assumption | rfl) rfl | refine q_Fr.udz ?_ (by omega) (by first | assumption | decide | omega) | refine q_Fr.tr ?_ (by assumption) (by intro k9 hk9; omega))))) ?_
  intro t1 w1 g1 p1
  rcases p1 with ⟨rfl, rfl⟩ | ⟨rfl, rfl⟩
  · skip
    refine Or.inl ⟨rfl, ?_⟩
    refine r_aload_n c217_5 rfl rfl ?_
    refine r_iload_n c217_6 rfl rfl ?_
    refine r_vcG c217_7 (by first | assumption | omega) (by decide) (by first | assumption | rfl) rfl rfl rfl (k162 hG (q_Fr.bz (S := fun k => k = 0 ∨ (6 ≤ k ∧ k ≤ 138)) hZ (by repeat (first | exact q_Fr.rf | refine q_Fr.ud ?_ (by omega) (by first | assumption | rfl) rfl | refine q_Fr.udz ?_ (by omega) (by first | assumption | decide | omega) | refine q_Fr.tr ?_ (by assumption) (by intro k9 hk9; omega))))) ?_
    intro t2 w2 g2 p2
    rcases p2 with ⟨rfl, rfl⟩ | ⟨rfl, rfl⟩
    · skip
      refine Or.inl ⟨rfl, ?_⟩
      refine r_aload_n c217_10 rfl rfl ?_
      refine r_vcG c217_11 (by first | assumption | omega) (by decide) (by first | assumption | rfl) rfl rfl rfl (k195 hG (q_Fr.bz (S := fun k => k = 0 ∨ (6 ≤ k ∧ k ≤ 138)) hZ (by repeat (first | exact q_Fr.rf | refine q_Fr.ud ?_ (by omega) (by first | assumption | rfl) rfl | refine q_Fr.udz ?_ (by omega) (by first | assumption | decide | omega) | refine q_Fr.tr ?_ (by assumption) (by intro k9 hk9; omega))))) ?_
      intro t3 w3 g3 p3
      obtain ⟨rfl, rfl, e3⟩ := p3
      refine Or.inr (Or.inl ⟨rfl, ?_⟩)
      refine r_astore c217_14 (lo' := [(4, _), (0, _), (1, _), (2, _), (3, _)]) rfl rfl rfl ?_
      refine r_aload_n c217_16 rfl rfl ?_
      refine r_aload c217_17 rfl rfl ?_
      refine r_iload_n c217_19 rfl rfl ?_
      refine r_vcG c217_20 (by first | assumption | omega) (by decide) (by first | assumption | rfl) rfl rfl rfl (k79 hG (q_Fr.bz (S := fun k => k = 0 ∨ (6 ≤ k ∧ k ≤ 138)) hZ (by repeat (first | exact q_Fr.rf | refine q_Fr.ud ?_ (by omega) (by first | assumption | rfl) rfl | refine q_Fr.udz ?_ (by omega) (by first | assumption | decide | omega) | refine q_Fr.tr ?_ (by assumption) (by intro k9 hk9; omega))))) ?_
      intro t4 w4 g4 p4
      obtain ⟨rfl, ⟨z4, rfl⟩, rfl⟩ := p4
      refine Or.inr (Or.inl ⟨rfl, ?_⟩)
      refine r_iload_n c217_23 rfl rfl ?_
      refine r_vcG c217_24 (by first | assumption | omega) (by decide) (by first | assumption | rfl) rfl rfl rfl (k169 hG (q_Fr.bz (S := fun k => k = 0 ∨ (6 ≤ k ∧ k ≤ 138)) hZ (by repeat (first | exact q_Fr.rf | refine q_Fr.ud ?_ (by omega) (by first | assumption | rfl) rfl | refine q_Fr.udz ?_ (by omega) (by first | assumption | decide | omega) | refine q_Fr.tr ?_ (by assumption) (by intro k9 hk9; omega))))) ?_
      intro t5 w5 g5 p5
      rcases p5 with ⟨rfl, rfl⟩ | ⟨rfl, rfl⟩
      · skip
        refine Or.inl ⟨rfl, ?_⟩
        refine r_aload c217_27 rfl rfl ?_
        refine r_iload_n c217_29 rfl rfl ?_
        refine r_iload_n c217_30 rfl rfl ?_
        refine r_iload_n c217_31 rfl rfl ?_
        refine r_vcG c217_32 (by first | assumption | omega) (by decide) (by first | assumption | rfl) rfl rfl rfl (k83 hG (q_Fr.bz (S := fun k => k = 0 ∨ (6 ≤ k ∧ k ≤ 138)) hZ (by repeat (first | exact q_Fr.rf | refine q_Fr.ud ?_ (by omega) (by first | assumption | rfl) rfl | refine q_Fr.udz ?_ (by omega) (by first | assumption | decide | omega) | refine q_Fr.tr ?_ (by assumption) (by intro k9 hk9; omega))))) ?_
        intro t6 w6 g6 p6
        obtain ⟨rfl, ⟨z6, rfl⟩, rfl⟩ := p6
        refine Or.inr (Or.inl ⟨rfl, ?_⟩)
        exact r_iret c217_35 ⟨rfl, rfl, rfl⟩ (Or.inl ⟨rfl, ⟨_, rfl⟩, (by repeat (first | exact q_Fr.rf | refine q_Fr.ud ?_ (by omega) (by first | assumption | rfl) rfl | refine q_Fr.udz ?_ (by omega) (by first | assumption | decide | omega) | refine q_Fr.tr ?_ (by assumption) (by intro k9 hk9; omega)))⟩)
      · refine Or.inr (Or.inr ⟨0, rfl, ?_⟩)
        exact Or.inr ⟨rfl, (Or.inr (Or.inl ⟨rfl, (by repeat (first | exact q_Fr.rf | refine q_Fr.ud ?_ (by omega) (by first | assumption | rfl) rfl | refine q_Fr.udz ?_ (by omega) (by first | assumption | decide | omega) | refine q_Fr.tr ?_ (by assumption) (by intro k9 hk9; omega)))⟩))⟩
    · refine Or.inr (Or.inr ⟨1, rfl, ?_⟩)
      exact Or.inr ⟨rfl, (Or.inr (Or.inr (⟨rfl, (by repeat (first | exact q_Fr.rf | refine q_Fr.ud ?_ (by omega) (by first | assumption | rfl) rfl | refine q_Fr.udz ?_ (by omega) (by first | assumption | decide | omega) | refine q_Fr.tr ?_ (by assumption) (by intro k9 hk9; omega)))⟩)))⟩
  · refine Or.inr (Or.inr ⟨1, rfl, ?_⟩)
    exact Or.inr ⟨rfl, (Or.inr (Or.inr (⟨rfl, (by repeat (first | exact q_Fr.rf | refine q_Fr.ud ?_ (by omega) (by first | assumption | rfl) rfl | refine q_Fr.udz ?_ (by omega) (by first | assumption | decide | omega) | refine q_Fr.tr ?_ (by assumption) (by intro k9 hk9; omega)))⟩)))⟩
theorem c181_0 : q_cat 181 0 (.aload_n 0) 1 0 0 (0) := ⟨rfl, rfl⟩
theorem c181_1 : q_cat 181 1 (.invokevirtual 163) 3 165 0 (0) := ⟨rfl, rfl⟩
theorem c181_4 : q_cat 181 4 (.aload_n 0) 1 0 0 (0) := ⟨rfl, rfl⟩
theorem c181_5 : q_cat 181 5 (.invokevirtual 166) 3 167 0 (0) := ⟨rfl, rfl⟩
theorem c181_8 : q_cat 181 8 (.aload_n 0) 1 0 0 (0) := ⟨rfl, rfl⟩
theorem c181_9 : q_cat 181 9 (.getfield 39) 3 8 5 (3) := ⟨rfl, rfl⟩
theorem c181_12 : q_cat 181 12 (.aload_n 0) 1 0 0 (0) := ⟨rfl, rfl⟩
theorem c181_13 : q_cat 181 13 (.getfield 26) 3 8 2 (3) := ⟨rfl, rfl⟩
theorem c181_16 : q_cat 181 16 (.invokevirtual 169) 3 67 0 (0) := ⟨rfl, rfl⟩
theorem c181_19 : q_cat 181 19 (.iconst 0) 1 0 0 (0) := ⟨rfl, rfl⟩
theorem c181_20 : q_cat 181 20 (.istore_n 1) 1 1 0 (0) := ⟨rfl, rfl⟩
theorem c181_21 : q_cat 181 21 (.iconst 2) 1 0 0 (0) := ⟨rfl, rfl⟩
theorem c181_22 : q_cat 181 22 (.istore_n 2) 1 2 0 (0) := ⟨rfl, rfl⟩
theorem c181_23 : q_cat 181 23 (.iload_n 2) 1 2 0 (0) := ⟨rfl, rfl⟩
theorem c181_24 : q_cat 181 24 (.ifCond .lt 28) 3 52 0 (0) := ⟨rfl, rfl⟩
theorem c181_27 : q_cat 181 27 (.aload_n 0) 1 0 0 (0) := ⟨rfl, rfl⟩
theorem c181_28 : q_cat 181 28 (.getfield 26) 3 8 2 (3) := ⟨rfl, rfl⟩
theorem c181_31 : q_cat 181 31 (.iload_n 2) 1 2 0 (0) := ⟨rfl, rfl⟩
theorem c181_32 : q_cat 181 32 (.invokevirtual 173) 3 131 0 (0) := ⟨rfl, rfl⟩
theorem c181_35 : q_cat 181 35 (.istore_n 3) 1 3 0 (0) := ⟨rfl, rfl⟩
theorem c181_36 : q_cat 181 36 (.iload_n 3) 1 3 0 (0) := ⟨rfl, rfl⟩
theorem c181_37 : q_cat 181 37 (.ifCond .ge 5) 3 42 0 (0) := ⟨rfl, rfl⟩
theorem c181_40 : q_cat 181 40 (.iconst (-1)) 1 0 0 (0) := ⟨rfl, rfl⟩
theorem c181_41 : q_cat 181 41 (.ireturn) 1 0 0 (0) := ⟨rfl, rfl⟩
theorem c181_42 : q_cat 181 42 (.iload_n 1) 1 1 0 (0) := ⟨rfl, rfl⟩
theorem c181_43 : q_cat 181 43 (.iload_n 3) 1 3 0 (0) := ⟨rfl, rfl⟩
theorem c181_44 : q_cat 181 44 (.iadd) 1 0 0 (0) := ⟨rfl, rfl⟩
theorem c181_45 : q_cat 181 45 (.istore_n 1) 1 1 0 (0) := ⟨rfl, rfl⟩
theorem c181_46 : q_cat 181 46 (.iinc 2 (-1)) 3 2 0 (0) := ⟨rfl, rfl⟩
theorem c181_49 : q_cat 181 49 (.goto (-26)) 3 23 0 (0) := ⟨rfl, rfl⟩
theorem c181_52 : q_cat 181 52 (.iload_n 1) 1 1 0 (0) := ⟨rfl, rfl⟩
theorem c181_53 : q_cat 181 53 (.ireturn) 1 0 0 (0) := ⟨rfl, rfl⟩
theorem l181_23 {Γ : q_Γ} (hG : q_GG Γ) {h0 : q_F} (hZ : q_Bz h0)  
    (hx52 : ∀ {u2 u1 : Int} {h : q_F}, q_Fr (fun k => k = 0 ∨ (6 ≤ k ∧ k ≤ 138)) h0 h → q_R Γ q_K 155 181 (fun t w h' => (t = 1 ∧ (∃ z, w = ((0, z) : q_V)) ∧ q_Fr (fun k => k = 0 ∨ (6 ≤ k ∧ k ≤ 138)) h0 h') ∨ (t = 4 ∧ q_Fr (fun k => k = 0 ∨ (6 ≤ k ∧ k ≤ 138)) h0 h')) (52, [(2, (0, u2)), (1, (0, u1)), (0, (2, Int.ofNat 0))], [], q_hp q_K 155 h, [], 2, 12))
    : ∀ (m : Nat) {u2 u1 : Int} {h : q_F}, (-2147483648 ≤ u2 ∧ u2 < 2147483648) → q_Fr (fun k => k = 0 ∨ (6 ≤ k ∧ k ≤ 138)) h0 h → u2 + 2147483648 < (m : Int) → q_R Γ q_K 155 181 (fun t w h' => (t = 1 ∧ (∃ z, w = ((0, z) : q_V)) ∧ q_Fr (fun k => k = 0 ∨ (6 ≤ k ∧ k ≤ 138)) h0 h') ∨ (t = 4 ∧ q_Fr (fun k => k = 0 ∨ (6 ≤ k ∧ k ≤ 138)) h0 h')) (23, [(2, (0, u2)), (1, (0, u1)), (0, (2, Int.ofNat 0))], [], q_hp q_K 155 h, [], 2, 12)   := by
  have hT6 := q_hT6
  obtain ⟨fT6_0, fT6_1, fT6_2, fT6_3, fT6_4, fT6_5, fT6_6, fT6_7, fT6_8, fT6_9, fT6_10⟩ := q_fT hT6
  have hT15 := q_hT15
  obtain ⟨fT15_0, fT15_1, fT15_2, fT15_3, fT15_4, fT15_5, fT15_6, fT15_7, fT15_8, fT15_9, fT15_10⟩ := q_fT hT15
  have hT24 := q_hT24
  obtain ⟨fT24_0, fT24_1, fT24_2, fT24_3, fT24_4, fT24_5, fT24_6, fT24_7, fT24_8, fT24_9, fT24_10⟩ := q_fT hT24
  obtain ⟨gP0, gP1, gP2, gP3⟩ := q_fG q_hP
  intro m
  induction m with
  | zero =>
    intro u2 u1 h hinv hf hmu
    exact absurd hmu (by omega)
  | succ m ih =>
    intro u2 u1 h hinv hf hmu
    refine r_iload_n c181_23 rfl rfl ?_
    refine r_if_lt c181_24 rfl (by first | exact q_w32_id (by omega) (by omega) | exact q_w32w _ | exact rfl) ?_ ?_
    · intro b4
      refine q_R.wk (ks := [2, 1, 0]) (lo' := [(2, _), (1, _), (0, _)]) rfl ?_
      exact hx52 (by repeat (first | exact q_Fr.rf | refine q_Fr.ud ?_ (by omega) (by first | assumption | rfl) rfl | refine q_Fr.udz ?_ (by omega) (by first | assumption | decide | omega) | refine q_Fr.tr ?_ (by assumption) (by intro k9 hk9; omega)))
    · intro b4
      refine r_aload_n c181_27 rfl rfl ?_
      refine r_getr c181_28 (by first | assumption | omega) (by decide) (by first | assumption | rfl) rfl rfl ?_
      refine r_iload_n c181_31 rfl rfl ?_
      refine r_vcG c181_32 (by first | assumption | omega) (by decide) (by first | assumption | rfl) rfl rfl rfl (k131 hG (q_Fr.bz (S := fun k => k = 0 ∨ (6 ≤ k ∧ k ≤ 138)) hZ (by repeat (first | exact q_Fr.rf | refine q_Fr.ud ?_ (by omega) (by first | assumption | rfl) rfl | refine q_Fr.udz ?_ (by omega) (by first | assumption | decide | omega) | refine q_Fr.tr ?_ (by assumption) (by intro k9 hk9; omega)))) (by first | assumption | exact q_hC (by assumption) | exact q_h1 (by assumption) | exact q_h3 (by assumption) | exact q_h5 (by assumption) | exact q_hG (by assumption) | exact q_hP | exact q_hB1 | exact q_hB2 | exact q_hT6 | exact q_hT15 | exact q_hT24)) ?_
      intro t5 w5 g5 p5
      obtain ⟨rfl, ⟨z5, rfl⟩, e5⟩ := p5
      refine Or.inr (Or.inl ⟨rfl, ?_⟩)
      refine r_istore_n c181_35 (lo' := [(3, _), (2, _), (1, _), (0, _)]) rfl rfl rfl ?_
      refine r_iload_n c181_36 rfl rfl ?_
      refine r_if_ge c181_37 rfl (by first | exact q_w32_id (by omega) (by omega) | exact q_w32w _ | exact rfl) ?_ ?_
      · intro b6
        refine r_iload_n c181_42 rfl rfl ?_
        refine r_iload_n c181_43 rfl rfl ?_
        refine r_iadd c181_44 (by first | exact q_w32_id (by omega) (by omega) | exact q_w32w _ | exact rfl) rfl ?_
        refine r_istore_n c181_45 (lo' := [(1, _), (3, _), (2, _), (0, _)]) rfl rfl rfl ?_
        refine r_iinc c181_46 rfl (by first | exact q_w32_id (by omega) (by omega) | exact q_w32w _ | exact rfl) (lo' := [(2, _), (1, _), (3, _), (0, _)]) rfl rfl rfl ?_
        refine r_goto c181_49 ?_
        refine q_R.wk (ks := [2, 1, 0]) (lo' := [(2, _), (1, _), (0, _)]) rfl ?_
        exact ih (by first | omega | exact ⟨q_rg1 _, q_rg2 _⟩) (by repeat (first | exact q_Fr.rf | refine q_Fr.ud ?_ (by omega) (by first | assumption | rfl) rfl | refine q_Fr.udz ?_ (by omega) (by first | assumption | decide | omega) | refine q_Fr.tr ?_ (by assumption) (by intro k9 hk9; omega))) (by omega)
      · intro b6
        refine r_iconst c181_40 rfl ?_
        exact r_iret c181_41 ⟨rfl, rfl, rfl⟩ (Or.inl ⟨rfl, ⟨_, rfl⟩, (by repeat (first | exact q_Fr.rf | refine q_Fr.ud ?_ (by omega) (by first | assumption | rfl) rfl | refine q_Fr.udz ?_ (by omega) (by first | assumption | decide | omega) | refine q_Fr.tr ?_ (by assumption) (by intro k9 hk9; omega)))⟩)

theorem k181 {Γ : q_Γ} (hG : q_GG Γ) {h : q_F} (hZ : q_Bz h)   :
    q_M Γ q_K 155 181 [(2, Int.ofNat 0)] h (fun t w h' => (t = 1 ∧ (∃ z, w = ((0, z) : q_V)) ∧ q_Fr (fun k => k = 0 ∨ (6 ≤ k ∧ k ≤ 138)) h h') ∨ (t = 4 ∧ q_Fr (fun k => k = 0 ∨ (6 ≤ k ∧ k ≤ 138)) h h')) := by
  have hT6 := q_hT6
  obtain ⟨fT6_0, fT6_1, fT6_2, fT6_3, fT6_4, fT6_5, fT6_6, fT6_7, fT6_8, fT6_9, fT6_10⟩ := q_fT hT6
  have hT15 := q_hT15
  obtain ⟨fT15_0, fT15_1, fT15_2, fT15_3, fT15_4, fT15_5, fT15_6, fT15_7, fT15_8, fT15_9, fT15_10⟩ := q_fT hT15
  have hT24 := q_hT24
  obtain ⟨fT24_0, fT24_1, fT24_2, fT24_3, fT24_4, fT24_5, fT24_6, fT24_7, fT24_8, fT24_9, fT24_10⟩ := q_fT hT24
  obtain ⟨gP0, gP1, gP2, gP3⟩ := q_fG q_hP
  refine q_M.of (by decide) (Nat.le_of_ble_eq_true rfl) hG ?_
  refine r_aload_n c181_0 rfl rfl ?_
  refine r_vcG c181_1 (by first | assumption | omega) (by decide) (by first | assumption | rfl) rfl rfl rfl (k165 hG (q_Fr.bz (S := fun k => k = 0 ∨ (6 ≤ k ∧ k ≤ 138)) hZ (by repeat (first | exact q_Fr.rf | refine q_Fr.ud ?_ (by omega) (by first | assumption | rfl) rfl | refine q_Fr.udz ?_ (by omega) (by first | assumption | decide | omega) | refine q_Fr.tr ?_ (by assumption) (by intro k9 hk9; omega))))) ?_
  intro t1 w1 g1 p1
  rcases p1 with ⟨rfl, rfl⟩ | ⟨rfl, rfl⟩
  · skip
    refine Or.inl ⟨rfl, ?_⟩
    refine r_aload_n c181_4 rfl rfl ?_
    refine r_vcG c181_5 (by first | assumption | omega) (by decide) (by first | assumption | rfl) rfl rfl rfl (k167 hG (q_Fr.bz (S := fun k => k = 0 ∨ (6 ≤ k ∧ k ≤ 138)) hZ (by repeat (first | exact q_Fr.rf | refine q_Fr.ud ?_ (by omega) (by first | assumption | rfl) rfl | refine q_Fr.udz ?_ (by omega) (by first | assumption | decide | omega) | refine q_Fr.tr ?_ (by assumption) (by intro k9 hk9; omega))))) ?_
    intro t2 w2 g2 p2
    rcases p2 with ⟨rfl, rfl⟩ | ⟨rfl, rfl⟩
    · skip
      refine Or.inl ⟨rfl, ?_⟩
      refine r_aload_n c181_8 rfl rfl ?_
      refine r_getr c181_9 (by first | assumption | omega) (by decide) (by first | assumption | rfl) rfl rfl ?_
      refine r_aload_n c181_12 rfl rfl ?_
      refine r_getr c181_13 (by first | assumption | omega) (by decide) (by first | assumption | rfl) rfl rfl ?_
      refine r_vcG c181_16 (by first | assumption | omega) (by decide) (by first | assumption | rfl) rfl rfl rfl (k67 hG (q_Fr.bz (S := fun k => k = 0 ∨ (6 ≤ k ∧ k ≤ 138)) hZ (by repeat (first | exact q_Fr.rf | refine q_Fr.ud ?_ (by omega) (by first | assumption | rfl) rfl | refine q_Fr.udz ?_ (by omega) (by first | assumption | decide | omega) | refine q_Fr.tr ?_ (by assumption) (by intro k9 hk9; omega)))) (by first | assumption | exact q_hC (by assumption) | exact q_h1 (by assumption) | exact q_h3 (by assumption) | exact q_h5 (by assumption) | exact q_hG (by assumption) | exact q_hP | exact q_hB1 | exact q_hB2 | exact q_hT6 | exact q_hT15 | exact q_hT24)) ?_
      intro t3 w3 g3 p3
      obtain ⟨rfl, e3⟩ := p3
      refine Or.inl ⟨rfl, ?_⟩
      refine r_iconst c181_19 rfl ?_
      refine r_istore_n c181_20 (lo' := [(1, _), (0, _)]) rfl rfl rfl ?_
      refine r_iconst c181_21 rfl ?_
      refine r_istore_n c181_22 (lo' := [(2, _), (1, _), (0, _)]) rfl rfl rfl ?_
      refine q_R.wk (ks := [2, 1, 0]) (lo' := [(2, _), (1, _), (0, _)]) rfl ?_
      refine l181_23 hG hZ  ?_ 4294967298 (by first | omega | exact ⟨q_rg1 _, q_rg2 _⟩) (by repeat (first | exact q_Fr.rf | refine q_Fr.ud ?_ (by omega) (by first | assumption | rfl) rfl | refine q_Fr.udz ?_ (by omega) (by first | assumption | decide | omega) | refine q_Fr.tr ?_ (by assumption) (by intro k9 hk9; omega))) (q_mdd (by first | omega | exact ⟨q_rg1 _, q_rg2 _⟩))
      · intro u2_4 u1_4 g4 f4
        refine r_iload_n c181_52 rfl rfl ?_
        exact r_iret c181_53 ⟨rfl, rfl, rfl⟩ (Or.inl ⟨rfl, ⟨_, rfl⟩, (by repeat (first | exact q_Fr.rf | refine q_Fr.ud ?_ (by omega) (by first | assumption | rfl) rfl | refine q_Fr.udz ?_ (by omega) (by first | assumption | decide | omega) | refine q_Fr.tr ?_ (by assumption) (by intro k9 hk9; omega)))⟩)
    · refine Or.inr (Or.inr ⟨2, rfl, ?_⟩)
      exact Or.inr ⟨rfl, (Or.inr (⟨rfl, (by repeat (first | exact q_Fr.rf | refine q_Fr.ud ?_ (by omega) (by first | assumption | rfl) rfl | refine q_Fr.udz ?_ (by omega) (by first | assumption | decide | omega) | refine q_Fr.tr ?_ (by assumption) (by intro k9 hk9; omega)))⟩))⟩
  · refine Or.inr (Or.inr ⟨2, rfl, ?_⟩)
    exact Or.inr ⟨rfl, (Or.inr (⟨rfl, (by repeat (first | exact q_Fr.rf | refine q_Fr.ud ?_ (by omega) (by first | assumption | rfl) rfl | refine q_Fr.udz ?_ (by omega) (by first | assumption | decide | omega) | refine q_Fr.tr ?_ (by assumption) (by intro k9 hk9; omega)))⟩))⟩
theorem c208_0 : q_cat 208 0 (.aload_n 0) 1 0 0 (0) := ⟨rfl, rfl⟩
theorem c208_1 : q_cat 208 1 (.getfield 39) 3 8 5 (3) := ⟨rfl, rfl⟩
theorem c208_4 : q_cat 208 4 (.aload_n 0) 1 0 0 (0) := ⟨rfl, rfl⟩
theorem c208_5 : q_cat 208 5 (.getfield 26) 3 8 2 (3) := ⟨rfl, rfl⟩
theorem c208_8 : q_cat 208 8 (.invokevirtual 169) 3 67 0 (0) := ⟨rfl, rfl⟩
theorem c208_11 : q_cat 208 11 (.aload_n 0) 1 0 0 (0) := ⟨rfl, rfl⟩
theorem c208_12 : q_cat 208 12 (.getfield 26) 3 8 2 (3) := ⟨rfl, rfl⟩
theorem c208_15 : q_cat 208 15 (.aload_n 0) 1 0 0 (0) := ⟨rfl, rfl⟩
theorem c208_16 : q_cat 208 16 (.invokevirtual 215) 3 195 0 (0) := ⟨rfl, rfl⟩
theorem c208_19 : q_cat 208 19 (.aload_n 0) 1 0 0 (0) := ⟨rfl, rfl⟩
theorem c208_20 : q_cat 208 20 (.getfield 26) 3 8 2 (3) := ⟨rfl, rfl⟩
theorem c208_23 : q_cat 208 23 (.getfield 114) 3 6 3 (3) := ⟨rfl, rfl⟩
theorem c208_26 : q_cat 208 26 (.getfield 117) 3 7 1 (0) := ⟨rfl, rfl⟩
theorem c208_29 : q_cat 208 29 (.invokevirtual 219) 3 138 0 (0) := ⟨rfl, rfl⟩
theorem c208_32 : q_cat 208 32 (.ireturn) 1 0 0 (0) := ⟨rfl, rfl⟩
theorem k208 {Γ : q_Γ} (hG : q_GG Γ) {h : q_F} (hZ : q_Bz h)   :
    q_M Γ q_K 155 208 [(2, Int.ofNat 0)] h (fun t w h' => (t = 1 ∧ (∃ z, w = ((0, z) : q_V)) ∧ q_Fr (fun k => k = 0 ∨ (6 ≤ k ∧ k ≤ 138)) h h')) := by
  have hT6 := q_hT6
  obtain ⟨fT6_0, fT6_1, fT6_2, fT6_3, fT6_4, fT6_5, fT6_6, fT6_7, fT6_8, fT6_9, fT6_10⟩ := q_fT hT6
  have hT15 := q_hT15
  obtain ⟨fT15_0, fT15_1, fT15_2, fT15_3, fT15_4, fT15_5, fT15_6, fT15_7, fT15_8, fT15_9, fT15_10⟩ := q_fT hT15
  have hT24 := q_hT24
  obtain ⟨fT24_0, fT24_1, fT24_2, fT24_3, fT24_4, fT24_5, fT24_6, fT24_7, fT24_8, fT24_9, fT24_10⟩ := q_fT hT24
  obtain ⟨gP0, gP1, gP2, gP3⟩ := q_fG q_hP
  refine q_M.of (by decide) (Nat.le_of_ble_eq_true rfl) hG ?_
  refine r_aload_n c208_0 rfl rfl ?_
  refine r_getr c208_1 (by first | assumption | omega) (by decide) (by first | assumption | rfl) rfl rfl ?_
  refine r_aload_n c208_4 rfl rfl ?_
  refine r_getr c208_5 (by first | assumption | omega) (by decide) (by first | assumption | rfl) rfl rfl ?_
  refine r_vcG c208_8 (by first | assumption | omega) (by decide) (by first | assumption | rfl) rfl rfl rfl (k67 hG (q_Fr.bz (S := fun k => k = 0 ∨ (6 ≤ k ∧ k ≤ 138)) hZ (by repeat (first | exact q_Fr.rf | refine q_Fr.ud ?_ (by omega) (by first | assumption | rfl) rfl | refine q_Fr.udz ?_ (by omega) (by first | assumption | decide | omega) | refine q_Fr.tr ?_ (by assumption) (by intro k9 hk9; omega)))) (by first | assumption | exact q_hC (by assumption) | exact q_h1 (by assumption) | exact q_h3 (by assumption) | exact q_h5 (by assumption) | exact q_hG (by assumption) | exact q_hP | exact q_hB1 | exact q_hB2 | exact q_hT6 | exact q_hT15 | exact q_hT24)) ?_
  intro t1 w1 g1 p1
  obtain ⟨rfl, e1⟩ := p1
  refine Or.inl ⟨rfl, ?_⟩
  refine r_aload_n c208_11 rfl rfl ?_
  refine r_getr c208_12 (by first | assumption | omega) (by decide) (by first | assumption | rfl) rfl rfl ?_
  refine r_aload_n c208_15 rfl rfl ?_
  refine r_vcG c208_16 (by first | assumption | omega) (by decide) (by first | assumption | rfl) rfl rfl rfl (k195 hG (q_Fr.bz (S := fun k => k = 0 ∨ (6 ≤ k ∧ k ≤ 138)) hZ (by repeat (first | exact q_Fr.rf | refine q_Fr.ud ?_ (by omega) (by first | assumption | rfl) rfl | refine q_Fr.udz ?_ (by omega) (by first | assumption | decide | omega) | refine q_Fr.tr ?_ (by assumption) (by intro k9 hk9; omega))))) ?_
  intro t2 w2 g2 p2
  obtain ⟨rfl, rfl, e2⟩ := p2
  refine Or.inr (Or.inl ⟨rfl, ?_⟩)
  refine r_aload_n c208_19 rfl rfl ?_
  refine r_getr c208_20 (by first | assumption | omega) (by decide) (by first | assumption | rfl) rfl rfl ?_
  refine r_getr c208_23 (by first | assumption | omega) (by decide) (by first | assumption | rfl) rfl rfl ?_
  refine r_geti c208_26 (by first | assumption | omega) (by decide) (by first | assumption | rfl) rfl rfl ?_
  refine r_vcG c208_29 (by first | assumption | omega) (by decide) (by first | assumption | rfl) rfl rfl rfl (k138 hG (q_Fr.bz (S := fun k => k = 0 ∨ (6 ≤ k ∧ k ≤ 138)) hZ (by repeat (first | exact q_Fr.rf | refine q_Fr.ud ?_ (by omega) (by first | assumption | rfl) rfl | refine q_Fr.udz ?_ (by omega) (by first | assumption | decide | omega) | refine q_Fr.tr ?_ (by assumption) (by intro k9 hk9; omega)))) (by first | assumption | exact q_hC (by assumption) | exact q_h1 (by assumption) | exact q_h3 (by assumption) | exact q_h5 (by assumption) | exact q_hG (by assumption) | exact q_hP | exact q_hB1 | exact q_hB2 | exact q_hT6 | exact q_hT15 | exact q_hT24)) ?_
  intro t3 w3 g3 p3
  obtain ⟨rfl, ⟨z3, rfl⟩, e3⟩ := p3
  refine Or.inr (Or.inl ⟨rfl, ?_⟩)
  exact r_iret c208_32 ⟨rfl, rfl, rfl⟩ ⟨rfl, ⟨_, rfl⟩, (by repeat (first | exact q_Fr.rf | refine q_Fr.ud ?_ (by omega) (by first | assumption | rfl) rfl | refine q_Fr.udz ?_ (by omega) (by first | assumption | decide | omega) | refine q_Fr.tr ?_ (by assumption) (by intro k9 hk9; omega)))⟩
theorem c183_0 : q_cat 183 0 (.iload_n 1) 1 1 0 (0) := ⟨rfl, rfl⟩
theorem c183_1 : q_cat 183 1 (.ifCond .lt 17) 3 18 0 (0) := ⟨rfl, rfl⟩
theorem c183_4 : q_cat 183 4 (.iload_n 1) 1 1 0 (0) := ⟨rfl, rfl⟩
theorem c183_5 : q_cat 183 5 (.aload_n 0) 1 0 0 (0) := ⟨rfl, rfl⟩
theorem c183_6 : q_cat 183 6 (.getfield 26) 3 8 2 (3) := ⟨rfl, rfl⟩
theorem c183_9 : q_cat 183 9 (.getfield 114) 3 6 3 (3) := ⟨rfl, rfl⟩
theorem c183_12 : q_cat 183 12 (.getfield 117) 3 7 1 (0) := ⟨rfl, rfl⟩
theorem c183_15 : q_cat 183 15 (.if_icmp .le 13) 3 28 0 (0) := ⟨rfl, rfl⟩
theorem c183_18 : q_cat 183 18 (.new 125) 3 0 130 (233) := ⟨rfl, rfl⟩
theorem c183_21 : q_cat 183 21 (.dup) 1 0 0 (0) := ⟨rfl, rfl⟩
theorem c183_28 : q_cat 183 28 (.aload_n 0) 1 0 0 (0) := ⟨rfl, rfl⟩
theorem c183_29 : q_cat 183 29 (.iload_n 2) 1 2 0 (0) := ⟨rfl, rfl⟩
theorem c183_30 : q_cat 183 30 (.iload_n 3) 1 3 0 (0) := ⟨rfl, rfl⟩
theorem c183_31 : q_cat 183 31 (.iload 4) 2 4 0 (0) := ⟨rfl, rfl⟩
theorem c183_33 : q_cat 183 33 (.invokevirtual 185) 3 166 0 (0) := ⟨rfl, rfl⟩
theorem c183_36 : q_cat 183 36 (.aload_n 0) 1 0 0 (0) := ⟨rfl, rfl⟩
theorem c183_37 : q_cat 183 37 (.invokevirtual 189) 3 168 0 (0) := ⟨rfl, rfl⟩
theorem c183_40 : q_cat 183 40 (.aload_n 0) 1 0 0 (0) := ⟨rfl, rfl⟩
theorem c183_41 : q_cat 183 41 (.getfield 53) 3 8 7 (3) := ⟨rfl, rfl⟩
theorem c183_44 : q_cat 183 44 (.aload_n 0) 1 0 0 (0) := ⟨rfl, rfl⟩
theorem c183_45 : q_cat 183 45 (.getfield 26) 3 8 2 (3) := ⟨rfl, rfl⟩
theorem c183_48 : q_cat 183 48 (.getfield 114) 3 6 3 (3) := ⟨rfl, rfl⟩
theorem c183_51 : q_cat 183 51 (.invokevirtual 192) 3 144 0 (0) := ⟨rfl, rfl⟩
theorem c183_54 : q_cat 183 54 (.aload_n 0) 1 0 0 (0) := ⟨rfl, rfl⟩
theorem c183_55 : q_cat 183 55 (.getfield 53) 3 8 7 (3) := ⟨rfl, rfl⟩
theorem c183_58 : q_cat 183 58 (.iload_n 1) 1 1 0 (0) := ⟨rfl, rfl⟩
theorem c183_59 : q_cat 183 59 (.iload_n 2) 1 2 0 (0) := ⟨rfl, rfl⟩
theorem c183_60 : q_cat 183 60 (.iload_n 3) 1 3 0 (0) := ⟨rfl, rfl⟩
theorem c183_61 : q_cat 183 61 (.iload 4) 2 4 0 (0) := ⟨rfl, rfl⟩
theorem c183_63 : q_cat 183 63 (.invokevirtual 196) 3 150 0 (0) := ⟨rfl, rfl⟩
theorem c183_66 : q_cat 183 66 (.aload_n 0) 1 0 0 (0) := ⟨rfl, rfl⟩
theorem c183_67 : q_cat 183 67 (.invokevirtual 200) 3 221 0 (0) := ⟨rfl, rfl⟩
theorem c183_70 : q_cat 183 70 (.ireturn) 1 0 0 (0) := ⟨rfl, rfl⟩
theorem k183 {Γ : q_Γ} (hG : q_GG Γ) {h : q_F} (hZ : q_Bz h) {v1 : Int} {v2 : Int} {v3 : Int} {v4 : Int}  :
    q_M Γ q_K 155 183 [(2, Int.ofNat 0), (0, v1), (0, v2), (0, v3), (0, v4)] h (fun t w h' => (t = 1 ∧ (∃ z, w = ((0, z) : q_V)) ∧ q_Fr (fun k => k = 0 ∨ (6 ≤ k ∧ k ≤ 138)) h h') ∨ (t = 2 ∧ q_Fr (fun k => k = 0 ∨ (6 ≤ k ∧ k ≤ 138)) h h') ∨ (t = 4 ∧ q_Fr (fun k => k = 0 ∨ (6 ≤ k ∧ k ≤ 138)) h h')) := by
  have hT6 := q_hT6
  obtain ⟨fT6_0, fT6_1, fT6_2, fT6_3, fT6_4, fT6_5, fT6_6, fT6_7, fT6_8, fT6_9, fT6_10⟩ := q_fT hT6
  have hT15 := q_hT15
  obtain ⟨fT15_0, fT15_1, fT15_2, fT15_3, fT15_4, fT15_5, fT15_6, fT15_7, fT15_8, fT15_9, fT15_10⟩ := q_fT hT15
  have hT24 := q_hT24
  obtain ⟨fT24_0, fT24_1, fT24_2, fT24_3, fT24_4, fT24_5, fT24_6, fT24_7, fT24_8, fT24_9, fT24_10⟩ := q_fT hT24
  obtain ⟨gP0, gP1, gP2, gP3⟩ := q_fG q_hP
  refine q_M.of (by decide) (Nat.le_of_ble_eq_true rfl) hG ?_
  refine r_iload_n c183_0 rfl rfl ?_
  refine r_if_lt c183_1 rfl (by first | exact q_w32_id (by omega) (by omega) | exact q_w32w _ | exact rfl) ?_ ?_
  · intro b1
    exact r_thr (y := 129) c183_18 rfl (Or.inr (Or.inl ⟨rfl, (by repeat (first | exact q_Fr.rf | refine q_Fr.ud ?_ (by omega) (by first | assumption | rfl) rfl | refine q_Fr.udz ?_ (by omega) (by first | assumption | decide | omega) | refine q_Fr.tr ?_ (by assumption) (by intro k9 hk9; omega)))⟩))
  · intro b1
    refine r_iload_n c183_4 rfl rfl ?_
    refine r_aload_n c183_5 rfl rfl ?_
    refine r_getr c183_6 (by first | assumption | omega) (by decide) (by first | assumption | rfl) rfl rfl ?_
    refine r_getr c183_9 (by first | assumption | omega) (by decide) (by first | assumption | rfl) rfl rfl ?_
    refine r_geti c183_12 (by first | assumption | omega) (by decide) (by first | assumption | rfl) rfl rfl ?_
    refine r_ic_le c183_15 rfl (by first | exact q_w32_id (by omega) (by omega) | exact q_w32w _ | exact rfl) (by first | exact q_w32_id (by omega) (by omega) | exact q_w32w _ | exact rfl) ?_ ?_
    · intro b2
      refine r_aload_n c183_28 rfl rfl ?_
      refine r_iload_n c183_29 rfl rfl ?_
      refine r_iload_n c183_30 rfl rfl ?_
      refine r_iload c183_31 rfl rfl ?_
      refine r_vcG c183_33 (by first | assumption | omega) (by decide) (by first | assumption | rfl) rfl rfl rfl (k166 hG (q_Fr.bz (S := fun k => k = 0 ∨ (6 ≤ k ∧ k ≤ 138)) hZ (by repeat (first | exact q_Fr.rf | refine q_Fr.ud ?_ (by omega) (by first | assumption | rfl) rfl | refine q_Fr.udz ?_ (by omega) (by first | assumption | decide | omega) | refine q_Fr.tr ?_ (by assumption) (by intro k9 hk9; omega))))) ?_
      intro t3 w3 g3 p3
      rcases p3 with ⟨rfl, rfl⟩ | ⟨rfl, rfl⟩
      · skip
        refine Or.inl ⟨rfl, ?_⟩
        refine r_aload_n c183_36 rfl rfl ?_
        refine r_vcG c183_37 (by first | assumption | omega) (by decide) (by first | assumption | rfl) rfl rfl rfl (k168 hG (q_Fr.bz (S := fun k => k = 0 ∨ (6 ≤ k ∧ k ≤ 138)) hZ (by repeat (first | exact q_Fr.rf | refine q_Fr.ud ?_ (by omega) (by first | assumption | rfl) rfl | refine q_Fr.udz ?_ (by omega) (by first | assumption | decide | omega) | refine q_Fr.tr ?_ (by assumption) (by intro k9 hk9; omega))))) ?_
        intro t4 w4 g4 p4
        rcases p4 with ⟨rfl, rfl⟩ | ⟨rfl, rfl⟩
        · skip
          refine Or.inl ⟨rfl, ?_⟩
          refine r_aload_n c183_40 rfl rfl ?_
          refine r_getr c183_41 (by first | assumption | omega) (by decide) (by first | assumption | rfl) rfl rfl ?_
          refine r_aload_n c183_44 rfl rfl ?_
          refine r_getr c183_45 (by first | assumption | omega) (by decide) (by first | assumption | rfl) rfl rfl ?_
          refine r_getr c183_48 (by first | assumption | omega) (by decide) (by first | assumption | rfl) rfl rfl ?_
          refine r_vcG c183_51 (by first | assumption | omega) (by decide) (by first | assumption | rfl) rfl rfl rfl (k144 hG (q_Fr.bz (S := fun k => k = 0 ∨ (6 ≤ k ∧ k ≤ 138)) hZ (by repeat (first | exact q_Fr.rf | refine q_Fr.ud ?_ (by omega) (by first | assumption | rfl) rfl | refine q_Fr.udz ?_ (by omega) (by first | assumption | decide | omega) | refine q_Fr.tr ?_ (by assumption) (by intro k9 hk9; omega)))) (by first | assumption | exact q_hC (by assumption) | exact q_h1 (by assumption) | exact q_h3 (by assumption) | exact q_h5 (by assumption) | exact q_hG (by assumption) | exact q_hP | exact q_hB1 | exact q_hB2 | exact q_hT6 | exact q_hT15 | exact q_hT24) (by first | assumption | exact q_hC (by assumption) | exact q_h1 (by assumption) | exact q_h3 (by assumption) | exact q_h5 (by assumption) | exact q_hG (by assumption) | exact q_hP | exact q_hB1 | exact q_hB2 | exact q_hT6 | exact q_hT15 | exact q_hT24)) ?_
          intro t5 w5 g5 p5
          obtain ⟨rfl, e5⟩ := p5
          refine Or.inl ⟨rfl, ?_⟩
          refine r_aload_n c183_54 rfl rfl ?_
          refine r_getr c183_55 (by first | assumption | omega) (by decide) (by first | assumption | rfl) rfl rfl ?_
          refine r_iload_n c183_58 rfl rfl ?_
          refine r_iload_n c183_59 rfl rfl ?_
          refine r_iload_n c183_60 rfl rfl ?_
          refine r_iload c183_61 rfl rfl ?_
          refine r_vcG c183_63 (by first | assumption | omega) (by decide) (by first | assumption | rfl) rfl rfl rfl (k150 hG (q_Fr.bz (S := fun k => k = 0 ∨ (6 ≤ k ∧ k ≤ 138)) hZ (by repeat (first | exact q_Fr.rf | refine q_Fr.ud ?_ (by omega) (by first | assumption | rfl) rfl | refine q_Fr.udz ?_ (by omega) (by first | assumption | decide | omega) | refine q_Fr.tr ?_ (by assumption) (by intro k9 hk9; omega)))) (by first | assumption | exact q_hC (by assumption) | exact q_h1 (by assumption) | exact q_h3 (by assumption) | exact q_h5 (by assumption) | exact q_hG (by assumption) | exact q_hP | exact q_hB1 | exact q_hB2 | exact q_hT6 | exact q_hT15 | exact q_hT24)) ?_
          intro t6 w6 g6 p6
          obtain ⟨rfl, e6⟩ := p6
          refine Or.inl ⟨rfl, ?_⟩
          refine r_aload_n c183_66 rfl rfl ?_
          refine r_vcG c183_67 (by first | assumption | omega) (by decide) (by first | assumption | rfl) rfl rfl rfl (k221 hG (q_Fr.bz (S := fun k => k = 0 ∨ (6 ≤ k ∧ k ≤ 138)) hZ (by repeat (first | exact q_Fr.rf | refine q_Fr.ud ?_ (by omega) (by first | assumption | rfl) rfl | refine q_Fr.udz ?_ (by omega) (by first | assumption | decide | omega) | refine q_Fr.tr ?_ (by assumption) (by intro k9 hk9; omega))))) ?_
          intro t7 w7 g7 p7
          rcases p7 with ⟨rfl, ⟨z7, rfl⟩, e7⟩ | ⟨rfl, e7⟩
          · skip
            refine Or.inr (Or.inl ⟨rfl, ?_⟩)
            exact r_iret c183_70 ⟨rfl, rfl, rfl⟩ (Or.inl ⟨rfl, ⟨_, rfl⟩, (by repeat (first | exact q_Fr.rf | refine q_Fr.ud ?_ (by omega) (by first | assumption | rfl) rfl | refine q_Fr.udz ?_ (by omega) (by first | assumption | decide | omega) | refine q_Fr.tr ?_ (by assumption) (by intro k9 hk9; omega)))⟩)
          · refine Or.inr (Or.inr ⟨2, rfl, ?_⟩)
            exact Or.inr ⟨rfl, (Or.inr (Or.inr (⟨rfl, (by repeat (first | exact q_Fr.rf | refine q_Fr.ud ?_ (by omega) (by first | assumption | rfl) rfl | refine q_Fr.udz ?_ (by omega) (by first | assumption | decide | omega) | refine q_Fr.tr ?_ (by assumption) (by intro k9 hk9; omega)))⟩)))⟩
        · refine Or.inr (Or.inr ⟨2, rfl, ?_⟩)
          exact Or.inr ⟨rfl, (Or.inr (Or.inr (⟨rfl, (by repeat (first | exact q_Fr.rf | refine q_Fr.ud ?_ (by omega) (by first | assumption | rfl) rfl | refine q_Fr.udz ?_ (by omega) (by first | assumption | decide | omega) | refine q_Fr.tr ?_ (by assumption) (by intro k9 hk9; omega)))⟩)))⟩
      · refine Or.inr (Or.inr ⟨0, rfl, ?_⟩)
        exact Or.inr ⟨rfl, (Or.inr (Or.inl ⟨rfl, (by repeat (first | exact q_Fr.rf | refine q_Fr.ud ?_ (by omega) (by first | assumption | rfl) rfl | refine q_Fr.udz ?_ (by omega) (by first | assumption | decide | omega) | refine q_Fr.tr ?_ (by assumption) (by intro k9 hk9; omega)))⟩))⟩
    · intro b2
      exact r_thr (y := 129) c183_18 rfl (Or.inr (Or.inl ⟨rfl, (by repeat (first | exact q_Fr.rf | refine q_Fr.ud ?_ (by omega) (by first | assumption | rfl) rfl | refine q_Fr.udz ?_ (by omega) (by first | assumption | decide | omega) | refine q_Fr.tr ?_ (by assumption) (by intro k9 hk9; omega)))⟩))
theorem c173_0 : q_cat 173 0 (.aload_n 0) 1 0 0 (0) := ⟨rfl, rfl⟩
theorem c173_1 : q_cat 173 1 (.iload_n 1) 1 1 0 (0) := ⟨rfl, rfl⟩
theorem c173_2 : q_cat 173 2 (.invokevirtual 235) 3 164 0 (0) := ⟨rfl, rfl⟩
theorem c173_5 : q_cat 173 5 (.aload_n 0) 1 0 0 (0) := ⟨rfl, rfl⟩
theorem c173_6 : q_cat 173 6 (.getfield 53) 3 8 7 (3) := ⟨rfl, rfl⟩
theorem c173_9 : q_cat 173 9 (.aload_n 0) 1 0 0 (0) := ⟨rfl, rfl⟩
theorem c173_10 : q_cat 173 10 (.getfield 26) 3 8 2 (3) := ⟨rfl, rfl⟩
theorem c173_13 : q_cat 173 13 (.getfield 114) 3 6 3 (3) := ⟨rfl, rfl⟩
theorem c173_16 : q_cat 173 16 (.invokevirtual 192) 3 144 0 (0) := ⟨rfl, rfl⟩
theorem c173_19 : q_cat 173 19 (.aload_n 0) 1 0 0 (0) := ⟨rfl, rfl⟩
theorem c173_20 : q_cat 173 20 (.getfield 53) 3 8 7 (3) := ⟨rfl, rfl⟩
theorem c173_23 : q_cat 173 23 (.iload_n 1) 1 1 0 (0) := ⟨rfl, rfl⟩
theorem c173_24 : q_cat 173 24 (.invokevirtual 208) 3 152 0 (0) := ⟨rfl, rfl⟩
theorem c173_27 : q_cat 173 27 (.aload_n 0) 1 0 0 (0) := ⟨rfl, rfl⟩
theorem c173_28 : q_cat 173 28 (.invokevirtual 200) 3 221 0 (0) := ⟨rfl, rfl⟩
theorem c173_31 : q_cat 173 31 (.ireturn) 1 0 0 (0) := ⟨rfl, rfl⟩
theorem k173 {Γ : q_Γ} (hG : q_GG Γ) {h : q_F} (hZ : q_Bz h) {v1 : Int}  :
    q_M Γ q_K 155 173 [(2, Int.ofNat 0), (0, v1)] h (fun t w h' => (t = 1 ∧ (∃ z, w = ((0, z) : q_V)) ∧ q_Fr (fun k => k = 0 ∨ (6 ≤ k ∧ k ≤ 138)) h h') ∨ (t = 3 ∧ q_Fr (fun k => k = 0 ∨ (6 ≤ k ∧ k ≤ 138)) h h') ∨ (t = 4 ∧ q_Fr (fun k => k = 0 ∨ (6 ≤ k ∧ k ≤ 138)) h h')) := by
  have hT6 := q_hT6
  obtain ⟨fT6_0, fT6_1, fT6_2, fT6_3, fT6_4, fT6_5, fT6_6, fT6_7, fT6_8, fT6_9, fT6_10⟩ := q_fT hT6
  have hT15 := q_hT15
  obtain ⟨fT15_0, fT15_1, fT15_2, fT15_3, fT15_4, fT15_5, fT15_6, fT15_7, fT15_8, fT15_9, fT15_10⟩ := q_fT hT15
  have hT24 := q_hT24
  obtain ⟨fT24_0, fT24_1, fT24_2, fT24_3, fT24_4, fT24_5, fT24_6, fT24_7, fT24_8, fT24_9, fT24_10⟩ := q_fT hT24
  obtain ⟨gP0, gP1, gP2, gP3⟩ := q_fG q_hP
  refine q_M.of (by decide) (Nat.le_of_ble_eq_true rfl) hG ?_
  refine r_aload_n c173_0 rfl rfl ?_
  refine r_iload_n c173_1 rfl rfl ?_
  refine r_vcG c173_2 (by first | assumption | omega) (by decide) (by first | assumption | rfl) rfl rfl rfl (k164 hG (q_Fr.bz (S := fun k => k = 0 ∨ (6 ≤ k ∧ k ≤ 138)) hZ (by repeat (first | exact q_Fr.rf | refine q_Fr.ud ?_ (by omega) (by first | assumption | rfl) rfl | refine q_Fr.udz ?_ (by omega) (by first | assumption | decide | omega) | refine q_Fr.tr ?_ (by assumption) (by intro k9 hk9; omega))))) ?_
  intro t1 w1 g1 p1
  rcases p1 with ⟨rfl, rfl⟩ | ⟨rfl, rfl⟩
  · skip
    refine Or.inl ⟨rfl, ?_⟩
    refine r_aload_n c173_5 rfl rfl ?_
    refine r_getr c173_6 (by first | assumption | omega) (by decide) (by first | assumption | rfl) rfl rfl ?_
    refine r_aload_n c173_9 rfl rfl ?_
    refine r_getr c173_10 (by first | assumption | omega) (by decide) (by first | assumption | rfl) rfl rfl ?_
    refine r_getr c173_13 (by first | assumption | omega) (by decide) (by first | assumption | rfl) rfl rfl ?_
    refine r_vcG c173_16 (by first | assumption | omega) (by decide) (by first | assumption | rfl) rfl rfl rfl (k144 hG (q_Fr.bz (S := fun k => k = 0 ∨ (6 ≤ k ∧ k ≤ 138)) hZ (by repeat (first | exact q_Fr.rf | refine q_Fr.ud ?_ (by omega) (by first | assumption | rfl) rfl | refine q_Fr.udz ?_ (by omega) (by first | assumption | decide | omega) | refine q_Fr.tr ?_ (by assumption) (by intro k9 hk9; omega)))) (by first | assumption | exact q_hC (by assumption) | exact q_h1 (by assumption) | exact q_h3 (by assumption) | exact q_h5 (by assumption) | exact q_hG (by assumption) | exact q_hP | exact q_hB1 | exact q_hB2 | exact q_hT6 | exact q_hT15 | exact q_hT24) (by first | assumption | exact q_hC (by assumption) | exact q_h1 (by assumption) | exact q_h3 (by assumption) | exact q_h5 (by assumption) | exact q_hG (by assumption) | exact q_hP | exact q_hB1 | exact q_hB2 | exact q_hT6 | exact q_hT15 | exact q_hT24)) ?_
    intro t2 w2 g2 p2
    obtain ⟨rfl, e2⟩ := p2
    refine Or.inl ⟨rfl, ?_⟩
    refine r_aload_n c173_19 rfl rfl ?_
    refine r_getr c173_20 (by first | assumption | omega) (by decide) (by first | assumption | rfl) rfl rfl ?_
    refine r_iload_n c173_23 rfl rfl ?_
    refine r_vcG c173_24 (by first | assumption | omega) (by decide) (by first | assumption | rfl) rfl rfl rfl (k152 hG (q_Fr.bz (S := fun k => k = 0 ∨ (6 ≤ k ∧ k ≤ 138)) hZ (by repeat (first | exact q_Fr.rf | refine q_Fr.ud ?_ (by omega) (by first | assumption | rfl) rfl | refine q_Fr.udz ?_ (by omega) (by first | assumption | decide | omega) | refine q_Fr.tr ?_ (by assumption) (by intro k9 hk9; omega)))) (by first | assumption | exact q_hC (by assumption) | exact q_h1 (by assumption) | exact q_h3 (by assumption) | exact q_h5 (by assumption) | exact q_hG (by assumption) | exact q_hP | exact q_hB1 | exact q_hB2 | exact q_hT6 | exact q_hT15 | exact q_hT24)) ?_
    intro t3 w3 g3 p3
    obtain ⟨rfl, e3⟩ := p3
    refine Or.inl ⟨rfl, ?_⟩
    refine r_aload_n c173_27 rfl rfl ?_
    refine r_vcG c173_28 (by first | assumption | omega) (by decide) (by first | assumption | rfl) rfl rfl rfl (k221 hG (q_Fr.bz (S := fun k => k = 0 ∨ (6 ≤ k ∧ k ≤ 138)) hZ (by repeat (first | exact q_Fr.rf | refine q_Fr.ud ?_ (by omega) (by first | assumption | rfl) rfl | refine q_Fr.udz ?_ (by omega) (by first | assumption | decide | omega) | refine q_Fr.tr ?_ (by assumption) (by intro k9 hk9; omega))))) ?_
    intro t4 w4 g4 p4
    rcases p4 with ⟨rfl, ⟨z4, rfl⟩, e4⟩ | ⟨rfl, e4⟩
    · skip
      refine Or.inr (Or.inl ⟨rfl, ?_⟩)
      exact r_iret c173_31 ⟨rfl, rfl, rfl⟩ (Or.inl ⟨rfl, ⟨_, rfl⟩, (by repeat (first | exact q_Fr.rf | refine q_Fr.ud ?_ (by omega) (by first | assumption | rfl) rfl | refine q_Fr.udz ?_ (by omega) (by first | assumption | decide | omega) | refine q_Fr.tr ?_ (by assumption) (by intro k9 hk9; omega)))⟩)
    · refine Or.inr (Or.inr ⟨2, rfl, ?_⟩)
      exact Or.inr ⟨rfl, (Or.inr (Or.inr (⟨rfl, (by repeat (first | exact q_Fr.rf | refine q_Fr.ud ?_ (by omega) (by first | assumption | rfl) rfl | refine q_Fr.udz ?_ (by omega) (by first | assumption | decide | omega) | refine q_Fr.tr ?_ (by assumption) (by intro k9 hk9; omega)))⟩)))⟩
  · refine Or.inr (Or.inr ⟨1, rfl, ?_⟩)
    exact Or.inr ⟨rfl, (Or.inr (Or.inl ⟨rfl, (by repeat (first | exact q_Fr.rf | refine q_Fr.ud ?_ (by omega) (by first | assumption | rfl) rfl | refine q_Fr.udz ?_ (by omega) (by first | assumption | decide | omega) | refine q_Fr.tr ?_ (by assumption) (by intro k9 hk9; omega)))⟩))⟩
theorem c220_0 : q_cat 220 0 (.aload_n 0) 1 0 0 (0) := ⟨rfl, rfl⟩
theorem c220_1 : q_cat 220 1 (.iload_n 1) 1 1 0 (0) := ⟨rfl, rfl⟩
theorem c220_2 : q_cat 220 2 (.invokevirtual 235) 3 164 0 (0) := ⟨rfl, rfl⟩
theorem c220_5 : q_cat 220 5 (.aload_n 0) 1 0 0 (0) := ⟨rfl, rfl⟩
theorem c220_6 : q_cat 220 6 (.iload_n 2) 1 2 0 (0) := ⟨rfl, rfl⟩
theorem c220_7 : q_cat 220 7 (.invokevirtual 235) 3 164 0 (0) := ⟨rfl, rfl⟩
theorem c220_10 : q_cat 220 10 (.aload_n 0) 1 0 0 (0) := ⟨rfl, rfl⟩
theorem c220_11 : q_cat 220 11 (.getfield 53) 3 8 7 (3) := ⟨rfl, rfl⟩
theorem c220_14 : q_cat 220 14 (.aload_n 0) 1 0 0 (0) := ⟨rfl, rfl⟩
theorem c220_15 : q_cat 220 15 (.getfield 26) 3 8 2 (3) := ⟨rfl, rfl⟩
theorem c220_18 : q_cat 220 18 (.getfield 114) 3 6 3 (3) := ⟨rfl, rfl⟩
theorem c220_21 : q_cat 220 21 (.invokevirtual 192) 3 144 0 (0) := ⟨rfl, rfl⟩
theorem c220_24 : q_cat 220 24 (.aload_n 0) 1 0 0 (0) := ⟨rfl, rfl⟩
theorem c220_25 : q_cat 220 25 (.getfield 53) 3 8 7 (3) := ⟨rfl, rfl⟩
theorem c220_28 : q_cat 220 28 (.iload_n 1) 1 1 0 (0) := ⟨rfl, rfl⟩
theorem c220_29 : q_cat 220 29 (.iload_n 2) 1 2 0 (0) := ⟨rfl, rfl⟩
theorem c220_30 : q_cat 220 30 (.invokevirtual 238) 3 146 0 (0) := ⟨rfl, rfl⟩
theorem c220_33 : q_cat 220 33 (.aload_n 0) 1 0 0 (0) := ⟨rfl, rfl⟩
theorem c220_34 : q_cat 220 34 (.invokevirtual 200) 3 221 0 (0) := ⟨rfl, rfl⟩
theorem c220_37 : q_cat 220 37 (.pop) 1 0 0 (0) := ⟨rfl, rfl⟩
theorem c220_38 : q_cat 220 38 (.aload_n 0) 1 0 0 (0) := ⟨rfl, rfl⟩
theorem c220_39 : q_cat 220 39 (.invokevirtual 215) 3 195 0 (0) := ⟨rfl, rfl⟩
theorem c220_42 : q_cat 220 42 (.invokevirtual 241) 3 98 0 (0) := ⟨rfl, rfl⟩
theorem c220_45 : q_cat 220 45 (.ireturn) 1 0 0 (0) := ⟨rfl, rfl⟩
theorem k220 {Γ : q_Γ} (hG : q_GG Γ) {h : q_F} (hZ : q_Bz h) {v1 : Int} {v2 : Int}  :
    q_M Γ q_K 155 220 [(2, Int.ofNat 0), (0, v1), (0, v2)] h (fun t w h' => (t = 1 ∧ (∃ z, w = ((0, z) : q_V)) ∧ q_Fr (fun k => k = 0 ∨ (6 ≤ k ∧ k ≤ 138)) h h') ∨ (t = 3 ∧ q_Fr (fun k => k = 0 ∨ (6 ≤ k ∧ k ≤ 138)) h h') ∨ (t = 4 ∧ q_Fr (fun k => k = 0 ∨ (6 ≤ k ∧ k ≤ 138)) h h')) := by
  have hT6 := q_hT6
  obtain ⟨fT6_0, fT6_1, fT6_2, fT6_3, fT6_4, fT6_5, fT6_6, fT6_7, fT6_8, fT6_9, fT6_10⟩ := q_fT hT6
  have hT15 := q_hT15
  obtain ⟨fT15_0, fT15_1, fT15_2, fT15_3, fT15_4, fT15_5, fT15_6, fT15_7, fT15_8, fT15_9, fT15_10⟩ := q_fT hT15
  have hT24 := q_hT24
  obtain ⟨fT24_0, fT24_1, fT24_2, fT24_3, fT24_4, fT24_5, fT24_6, fT24_7, fT24_8, fT24_9, fT24_10⟩ := q_fT hT24
  obtain ⟨gP0, gP1, gP2, gP3⟩ := q_fG q_hP
  refine q_M.of (by decide) (Nat.le_of_ble_eq_true rfl) hG ?_
  refine r_aload_n c220_0 rfl rfl ?_
  refine r_iload_n c220_1 rfl rfl ?_
  refine r_vcG c220_2 (by first | assumption | omega) (by decide) (by first | assumption | rfl) rfl rfl rfl (k164 hG (q_Fr.bz (S := fun k => k = 0 ∨ (6 ≤ k ∧ k ≤ 138)) hZ (by repeat (first | exact q_Fr.rf | refine q_Fr.ud ?_ (by omega) (by first | assumption | rfl) rfl | refine q_Fr.udz ?_ (by omega) (by first | assumption | decide | omega) | refine q_Fr.tr ?_ (by assumption) (by intro k9 hk9; omega))))) ?_
  intro t1 w1 g1 p1
  rcases p1 with ⟨rfl, rfl⟩ | ⟨rfl, rfl⟩
  · skip
    refine Or.inl ⟨rfl, ?_⟩
    refine r_aload_n c220_5 rfl rfl ?_
    refine r_iload_n c220_6 rfl rfl ?_
    refine r_vcG c220_7 (by first | assumption | omega) (by decide) (by first | assumption | rfl) rfl rfl rfl (k164 hG (q_Fr.bz (S := fun k => k = 0 ∨ (6 ≤ k ∧ k ≤ 138)) hZ (by repeat (first | exact q_Fr.rf | refine q_Fr.ud ?_ (by omega) (by first | assumption | rfl) rfl | refine q_Fr.udz ?_ (by omega) (by first | assumption | decide | omega) | refine q_Fr.tr ?_ (by assumption) (by intro k9 hk9; omega))))) ?_
    intro t2 w2 g2 p2
    rcases p2 with ⟨rfl, rfl⟩ | ⟨rfl, rfl⟩
    · skip
      refine Or.inl ⟨rfl, ?_⟩
      refine r_aload_n c220_10 rfl rfl ?_
      refine r_getr c220_11 (by first | assumption | omega) (by decide) (by first | assumption | rfl) rfl rfl ?_
      refine r_aload_n c220_14 rfl rfl ?_
      refine r_getr c220_15 (by first | assumption | omega) (by decide) (by first | assumption | rfl) rfl rfl ?_
      refine r_getr c220_18 (by first | assumption | omega) (by decide) (by first | assumption | rfl) rfl rfl ?_
      refine r_vcG c220_21 (by first | assumption | omega) (by decide) (by first | assumption | rfl) rfl rfl rfl (k144 hG (q_Fr.bz (S := fun k => k = 0 ∨ (6 ≤ k ∧ k ≤ 138)) hZ (by repeat (first | exact q_Fr.rf | refine q_Fr.ud ?_ (by omega) (by first | assumption | rfl) rfl | refine q_Fr.udz ?_ (by omega) (by first | assumption | decide | omega) | refine q_Fr.tr ?_ (by assumption) (by intro k9 hk9; omega)))) (by first | assumption | exact q_hC (by assumption) | exact q_h1 (by assumption) | exact q_h3 (by assumption) | exact q_h5 (by assumption) | exact q_hG (by assumption) | exact q_hP | exact q_hB1 | exact q_hB2 | exact q_hT6 | exact q_hT15 | exact q_hT24) (by first | assumption | exact q_hC (by assumption) | exact q_h1 (by assumption) | exact q_h3 (by assumption) | exact q_h5 (by assumption) | exact q_hG (by assumption) | exact q_hP | exact q_hB1 | exact q_hB2 | exact q_hT6 | exact q_hT15 | exact q_hT24)) ?_
      intro t3 w3 g3 p3
      obtain ⟨rfl, e3⟩ := p3
      refine Or.inl ⟨rfl, ?_⟩
      refine r_aload_n c220_24 rfl rfl ?_
      refine r_getr c220_25 (by first | assumption | omega) (by decide) (by first | assumption | rfl) rfl rfl ?_
      refine r_iload_n c220_28 rfl rfl ?_
      refine r_iload_n c220_29 rfl rfl ?_
      refine r_vcG c220_30 (by first | assumption | omega) (by decide) (by first | assumption | rfl) rfl rfl rfl (k146 hG (q_Fr.bz (S := fun k => k = 0 ∨ (6 ≤ k ∧ k ≤ 138)) hZ (by repeat (first | exact q_Fr.rf | refine q_Fr.ud ?_ (by omega) (by first | assumption | rfl) rfl | refine q_Fr.udz ?_ (by omega) (by first | assumption | decide | omega) | refine q_Fr.tr ?_ (by assumption) (by intro k9 hk9; omega)))) (by first | assumption | exact q_hC (by assumption) | exact q_h1 (by assumption) | exact q_h3 (by assumption) | exact q_h5 (by assumption) | exact q_hG (by assumption) | exact q_hP | exact q_hB1 | exact q_hB2 | exact q_hT6 | exact q_hT15 | exact q_hT24)) ?_
      intro t4 w4 g4 p4
      obtain ⟨rfl, e4⟩ := p4
      refine Or.inl ⟨rfl, ?_⟩
      refine r_aload_n c220_33 rfl rfl ?_
      refine r_vcG c220_34 (by first | assumption | omega) (by decide) (by first | assumption | rfl) rfl rfl rfl (k221 hG (q_Fr.bz (S := fun k => k = 0 ∨ (6 ≤ k ∧ k ≤ 138)) hZ (by repeat (first | exact q_Fr.rf | refine q_Fr.ud ?_ (by omega) (by first | assumption | rfl) rfl | refine q_Fr.udz ?_ (by omega) (by first | assumption | decide | omega) | refine q_Fr.tr ?_ (by assumption) (by intro k9 hk9; omega))))) ?_
      intro t5 w5 g5 p5
      rcases p5 with ⟨rfl, ⟨z5, rfl⟩, e5⟩ | ⟨rfl, e5⟩
      · skip
        refine Or.inr (Or.inl ⟨rfl, ?_⟩)
        refine r_pop c220_37 rfl rfl ?_
        refine r_aload_n c220_38 rfl rfl ?_
        refine r_vcG c220_39 (by first | assumption | omega) (by decide) (by first | assumption | rfl) rfl rfl rfl (k195 hG (q_Fr.bz (S := fun k => k = 0 ∨ (6 ≤ k ∧ k ≤ 138)) hZ (by repeat (first | exact q_Fr.rf | refine q_Fr.ud ?_ (by omega) (by first | assumption | rfl) rfl | refine q_Fr.udz ?_ (by omega) (by first | assumption | decide | omega) | refine q_Fr.tr ?_ (by assumption) (by intro k9 hk9; omega))))) ?_
        intro t6 w6 g6 p6
        obtain ⟨rfl, rfl, e6⟩ := p6
        refine Or.inr (Or.inl ⟨rfl, ?_⟩)
        refine r_vcG c220_42 (by first | assumption | omega) (by decide) (by first | assumption | rfl) rfl rfl rfl (k98 hG (q_Fr.bz (S := fun k => k = 0 ∨ (6 ≤ k ∧ k ≤ 138)) hZ (by repeat (first | exact q_Fr.rf | refine q_Fr.ud ?_ (by omega) (by first | assumption | rfl) rfl | refine q_Fr.udz ?_ (by omega) (by first | assumption | decide | omega) | refine q_Fr.tr ?_ (by assumption) (by intro k9 hk9; omega))))) ?_
        intro t7 w7 g7 p7
        obtain ⟨rfl, ⟨z7, rfl⟩, rfl⟩ := p7
        refine Or.inr (Or.inl ⟨rfl, ?_⟩)
        exact r_iret c220_45 ⟨rfl, rfl, rfl⟩ (Or.inl ⟨rfl, ⟨_, rfl⟩, (by repeat (first | exact q_Fr.rf | refine q_Fr.ud ?_ (by omega) (by first | assumption | rfl) rfl | refine q_Fr.udz ?_ (by omega) (by first | assumption | decide | omega) | refine q_Fr.tr ?_ (by assumption) (by intro k9 hk9; omega)))⟩)
      · refine Or.inr (Or.inr ⟨2, rfl, ?_⟩)
        exact Or.inr ⟨rfl, (Or.inr (Or.inr (⟨rfl, (by repeat (first | exact q_Fr.rf | refine q_Fr.ud ?_ (by omega) (by first | assumption | rfl) rfl | refine q_Fr.udz ?_ (by omega) (by first | assumption | decide | omega) | refine q_Fr.tr ?_ (by assumption) (by intro k9 hk9; omega)))⟩)))⟩
    · refine Or.inr (Or.inr ⟨1, rfl, ?_⟩)
      exact Or.inr ⟨rfl, (Or.inr (Or.inl ⟨rfl, (by repeat (first | exact q_Fr.rf | refine q_Fr.ud ?_ (by omega) (by first | assumption | rfl) rfl | refine q_Fr.udz ?_ (by omega) (by first | assumption | decide | omega) | refine q_Fr.tr ?_ (by assumption) (by intro k9 hk9; omega)))⟩))⟩
  · refine Or.inr (Or.inr ⟨1, rfl, ?_⟩)
    exact Or.inr ⟨rfl, (Or.inr (Or.inl ⟨rfl, (by repeat (first | exact q_Fr.rf | refine q_Fr.ud ?_ (by omega) (by first | assumption | rfl) rfl | refine q_Fr.udz ?_ (by omega) (by first | assumption | decide | omega) | refine q_Fr.tr ?_ (by assumption) (by intro k9 hk9; omega)))⟩))⟩
theorem c196_0 : q_cat 196 0 (.aload_n 0) 1 0 0 (0) := ⟨rfl, rfl⟩
theorem c196_1 : q_cat 196 1 (.iload_n 1) 1 1 0 (0) := ⟨rfl, rfl⟩
theorem c196_2 : q_cat 196 2 (.invokevirtual 235) 3 164 0 (0) := ⟨rfl, rfl⟩
theorem c196_5 : q_cat 196 5 (.aload_n 0) 1 0 0 (0) := ⟨rfl, rfl⟩
theorem c196_6 : q_cat 196 6 (.iload_n 2) 1 2 0 (0) := ⟨rfl, rfl⟩
theorem c196_7 : q_cat 196 7 (.invokevirtual 132) 3 162 0 (0) := ⟨rfl, rfl⟩
theorem c196_10 : q_cat 196 10 (.aload_n 0) 1 0 0 (0) := ⟨rfl, rfl⟩
theorem c196_11 : q_cat 196 11 (.invokevirtual 215) 3 195 0 (0) := ⟨rfl, rfl⟩
theorem c196_14 : q_cat 196 14 (.astore 4) 2 4 0 (0) := ⟨rfl, rfl⟩
theorem c196_16 : q_cat 196 16 (.aload_n 0) 1 0 0 (0) := ⟨rfl, rfl⟩
theorem c196_17 : q_cat 196 17 (.aload 4) 2 4 0 (0) := ⟨rfl, rfl⟩
theorem c196_19 : q_cat 196 19 (.iload_n 1) 1 1 0 (0) := ⟨rfl, rfl⟩
theorem c196_20 : q_cat 196 20 (.invokevirtual 250) 3 79 0 (0) := ⟨rfl, rfl⟩
theorem c196_23 : q_cat 196 23 (.iload_n 3) 1 3 0 (0) := ⟨rfl, rfl⟩
theorem c196_24 : q_cat 196 24 (.invokevirtual 258) 3 169 0 (0) := ⟨rfl, rfl⟩
theorem c196_27 : q_cat 196 27 (.aload 4) 2 4 0 (0) := ⟨rfl, rfl⟩
theorem c196_29 : q_cat 196 29 (.iload_n 1) 1 1 0 (0) := ⟨rfl, rfl⟩
theorem c196_30 : q_cat 196 30 (.iload_n 2) 1 2 0 (0) := ⟨rfl, rfl⟩
theorem c196_31 : q_cat 196 31 (.iload_n 3) 1 3 0 (0) := ⟨rfl, rfl⟩
theorem c196_32 : q_cat 196 32 (.invokevirtual 269) 3 87 0 (0) := ⟨rfl, rfl⟩
theorem c196_35 : q_cat 196 35 (.ireturn) 1 0 0 (0) := ⟨rfl, rfl⟩
theorem k196 {Γ : q_Γ} (hG : q_GG Γ) {h : q_F} (hZ : q_Bz h) {v1 : Int} {v2 : Int} {v3 : Int}  :
    q_M Γ q_K 155 196 [(2, Int.ofNat 0), (0, v1), (0, v2), (0, v3)] h (fun t w h' => (t = 1 ∧ (∃ z, w = ((0, z) : q_V)) ∧ q_Fr (fun k => k = 0 ∨ (6 ≤ k ∧ k ≤ 138)) h h') ∨ (t = 2 ∧ q_Fr (fun k => k = 0 ∨ (6 ≤ k ∧ k ≤ 138)) h h') ∨ (t = 3 ∧ q_Fr (fun k => k = 0 ∨ (6 ≤ k ∧ k ≤ 138)) h h')) := by
  have hT6 := q_hT6
  obtain ⟨fT6_0, fT6_1, fT6_2, fT6_3, fT6_4, fT6_5, fT6_6, fT6_7, fT6_8, fT6_9, fT6_10⟩ := q_fT hT6
  have hT15 := q_hT15
  obtain ⟨fT15_0, fT15_1, fT15_2, fT15_3, fT15_4, fT15_5, fT15_6, fT15_7, fT15_8, fT15_9, fT15_10⟩ := q_fT hT15
  have hT24 := q_hT24
  obtain ⟨fT24_0, fT24_1, fT24_2, fT24_3, fT24_4, fT24_5, fT24_6, fT24_7, fT24_8, fT24_9, fT24_10⟩ := q_fT hT24
  obtain ⟨gP0, gP1, gP2, gP3⟩ := q_fG q_hP
  refine q_M.of (by decide) (Nat.le_of_ble_eq_true rfl) hG ?_
  refine r_aload_n c196_0 rfl rfl ?_
  refine r_iload_n c196_1 rfl rfl ?_
  refine r_vcG c196_2 (by first | assumption | omega) (by decide) (by first | assumption | rfl) rfl rfl rfl (k164 hG (q_Fr.bz (S := fun k => k = 0 ∨ (6 ≤ k ∧ k ≤ 138)) hZ (by repeat (first | exact q_Fr.rf | refine q_Fr.ud ?_ (by omega) (by first | assumption | rfl) rfl | refine q_Fr.udz ?_ (by omega) (by first | assumption | decide | omega) | refine q_Fr.tr ?_ (by assumption) (by intro k9 hk9; omega))))) ?_
  intro t1 w1 g1 p1
  rcases p1 with ⟨rfl, rfl⟩ | ⟨rfl, rfl⟩
  · skip
    refine Or.inl ⟨rfl, ?_⟩
    refine r_aload_n c196_5 rfl rfl ?_
    refine r_iload_n c196_6 rfl rfl ?_
    refine r_vcG c196_7 (by first | assumption | omega) (by decide) (by first | assumption | rfl) rfl rfl rfl (k162 hG (q_Fr.bz (S := fun k => k = 0 ∨ (6 ≤ k ∧ k ≤ 138)) hZ (by repeat (first | exact q_Fr.rf | refine q_Fr.ud ?_ (by omega) (by first | assumption | rfl) rfl | refine q_Fr.udz ?_ (by omega) (by first | assumption | decide | omega) | refine q_Fr.tr ?_ (by assumption) (by intro k9 hk9; omega))))) ?_
    intro t2 w2 g2 p2
    rcases p2 with ⟨rfl, rfl⟩ | ⟨rfl, rfl⟩
    · skip
      refine Or.inl ⟨rfl, ?_⟩
      refine r_aload_n c196_10 rfl rfl ?_
      refine r_vcG c196_11 (by first | assumption | omega) (by decide) (by first | assumption | rfl) rfl rfl rfl (k195 hG (q_Fr.bz (S := fun k => k = 0 ∨ (6 ≤ k ∧ k ≤ 138)) hZ (by repeat (first | exact q_Fr.rf | refine q_Fr.ud ?_ (by omega) (by first | assumption | rfl) rfl | refine q_Fr.udz ?_ (by omega) (by first | assumption | decide | omega) | refine q_Fr.tr ?_ (by assumption) (by intro k9 hk9; omega))))) ?_
      intro t3 w3 g3 p3
      obtain ⟨rfl, rfl, e3⟩ := p3
      refine Or.inr (Or.inl ⟨rfl, ?_⟩)
      refine r_astore c196_14 (lo' := [(4, _), (0, _), (1, _), (2, _), (3, _)]) rfl rfl rfl ?_
      refine r_aload_n c196_16 rfl rfl ?_
      refine r_aload c196_17 rfl rfl ?_
      refine r_iload_n c196_19 rfl rfl ?_
      refine r_vcG c196_20 (by first | assumption | omega) (by decide) (by first | assumption | rfl) rfl rfl rfl (k79 hG (q_Fr.bz (S := fun k => k = 0 ∨ (6 ≤ k ∧ k ≤ 138)) hZ (by repeat (first | exact q_Fr.rf | refine q_Fr.ud ?_ (by omega) (by first | assumption | rfl) rfl | refine q_Fr.udz ?_ (by omega) (by first | assumption | decide | omega) | refine q_Fr.tr ?_ (by assumption) (by intro k9 hk9; omega))))) ?_
      intro t4 w4 g4 p4
      obtain ⟨rfl, ⟨z4, rfl⟩, rfl⟩ := p4
      refine Or.inr (Or.inl ⟨rfl, ?_⟩)
      refine r_iload_n c196_23 rfl rfl ?_
      refine r_vcG c196_24 (by first | assumption | omega) (by decide) (by first | assumption | rfl) rfl rfl rfl (k169 hG (q_Fr.bz (S := fun k => k = 0 ∨ (6 ≤ k ∧ k ≤ 138)) hZ (by repeat (first | exact q_Fr.rf | refine q_Fr.ud ?_ (by omega) (by first | assumption | rfl) rfl | refine q_Fr.udz ?_ (by omega) (by first | assumption | decide | omega) | refine q_Fr.tr ?_ (by assumption) (by intro k9 hk9; omega))))) ?_
      intro t5 w5 g5 p5
      rcases p5 with ⟨rfl, rfl⟩ | ⟨rfl, rfl⟩
      · skip
        refine Or.inl ⟨rfl, ?_⟩
        refine r_aload c196_27 rfl rfl ?_
        refine r_iload_n c196_29 rfl rfl ?_
        refine r_iload_n c196_30 rfl rfl ?_
        refine r_iload_n c196_31 rfl rfl ?_
        refine r_vcG c196_32 (by first | assumption | omega) (by decide) (by first | assumption | rfl) rfl rfl rfl (k87 hG (q_Fr.bz (S := fun k => k = 0 ∨ (6 ≤ k ∧ k ≤ 138)) hZ (by repeat (first | exact q_Fr.rf | refine q_Fr.ud ?_ (by omega) (by first | assumption | rfl) rfl | refine q_Fr.udz ?_ (by omega) (by first | assumption | decide | omega) | refine q_Fr.tr ?_ (by assumption) (by intro k9 hk9; omega))))) ?_
        intro t6 w6 g6 p6
        obtain ⟨rfl, ⟨z6, rfl⟩, rfl⟩ := p6
        refine Or.inr (Or.inl ⟨rfl, ?_⟩)
        exact r_iret c196_35 ⟨rfl, rfl, rfl⟩ (Or.inl ⟨rfl, ⟨_, rfl⟩, (by repeat (first | exact q_Fr.rf | refine q_Fr.ud ?_ (by omega) (by first | assumption | rfl) rfl | refine q_Fr.udz ?_ (by omega) (by first | assumption | decide | omega) | refine q_Fr.tr ?_ (by assumption) (by intro k9 hk9; omega)))⟩)
      · refine Or.inr (Or.inr ⟨0, rfl, ?_⟩)
        exact Or.inr ⟨rfl, (Or.inr (Or.inl ⟨rfl, (by repeat (first | exact q_Fr.rf | refine q_Fr.ud ?_ (by omega) (by first | assumption | rfl) rfl | refine q_Fr.udz ?_ (by omega) (by first | assumption | decide | omega) | refine q_Fr.tr ?_ (by assumption) (by intro k9 hk9; omega)))⟩))⟩
    · refine Or.inr (Or.inr ⟨1, rfl, ?_⟩)
      exact Or.inr ⟨rfl, (Or.inr (Or.inr (⟨rfl, (by repeat (first | exact q_Fr.rf | refine q_Fr.ud ?_ (by omega) (by first | assumption | rfl) rfl | refine q_Fr.udz ?_ (by omega) (by first | assumption | decide | omega) | refine q_Fr.tr ?_ (by assumption) (by intro k9 hk9; omega)))⟩)))⟩
  · refine Or.inr (Or.inr ⟨1, rfl, ?_⟩)
    exact Or.inr ⟨rfl, (Or.inr (Or.inr (⟨rfl, (by repeat (first | exact q_Fr.rf | refine q_Fr.ud ?_ (by omega) (by first | assumption | rfl) rfl | refine q_Fr.udz ?_ (by omega) (by first | assumption | decide | omega) | refine q_Fr.tr ?_ (by assumption) (by intro k9 hk9; omega)))⟩)))⟩
theorem c202_0 : q_cat 202 0 (.aload_n 0) 1 0 0 (0) := ⟨rfl, rfl⟩
theorem c202_1 : q_cat 202 1 (.iload_n 1) 1 1 0 (0) := ⟨rfl, rfl⟩
theorem c202_2 : q_cat 202 2 (.invokevirtual 235) 3 164 0 (0) := ⟨rfl, rfl⟩
theorem c202_5 : q_cat 202 5 (.aload_n 0) 1 0 0 (0) := ⟨rfl, rfl⟩
theorem c202_6 : q_cat 202 6 (.invokevirtual 215) 3 195 0 (0) := ⟨rfl, rfl⟩
theorem c202_9 : q_cat 202 9 (.iload_n 1) 1 1 0 (0) := ⟨rfl, rfl⟩
theorem c202_10 : q_cat 202 10 (.iload_n 2) 1 2 0 (0) := ⟨rfl, rfl⟩
theorem c202_11 : q_cat 202 11 (.invokevirtual 272) 3 70 0 (0) := ⟨rfl, rfl⟩
theorem c202_14 : q_cat 202 14 (.ireturn) 1 0 0 (0) := ⟨rfl, rfl⟩
theorem k202 {Γ : q_Γ} (hG : q_GG Γ) {h : q_F} (hZ : q_Bz h) {v1 : Int} {v2 : Int} (hz2 : v2 = 0 ∨ v2 = 1) :
    q_M Γ q_K 155 202 [(2, Int.ofNat 0), (0, v1), (0, v2)] h (fun t w h' => (t = 1 ∧ (∃ z, w = ((0, z) : q_V)) ∧ q_Fr (fun k => k = 0 ∨ (6 ≤ k ∧ k ≤ 138)) h h') ∨ (t = 3 ∧ q_Fr (fun k => k = 0 ∨ (6 ≤ k ∧ k ≤ 138)) h h')) := by
  have hT6 := q_hT6
  obtain ⟨fT6_0, fT6_1, fT6_2, fT6_3, fT6_4, fT6_5, fT6_6, fT6_7, fT6_8, fT6_9, fT6_10⟩ := q_fT hT6
  have hT15 := q_hT15
  obtain ⟨fT15_0, fT15_1, fT15_2, fT15_3, fT15_4, fT15_5, fT15_6, fT15_7, fT15_8, fT15_9, fT15_10⟩ := q_fT hT15
  have hT24 := q_hT24
  obtain ⟨fT24_0, fT24_1, fT24_2, fT24_3, fT24_4, fT24_5, fT24_6, fT24_7, fT24_8, fT24_9, fT24_10⟩ := q_fT hT24
  obtain ⟨gP0, gP1, gP2, gP3⟩ := q_fG q_hP
  refine q_M.of (by decide) (Nat.le_of_ble_eq_true rfl) hG ?_
  refine r_aload_n c202_0 rfl rfl ?_
  refine r_iload_n c202_1 rfl rfl ?_
  refine r_vcG c202_2 (by first | assumption | omega) (by decide) (by first | assumption | rfl) rfl rfl rfl (k164 hG (q_Fr.bz (S := fun k => k = 0 ∨ (6 ≤ k ∧ k ≤ 138)) hZ (by repeat (first | exact q_Fr.rf | refine q_Fr.ud ?_ (by omega) (by first | assumption | rfl) rfl | refine q_Fr.udz ?_ (by omega) (by first | assumption | decide | omega) | refine q_Fr.tr ?_ (by assumption) (by intro k9 hk9; omega))))) ?_
  intro t1 w1 g1 p1
  rcases p1 with ⟨rfl, rfl⟩ | ⟨rfl, rfl⟩
  · skip
    refine Or.inl ⟨rfl, ?_⟩
    refine r_aload_n c202_5 rfl rfl ?_
    refine r_vcG c202_6 (by first | assumption | omega) (by decide) (by first | assumption | rfl) rfl rfl rfl (k195 hG (q_Fr.bz (S := fun k => k = 0 ∨ (6 ≤ k ∧ k ≤ 138)) hZ (by repeat (first | exact q_Fr.rf | refine q_Fr.ud ?_ (by omega) (by first | assumption | rfl) rfl | refine q_Fr.udz ?_ (by omega) (by first | assumption | decide | omega) | refine q_Fr.tr ?_ (by assumption) (by intro k9 hk9; omega))))) ?_
    intro t2 w2 g2 p2
    obtain ⟨rfl, rfl, e2⟩ := p2
    refine Or.inr (Or.inl ⟨rfl, ?_⟩)
    refine r_iload_n c202_9 rfl rfl ?_
    refine r_iload_n c202_10 rfl rfl ?_
    refine r_vcG c202_11 (by first | assumption | omega) (by decide) (by first | assumption | rfl) rfl rfl rfl (k70 hG (q_Fr.bz (S := fun k => k = 0 ∨ (6 ≤ k ∧ k ≤ 138)) hZ (by repeat (first | exact q_Fr.rf | refine q_Fr.ud ?_ (by omega) (by first | assumption | rfl) rfl | refine q_Fr.udz ?_ (by omega) (by first | assumption | decide | omega) | refine q_Fr.tr ?_ (by assumption) (by intro k9 hk9; omega)))) (by first | assumption | decide | omega)) ?_
    intro t3 w3 g3 p3
    obtain ⟨rfl, ⟨z3, rfl⟩, rfl⟩ := p3
    refine Or.inr (Or.inl ⟨rfl, ?_⟩)
    exact r_iret c202_14 ⟨rfl, rfl, rfl⟩ (Or.inl ⟨rfl, ⟨_, rfl⟩, (by repeat (first | exact q_Fr.rf | refine q_Fr.ud ?_ (by omega) (by first | assumption | rfl) rfl | refine q_Fr.udz ?_ (by omega) (by first | assumption | decide | omega) | refine q_Fr.tr ?_ (by assumption) (by intro k9 hk9; omega)))⟩)
  · refine Or.inr (Or.inr ⟨1, rfl, ?_⟩)
    exact Or.inr ⟨rfl, (Or.inr (⟨rfl, (by repeat (first | exact q_Fr.rf | refine q_Fr.ud ?_ (by omega) (by first | assumption | rfl) rfl | refine q_Fr.udz ?_ (by omega) (by first | assumption | decide | omega) | refine q_Fr.tr ?_ (by assumption) (by intro k9 hk9; omega)))⟩))⟩
theorem c215_0 : q_cat 215 0 (.aload_n 0) 1 0 0 (0) := ⟨rfl, rfl⟩
theorem c215_1 : q_cat 215 1 (.iload_n 1) 1 1 0 (0) := ⟨rfl, rfl⟩
theorem c215_2 : q_cat 215 2 (.invokevirtual 235) 3 164 0 (0) := ⟨rfl, rfl⟩
theorem c215_5 : q_cat 215 5 (.aload_n 0) 1 0 0 (0) := ⟨rfl, rfl⟩
theorem c215_6 : q_cat 215 6 (.invokevirtual 215) 3 195 0 (0) := ⟨rfl, rfl⟩
theorem c215_9 : q_cat 215 9 (.aload_n 0) 1 0 0 (0) := ⟨rfl, rfl⟩
theorem c215_10 : q_cat 215 10 (.getfield 26) 3 8 2 (3) := ⟨rfl, rfl⟩
theorem c215_13 : q_cat 215 13 (.iload_n 1) 1 1 0 (0) := ⟨rfl, rfl⟩
theorem c215_14 : q_cat 215 14 (.invokevirtual 276) 3 81 0 (0) := ⟨rfl, rfl⟩
theorem c215_17 : q_cat 215 17 (.ireturn) 1 0 0 (0) := ⟨rfl, rfl⟩
theorem k215 {Γ : q_Γ} (hG : q_GG Γ) {h : q_F} (hZ : q_Bz h) {v1 : Int}  :
    q_M Γ q_K 155 215 [(2, Int.ofNat 0), (0, v1)] h (fun t w h' => (t = 1 ∧ (∃ z, w = ((0, z) : q_V)) ∧ q_Fr (fun k => k = 0 ∨ (6 ≤ k ∧ k ≤ 138)) h h') ∨ (t = 3 ∧ q_Fr (fun k => k = 0 ∨ (6 ≤ k ∧ k ≤ 138)) h h')) := by
  have hT6 := q_hT6
  obtain ⟨fT6_0, fT6_1, fT6_2, fT6_3, fT6_4, fT6_5, fT6_6, fT6_7, fT6_8, fT6_9, fT6_10⟩ := q_fT hT6
  have hT15 := q_hT15
  obtain ⟨fT15_0, fT15_1, fT15_2, fT15_3, fT15_4, fT15_5, fT15_6, fT15_7, fT15_8, fT15_9, fT15_10⟩ := q_fT hT15
  have hT24 := q_hT24
  obtain ⟨fT24_0, fT24_1, fT24_2, fT24_3, fT24_4, fT24_5, fT24_6, fT24_7, fT24_8, fT24_9, fT24_10⟩ := q_fT hT24
  obtain ⟨gP0, gP1, gP2, gP3⟩ := q_fG q_hP
  refine q_M.of (by decide) (Nat.le_of_ble_eq_true rfl) hG ?_
  refine r_aload_n c215_0 rfl rfl ?_
  refine r_iload_n c215_1 rfl rfl ?_
  refine r_vcG c215_2 (by first | assumption | omega) (by decide) (by first | assumption | rfl) rfl rfl rfl (k164 hG (q_Fr.bz (S := fun k => k = 0 ∨ (6 ≤ k ∧ k ≤ 138)) hZ (by repeat (first | exact q_Fr.rf | refine q_Fr.ud ?_ (by omega) (by first | assumption | rfl) rfl | refine q_Fr.udz ?_ (by omega) (by first | assumption | decide | omega) | refine q_Fr.tr ?_ (by assumption) (by intro k9 hk9; omega))))) ?_
  intro t1 w1 g1 p1
  rcases p1 with ⟨rfl, rfl⟩ | ⟨rfl, rfl⟩
  · skip
    refine Or.inl ⟨rfl, ?_⟩
    refine r_aload_n c215_5 rfl rfl ?_
    refine r_vcG c215_6 (by first | assumption | omega) (by decide) (by first | assumption | rfl) rfl rfl rfl (k195 hG (q_Fr.bz (S := fun k => k = 0 ∨ (6 ≤ k ∧ k ≤ 138)) hZ (by repeat (first | exact q_Fr.rf | refine q_Fr.ud ?_ (by omega) (by first | assumption | rfl) rfl | refine q_Fr.udz ?_ (by omega) (by first | assumption | decide | omega) | refine q_Fr.tr ?_ (by assumption) (by intro k9 hk9; omega))))) ?_
    intro t2 w2 g2 p2
    obtain ⟨rfl, rfl, e2⟩ := p2
    refine Or.inr (Or.inl ⟨rfl, ?_⟩)
    refine r_aload_n c215_9 rfl rfl ?_
    refine r_getr c215_10 (by first | assumption | omega) (by decide) (by first | assumption | rfl) rfl rfl ?_
    refine r_iload_n c215_13 rfl rfl ?_
    refine r_vcG c215_14 (by first | assumption | omega) (by decide) (by first | assumption | rfl) rfl rfl rfl (k81 hG (q_Fr.bz (S := fun k => k = 0 ∨ (6 ≤ k ∧ k ≤ 138)) hZ (by repeat (first | exact q_Fr.rf | refine q_Fr.ud ?_ (by omega) (by first | assumption | rfl) rfl | refine q_Fr.udz ?_ (by omega) (by first | assumption | decide | omega) | refine q_Fr.tr ?_ (by assumption) (by intro k9 hk9; omega)))) (by first | assumption | exact q_hC (by assumption) | exact q_h1 (by assumption) | exact q_h3 (by assumption) | exact q_h5 (by assumption) | exact q_hG (by assumption) | exact q_hP | exact q_hB1 | exact q_hB2 | exact q_hT6 | exact q_hT15 | exact q_hT24)) ?_
    intro t3 w3 g3 p3
    obtain ⟨rfl, ⟨z3, rfl⟩, rfl⟩ := p3
    refine Or.inr (Or.inl ⟨rfl, ?_⟩)
    exact r_iret c215_17 ⟨rfl, rfl, rfl⟩ (Or.inl ⟨rfl, ⟨_, rfl⟩, (by repeat (first | exact q_Fr.rf | refine q_Fr.ud ?_ (by omega) (by first | assumption | rfl) rfl | refine q_Fr.udz ?_ (by omega) (by first | assumption | decide | omega) | refine q_Fr.tr ?_ (by assumption) (by intro k9 hk9; omega)))⟩)
  · refine Or.inr (Or.inr ⟨1, rfl, ?_⟩)
    exact Or.inr ⟨rfl, (Or.inr (⟨rfl, (by repeat (first | exact q_Fr.rf | refine q_Fr.ud ?_ (by omega) (by first | assumption | rfl) rfl | refine q_Fr.udz ?_ (by omega) (by first | assumption | decide | omega) | refine q_Fr.tr ?_ (by assumption) (by intro k9 hk9; omega)))⟩))⟩
theorem c218_0 : q_cat 218 0 (.aload_n 0) 1 0 0 (0) := ⟨rfl, rfl⟩
theorem c218_1 : q_cat 218 1 (.invokevirtual 215) 3 195 0 (0) := ⟨rfl, rfl⟩
theorem c218_4 : q_cat 218 4 (.invokevirtual 241) 3 98 0 (0) := ⟨rfl, rfl⟩
theorem c218_7 : q_cat 218 7 (.ireturn) 1 0 0 (0) := ⟨rfl, rfl⟩
theorem k218 {Γ : q_Γ} (hG : q_GG Γ) {h : q_F} (hZ : q_Bz h)   :
    q_M Γ q_K 155 218 [(2, Int.ofNat 0)] h (fun t w h' => (t = 1 ∧ (∃ z, w = ((0, z) : q_V)) ∧ q_Fr (fun k => k = 0 ∨ (6 ≤ k ∧ k ≤ 138)) h h')) := by
  have hT6 := q_hT6
  obtain ⟨fT6_0, fT6_1, fT6_2, fT6_3, fT6_4, fT6_5, fT6_6, fT6_7, fT6_8, fT6_9, fT6_10⟩ := q_fT hT6
  have hT15 := q_hT15
  obtain ⟨fT15_0, fT15_1, fT15_2, fT15_3, fT15_4, fT15_5, fT15_6, fT15_7, fT15_8, fT15_9, fT15_10⟩ := q_fT hT15
  have hT24 := q_hT24
  obtain ⟨fT24_0, fT24_1, fT24_2, fT24_3, fT24_4, fT24_5, fT24_6, fT24_7, fT24_8, fT24_9, fT24_10⟩ := q_fT hT24
  obtain ⟨gP0, gP1, gP2, gP3⟩ := q_fG q_hP
  refine q_M.of (by decide) (Nat.le_of_ble_eq_true rfl) hG ?_
  refine r_aload_n c218_0 rfl rfl ?_
  refine r_vcG c218_1 (by first | assumption | omega) (by decide) (by first | assumption | rfl) rfl rfl rfl (k195 hG (q_Fr.bz (S := fun k => k = 0 ∨ (6 ≤ k ∧ k ≤ 138)) hZ (by repeat (first | exact q_Fr.rf | refine q_Fr.ud ?_ (by omega) (by first | assumption | rfl) rfl | refine q_Fr.udz ?_ (by omega) (by first | assumption | decide | omega) | refine q_Fr.tr ?_ (by assumption) (by intro k9 hk9; omega))))) ?_
  intro t1 w1 g1 p1
  obtain ⟨rfl, rfl, e1⟩ := p1
  refine Or.inr (Or.inl ⟨rfl, ?_⟩)
  refine r_vcG c218_4 (by first | assumption | omega) (by decide) (by first | assumption | rfl) rfl rfl rfl (k98 hG (q_Fr.bz (S := fun k => k = 0 ∨ (6 ≤ k ∧ k ≤ 138)) hZ (by repeat (first | exact q_Fr.rf | refine q_Fr.ud ?_ (by omega) (by first | assumption | rfl) rfl | refine q_Fr.udz ?_ (by omega) (by first | assumption | decide | omega) | refine q_Fr.tr ?_ (by assumption) (by intro k9 hk9; omega))))) ?_
  intro t2 w2 g2 p2
  obtain ⟨rfl, ⟨z2, rfl⟩, rfl⟩ := p2
  refine Or.inr (Or.inl ⟨rfl, ?_⟩)
  exact r_iret c218_7 ⟨rfl, rfl, rfl⟩ ⟨rfl, ⟨_, rfl⟩, (by repeat (first | exact q_Fr.rf | refine q_Fr.ud ?_ (by omega) (by first | assumption | rfl) rfl | refine q_Fr.udz ?_ (by omega) (by first | assumption | decide | omega) | refine q_Fr.tr ?_ (by assumption) (by intro k9 hk9; omega)))⟩
theorem c160_0 : q_cat 160 0 (.aload_n 0) 1 0 0 (0) := ⟨rfl, rfl⟩
theorem c160_1 : q_cat 160 1 (.iload_n 1) 1 1 0 (0) := ⟨rfl, rfl⟩
theorem c160_2 : q_cat 160 2 (.invokevirtual 132) 3 162 0 (0) := ⟨rfl, rfl⟩
theorem c160_5 : q_cat 160 5 (.aload_n 0) 1 0 0 (0) := ⟨rfl, rfl⟩
theorem c160_6 : q_cat 160 6 (.iload_n 1) 1 1 0 (0) := ⟨rfl, rfl⟩
theorem c160_7 : q_cat 160 7 (.invokevirtual 146) 3 163 0 (0) := ⟨rfl, rfl⟩
theorem c160_10 : q_cat 160 10 (.aload_n 0) 1 0 0 (0) := ⟨rfl, rfl⟩
theorem c160_11 : q_cat 160 11 (.getfield 26) 3 8 2 (3) := ⟨rfl, rfl⟩
theorem c160_14 : q_cat 160 14 (.iload_n 1) 1 1 0 (0) := ⟨rfl, rfl⟩
theorem c160_15 : q_cat 160 15 (.invokevirtual 135) 3 125 0 (0) := ⟨rfl, rfl⟩
theorem c160_18 : q_cat 160 18 (.getfield 149) 3 1 12 (0) := ⟨rfl, rfl⟩
theorem c160_21 : q_cat 160 21 (.istore_n 3) 1 3 0 (0) := ⟨rfl, rfl⟩
theorem c160_22 : q_cat 160 22 (.iconst 0) 1 0 0 (0) := ⟨rfl, rfl⟩
theorem c160_23 : q_cat 160 23 (.istore 4) 2 4 0 (0) := ⟨rfl, rfl⟩
theorem c160_25 : q_cat 160 25 (.iload 4) 2 4 0 (0) := ⟨rfl, rfl⟩
theorem c160_27 : q_cat 160 27 (.aload_n 0) 1 0 0 (0) := ⟨rfl, rfl⟩
theorem c160_28 : q_cat 160 28 (.getfield 26) 3 8 2 (3) := ⟨rfl, rfl⟩
theorem c160_31 : q_cat 160 31 (.getfield 114) 3 6 3 (3) := ⟨rfl, rfl⟩
theorem c160_34 : q_cat 160 34 (.getfield 117) 3 7 1 (0) := ⟨rfl, rfl⟩
theorem c160_37 : q_cat 160 37 (.if_icmp .ge 44) 3 81 0 (0) := ⟨rfl, rfl⟩
theorem c160_40 : q_cat 160 40 (.aload_n 0) 1 0 0 (0) := ⟨rfl, rfl⟩
theorem c160_41 : q_cat 160 41 (.getfield 26) 3 8 2 (3) := ⟨rfl, rfl⟩
theorem c160_44 : q_cat 160 44 (.getfield 114) 3 6 3 (3) := ⟨rfl, rfl⟩
theorem c160_47 : q_cat 160 47 (.iload 4) 2 4 0 (0) := ⟨rfl, rfl⟩
theorem c160_49 : q_cat 160 49 (.iload_n 1) 1 1 0 (0) := ⟨rfl, rfl⟩
theorem c160_50 : q_cat 160 50 (.invokevirtual 244) 3 148 0 (0) := ⟨rfl, rfl⟩
theorem c160_53 : q_cat 160 53 (.istore 5) 2 5 0 (0) := ⟨rfl, rfl⟩
theorem c160_55 : q_cat 160 55 (.iload_n 2) 1 2 0 (0) := ⟨rfl, rfl⟩
theorem c160_56 : q_cat 160 56 (.ifCond .eq 12) 3 68 0 (0) := ⟨rfl, rfl⟩
theorem c160_59 : q_cat 160 59 (.iload_n 3) 1 3 0 (0) := ⟨rfl, rfl⟩
theorem c160_60 : q_cat 160 60 (.iload 5) 2 5 0 (0) := ⟨rfl, rfl⟩
theorem c160_62 : q_cat 160 62 (.invokestatic 280) 3 0 6 (0) := ⟨rfl, rfl⟩
theorem c160_65 : q_cat 160 65 (.goto 9) 3 74 0 (0) := ⟨rfl, rfl⟩
theorem c160_68 : q_cat 160 68 (.iload_n 3) 1 3 0 (0) := ⟨rfl, rfl⟩
theorem c160_69 : q_cat 160 69 (.iload 5) 2 5 0 (0) := ⟨rfl, rfl⟩
theorem c160_71 : q_cat 160 71 (.invokestatic 285) 3 0 7 (0) := ⟨rfl, rfl⟩
theorem c160_74 : q_cat 160 74 (.istore_n 3) 1 3 0 (0) := ⟨rfl, rfl⟩
theorem c160_75 : q_cat 160 75 (.iinc 4 1) 3 4 0 (0) := ⟨rfl, rfl⟩
theorem c160_78 : q_cat 160 78 (.goto (-53)) 3 25 0 (0) := ⟨rfl, rfl⟩
theorem c160_81 : q_cat 160 81 (.iload_n 3) 1 3 0 (0) := ⟨rfl, rfl⟩
theorem c160_82 : q_cat 160 82 (.ireturn) 1 0 0 (0) := ⟨rfl, rfl⟩
theorem l160_25 {Γ : q_Γ} (hG : q_GG Γ) {h0 : q_F} (hZ : q_Bz h0) {v1 : Int} {v2 : Int} {u1 : Int} {u2 : Int} (hz2 : v2 = 0 ∨ v2 = 1)
    (hx81 : ∀ {u4 u3 : Int} {h : q_F}, h = h0 → q_R Γ q_K 155 160 (fun t w h' => (t = 1 ∧ (∃ z, w = ((0, z) : q_V)) ∧ h' = h0) ∨ (t = 3 ∧ h' = h0) ∨ (t = 4 ∧ h' = h0)) (81, [(4, (0, u4)), (3, (0, u3)), (0, (2, Int.ofNat 0)), (1, (0, u1)), (2, (0, u2))], [], q_hp q_K 155 h, [], 2, 12))
    : ∀ (m : Nat) {u4 u3 : Int} {h : q_F}, (-2147483648 ≤ u4 ∧ u4 < 2147483648) → h = h0 → 2147483648 - u4 < (m : Int) → q_R Γ q_K 155 160 (fun t w h' => (t = 1 ∧ (∃ z, w = ((0, z) : q_V)) ∧ h' = h0) ∨ (t = 3 ∧ h' = h0) ∨ (t = 4 ∧ h' = h0)) (25, [(4, (0, u4)), (3, (0, u3)), (0, (2, Int.ofNat 0)), (1, (0, u1)), (2, (0, u2))], [], q_hp q_K 155 h, [], 2, 12)   := by
  have hT6 := q_hT6
  obtain ⟨fT6_0, fT6_1, fT6_2, fT6_3, fT6_4, fT6_5, fT6_6, fT6_7, fT6_8, fT6_9, fT6_10⟩ := q_fT hT6
  have hT15 := q_hT15
  obtain ⟨fT15_0, fT15_1, fT15_2, fT15_3, fT15_4, fT15_5, fT15_6, fT15_7, fT15_8, fT15_9, fT15_10⟩ := q_fT hT15
  have hT24 := q_hT24
  obtain ⟨fT24_0, fT24_1, fT24_2, fT24_3, fT24_4, fT24_5, fT24_6, fT24_7, fT24_8, fT24_9, fT24_10⟩ := q_fT hT24
  obtain ⟨gP0, gP1, gP2, gP3⟩ := q_fG q_hP
  intro m
  induction m with
  | zero =>
    intro u4 u3 h hinv hf hmu
    exact absurd hmu (by omega)
  | succ m ih =>
    intro u4 u3 h hinv hf hmu
    subst hf
    refine r_iload c160_25 rfl rfl ?_
    refine r_aload_n c160_27 rfl rfl ?_
    refine r_getr c160_28 (by first | assumption | omega) (by decide) (by first | assumption | rfl) rfl rfl ?_
    refine r_getr c160_31 (by first | assumption | omega) (by decide) (by first | assumption | rfl) rfl rfl ?_
    refine r_geti c160_34 (by first | assumption | omega) (by decide) (by first | assumption | rfl) rfl rfl ?_
    refine r_ic_ge c160_37 rfl (by first | exact q_w32_id (by omega) (by omega) | exact q_w32w _ | exact rfl) (by first | exact q_w32_id (by omega) (by omega) | exact q_w32w _ | exact rfl) ?_ ?_
    · intro b4
      refine q_R.wk (ks := [4, 3, 0, 1, 2]) (lo' := [(4, _), (3, _), (0, _), (1, _), (2, _)]) rfl ?_
      exact hx81 rfl
    · intro b4
      refine r_aload_n c160_40 rfl rfl ?_
      refine r_getr c160_41 (by first | assumption | omega) (by decide) (by first | assumption | rfl) rfl rfl ?_
      refine r_getr c160_44 (by first | assumption | omega) (by decide) (by first | assumption | rfl) rfl rfl ?_
      refine r_iload c160_47 rfl rfl ?_
      refine r_iload_n c160_49 rfl rfl ?_
      refine r_vcG c160_50 (by first | assumption | omega) (by decide) (by first | assumption | rfl) rfl rfl rfl (k148 hG hZ (by first | assumption | exact q_hC (by assumption) | exact q_h1 (by assumption) | exact q_h3 (by assumption) | exact q_h5 (by assumption) | exact q_hG (by assumption) | exact q_hP | exact q_hB1 | exact q_hB2 | exact q_hT6 | exact q_hT15 | exact q_hT24)) ?_
      intro t5 w5 g5 p5
      obtain ⟨rfl, ⟨z5, rfl⟩, rfl⟩ := p5
      refine Or.inr (Or.inl ⟨rfl, ?_⟩)
      refine r_istore c160_53 (lo' := [(5, _), (4, _), (3, _), (0, _), (1, _), (2, _)]) rfl rfl rfl ?_
      refine r_iload_n c160_55 rfl rfl ?_
      refine r_if_eq c160_56 rfl (by first | exact q_w32_id (by omega) (by omega) | exact q_w32w _ | exact rfl) ?_ ?_
      · intro b6
        refine r_iload_n c160_68 rfl rfl ?_
        refine r_iload c160_69 rfl rfl ?_
        refine r_min c160_71 rfl rfl ?_
        refine r_istore_n c160_74 (lo' := [(3, _), (5, _), (4, _), (0, _), (1, _), (2, _)]) rfl rfl rfl ?_
        refine r_iinc c160_75 rfl (by first | exact q_w32_id (by omega) (by omega) | exact q_w32w _ | exact rfl) (lo' := [(4, _), (3, _), (5, _), (0, _), (1, _), (2, _)]) rfl rfl rfl ?_
        refine r_goto c160_78 ?_
        refine q_R.wk (ks := [4, 3, 0, 1, 2]) (lo' := [(4, _), (3, _), (0, _), (1, _), (2, _)]) rfl ?_
        exact ih (by first | omega | exact ⟨q_rg1 _, q_rg2 _⟩) rfl (by omega)
      · intro b6
        refine r_iload_n c160_59 rfl rfl ?_
        refine r_iload c160_60 rfl rfl ?_
        refine r_max c160_62 rfl rfl ?_
        refine r_goto c160_65 ?_
        refine r_istore_n c160_74 (lo' := [(3, _), (5, _), (4, _), (0, _), (1, _), (2, _)]) rfl rfl rfl ?_
        refine r_iinc c160_75 rfl (by first | exact q_w32_id (by omega) (by omega) | exact q_w32w _ | exact rfl) (lo' := [(4, _), (3, _), (5, _), (0, _), (1, _), (2, _)]) rfl rfl rfl ?_
        refine r_goto c160_78 ?_
        refine q_R.wk (ks := [4, 3, 0, 1, 2]) (lo' := [(4, _), (3, _), (0, _), (1, _), (2, _)]) rfl ?_
        exact ih (by first | omega | exact ⟨q_rg1 _, q_rg2 _⟩) rfl (by omega)

theorem k160 {Γ : q_Γ} (hG : q_GG Γ) {h : q_F} (hZ : q_Bz h) {v1 : Int} {v2 : Int} (hz2 : v2 = 0 ∨ v2 = 1) :
    q_M Γ q_K 155 160 [(2, Int.ofNat 0), (0, v1), (0, v2)] h (fun t w h' => (t = 1 ∧ (∃ z, w = ((0, z) : q_V)) ∧ h' = h) ∨ (t = 3 ∧ h' = h) ∨ (t = 4 ∧ h' = h)) := by
  have hT6 := q_hT6
  obtain ⟨fT6_0, fT6_1, fT6_2, fT6_3, fT6_4, fT6_5, fT6_6, fT6_7, fT6_8, fT6_9, fT6_10⟩ := q_fT hT6
  have hT15 := q_hT15
  obtain ⟨fT15_0, fT15_1, fT15_2, fT15_3, fT15_4, fT15_5, fT15_6, fT15_7, fT15_8, fT15_9, fT15_10⟩ := q_fT hT15
  have hT24 := q_hT24
  obtain ⟨fT24_0, fT24_1, fT24_2, fT24_3, fT24_4, fT24_5, fT24_6, fT24_7, fT24_8, fT24_9, fT24_10⟩ := q_fT hT24
  obtain ⟨gP0, gP1, gP2, gP3⟩ := q_fG q_hP
  refine q_M.of (by decide) (Nat.le_of_ble_eq_true rfl) hG ?_
  refine r_aload_n c160_0 rfl rfl ?_
  refine r_iload_n c160_1 rfl rfl ?_
  refine r_vcG c160_2 (by first | assumption | omega) (by decide) (by first | assumption | rfl) rfl rfl rfl (k162 hG hZ) ?_
  intro t1 w1 g1 p1
  rcases p1 with ⟨rfl, rfl⟩ | ⟨rfl, rfl⟩
  · skip
    refine Or.inl ⟨rfl, ?_⟩
    refine r_aload_n c160_5 rfl rfl ?_
    refine r_iload_n c160_6 rfl rfl ?_
    refine r_vcG c160_7 (by first | assumption | omega) (by decide) (by first | assumption | rfl) rfl rfl rfl (k163 hG hZ) ?_
    intro t2 w2 g2 p2
    rcases p2 with ⟨rfl, rfl⟩ | ⟨rfl, rfl⟩
    · skip
      refine Or.inl ⟨rfl, ?_⟩
      refine r_aload_n c160_10 rfl rfl ?_
      refine r_getr c160_11 (by first | assumption | omega) (by decide) (by first | assumption | rfl) rfl rfl ?_
      refine r_iload_n c160_14 rfl rfl ?_
      refine r_vcG c160_15 (by first | assumption | omega) (by decide) (by first | assumption | rfl) rfl rfl rfl (k125 hG hZ (by first | assumption | exact q_hC (by assumption) | exact q_h1 (by assumption) | exact q_h3 (by assumption) | exact q_h5 (by assumption) | exact q_hG (by assumption) | exact q_hP | exact q_hB1 | exact q_hB2 | exact q_hT6 | exact q_hT15 | exact q_hT24)) ?_
      intro t3 w3 g3 p3
      obtain ⟨rfl, ⟨r3, rfl, ha3, hr3⟩, rfl⟩ := p3
      obtain ⟨fr30, fr31, fr32, fr33⟩ := q_fA ha3
      refine Or.inr (Or.inl ⟨rfl, ?_⟩)
      refine r_geti c160_18 (by first | assumption | omega) (by decide) (by first | assumption | rfl) rfl rfl ?_
      refine r_istore_n c160_21 (lo' := [(3, _), (0, _), (1, _), (2, _)]) rfl rfl rfl ?_
      refine r_iconst c160_22 rfl ?_
      refine r_istore c160_23 (lo' := [(4, _), (3, _), (0, _), (1, _), (2, _)]) rfl rfl rfl ?_
      refine q_R.wk (ks := [4, 3, 0, 1, 2]) (lo' := [(4, _), (3, _), (0, _), (1, _), (2, _)]) rfl ?_
      refine l160_25 (v1 := v1) (v2 := v2) hG hZ hz2 ?_ 4294967298 (by first | omega | exact ⟨q_rg1 _, q_rg2 _⟩) rfl (q_mu (by first | omega | exact ⟨q_rg1 _, q_rg2 _⟩))
      · intro u4_4 u3_4 g4 f4
        subst f4
        refine r_iload_n c160_81 rfl rfl ?_
        exact r_iret c160_82 ⟨rfl, rfl, rfl⟩ (Or.inl ⟨rfl, ⟨_, rfl⟩, rfl⟩)
    · refine Or.inr (Or.inr ⟨2, rfl, ?_⟩)
      exact Or.inr ⟨rfl, (Or.inr (Or.inr (⟨rfl, rfl⟩)))⟩
  · refine Or.inr (Or.inr ⟨1, rfl, ?_⟩)
    exact Or.inr ⟨rfl, (Or.inr (Or.inl ⟨rfl, rfl⟩))⟩
theorem c192_0 : q_cat 192 0 (.aload_n 0) 1 0 0 (0) := ⟨rfl, rfl⟩
theorem c192_1 : q_cat 192 1 (.getfield 26) 3 8 2 (3) := ⟨rfl, rfl⟩
theorem c192_4 : q_cat 192 4 (.getfield 114) 3 6 3 (3) := ⟨rfl, rfl⟩
theorem c192_7 : q_cat 192 7 (.iload_n 1) 1 1 0 (0) := ⟨rfl, rfl⟩
theorem c192_8 : q_cat 192 8 (.iload_n 2) 1 2 0 (0) := ⟨rfl, rfl⟩
theorem c192_9 : q_cat 192 9 (.iload_n 3) 1 3 0 (0) := ⟨rfl, rfl⟩
theorem c192_10 : q_cat 192 10 (.iconst 0) 1 0 0 (0) := ⟨rfl, rfl⟩
theorem c192_11 : q_cat 192 11 (.invokevirtual 288) 3 151 0 (0) := ⟨rfl, rfl⟩
theorem c192_14 : q_cat 192 14 (.ireturn) 1 0 0 (0) := ⟨rfl, rfl⟩
theorem k192 {Γ : q_Γ} (hG : q_GG Γ) {h : q_F} (hZ : q_Bz h) {v1 : Int} {v2 : Int} {v3 : Int}  :
    q_M Γ q_K 155 192 [(2, Int.ofNat 0), (0, v1), (0, v2), (0, v3)] h (fun t w h' => (t = 1 ∧ (∃ z, w = ((0, z) : q_V)) ∧ h' = h)) := by
  have hT6 := q_hT6
  obtain ⟨fT6_0, fT6_1, fT6_2, fT6_3, fT6_4, fT6_5, fT6_6, fT6_7, fT6_8, fT6_9, fT6_10⟩ := q_fT hT6
  have hT15 := q_hT15
  obtain ⟨fT15_0, fT15_1, fT15_2, fT15_3, fT15_4, fT15_5, fT15_6, fT15_7, fT15_8, fT15_9, fT15_10⟩ := q_fT hT15
  have hT24 := q_hT24
  obtain ⟨fT24_0, fT24_1, fT24_2, fT24_3, fT24_4, fT24_5, fT24_6, fT24_7, fT24_8, fT24_9, fT24_10⟩ := q_fT hT24
  obtain ⟨gP0, gP1, gP2, gP3⟩ := q_fG q_hP
  refine q_M.of (by decide) (Nat.le_of_ble_eq_true rfl) hG ?_
  refine r_aload_n c192_0 rfl rfl ?_
  refine r_getr c192_1 (by first | assumption | omega) (by decide) (by first | assumption | rfl) rfl rfl ?_
  refine r_getr c192_4 (by first | assumption | omega) (by decide) (by first | assumption | rfl) rfl rfl ?_
  refine r_iload_n c192_7 rfl rfl ?_
  refine r_iload_n c192_8 rfl rfl ?_
  refine r_iload_n c192_9 rfl rfl ?_
  refine r_iconst c192_10 rfl ?_
  refine r_vcG c192_11 (by first | assumption | omega) (by decide) (by first | assumption | rfl) rfl rfl rfl (k151 hG hZ (by first | assumption | exact q_hC (by assumption) | exact q_h1 (by assumption) | exact q_h3 (by assumption) | exact q_h5 (by assumption) | exact q_hG (by assumption) | exact q_hP | exact q_hB1 | exact q_hB2 | exact q_hT6 | exact q_hT15 | exact q_hT24)) ?_
  intro t1 w1 g1 p1
  obtain ⟨rfl, ⟨z1, rfl⟩, rfl⟩ := p1
  refine Or.inr (Or.inl ⟨rfl, ?_⟩)
  exact r_iret c192_14 ⟨rfl, rfl, rfl⟩ ⟨rfl, ⟨_, rfl⟩, rfl⟩
theorem c193_0 : q_cat 193 0 (.iload_n 1) 1 1 0 (0) := ⟨rfl, rfl⟩
theorem c193_1 : q_cat 193 1 (.ifCond .lt 17) 3 18 0 (0) := ⟨rfl, rfl⟩
theorem c193_4 : q_cat 193 4 (.iload_n 1) 1 1 0 (0) := ⟨rfl, rfl⟩
theorem c193_5 : q_cat 193 5 (.aload_n 0) 1 0 0 (0) := ⟨rfl, rfl⟩
theorem c193_6 : q_cat 193 6 (.getfield 26) 3 8 2 (3) := ⟨rfl, rfl⟩
theorem c193_9 : q_cat 193 9 (.getfield 114) 3 6 3 (3) := ⟨rfl, rfl⟩
theorem c193_12 : q_cat 193 12 (.getfield 117) 3 7 1 (0) := ⟨rfl, rfl⟩
theorem c193_15 : q_cat 193 15 (.if_icmp .lt 14) 3 29 0 (0) := ⟨rfl, rfl⟩
theorem c193_18 : q_cat 193 18 (.new 203) 3 3 208 (292) := ⟨rfl, rfl⟩
theorem c193_21 : q_cat 193 21 (.dup) 1 0 0 (0) := ⟨rfl, rfl⟩
theorem c193_22 : q_cat 193 22 (.ldc_w 292) 3 0 0 (0) := ⟨rfl, rfl⟩
theorem c193_29 : q_cat 193 29 (.iconst 0) 1 0 0 (0) := ⟨rfl, rfl⟩
theorem c193_30 : q_cat 193 30 (.istore_n 2) 1 2 0 (0) := ⟨rfl, rfl⟩
theorem c193_31 : q_cat 193 31 (.aload_n 0) 1 0 0 (0) := ⟨rfl, rfl⟩
theorem c193_32 : q_cat 193 32 (.getfield 26) 3 8 2 (3) := ⟨rfl, rfl⟩
theorem c193_35 : q_cat 193 35 (.getfield 114) 3 6 3 (3) := ⟨rfl, rfl⟩
theorem c193_38 : q_cat 193 38 (.aload_n 0) 1 0 0 (0) := ⟨rfl, rfl⟩
theorem c193_39 : q_cat 193 39 (.getfield 26) 3 8 2 (3) := ⟨rfl, rfl⟩
theorem c193_42 : q_cat 193 42 (.getfield 86) 3 6 0 (3) := ⟨rfl, rfl⟩
theorem c193_45 : q_cat 193 45 (.getfield 149) 3 1 12 (0) := ⟨rfl, rfl⟩
theorem c193_48 : q_cat 193 48 (.aload_n 0) 1 0 0 (0) := ⟨rfl, rfl⟩
theorem c193_49 : q_cat 193 49 (.getfield 26) 3 8 2 (3) := ⟨rfl, rfl⟩
theorem c193_52 : q_cat 193 52 (.getfield 93) 3 6 1 (3) := ⟨rfl, rfl⟩
theorem c193_55 : q_cat 193 55 (.getfield 149) 3 1 12 (0) := ⟨rfl, rfl⟩
theorem c193_58 : q_cat 193 58 (.aload_n 0) 1 0 0 (0) := ⟨rfl, rfl⟩
theorem c193_59 : q_cat 193 59 (.getfield 26) 3 8 2 (3) := ⟨rfl, rfl⟩
theorem c193_62 : q_cat 193 62 (.getfield 96) 3 6 2 (3) := ⟨rfl, rfl⟩
theorem c193_65 : q_cat 193 65 (.getfield 149) 3 1 12 (0) := ⟨rfl, rfl⟩
theorem c193_68 : q_cat 193 68 (.iconst 0) 1 0 0 (0) := ⟨rfl, rfl⟩
theorem c193_69 : q_cat 193 69 (.invokevirtual 288) 3 151 0 (0) := ⟨rfl, rfl⟩
theorem c193_72 : q_cat 193 72 (.istore_n 3) 1 3 0 (0) := ⟨rfl, rfl⟩
theorem c193_73 : q_cat 193 73 (.iconst 0) 1 0 0 (0) := ⟨rfl, rfl⟩
theorem c193_74 : q_cat 193 74 (.istore 4) 2 4 0 (0) := ⟨rfl, rfl⟩
theorem c193_76 : q_cat 193 76 (.iload 4) 2 4 0 (0) := ⟨rfl, rfl⟩
theorem c193_78 : q_cat 193 78 (.iload_n 1) 1 1 0 (0) := ⟨rfl, rfl⟩
theorem c193_79 : q_cat 193 79 (.if_icmp .ge 63) 3 142 0 (0) := ⟨rfl, rfl⟩
theorem c193_82 : q_cat 193 82 (.iload_n 2) 1 2 0 (0) := ⟨rfl, rfl⟩
theorem c193_83 : q_cat 193 83 (.iconst 1) 1 0 0 (0) := ⟨rfl, rfl⟩
theorem c193_84 : q_cat 193 84 (.iload_n 3) 1 3 0 (0) := ⟨rfl, rfl⟩
theorem c193_85 : q_cat 193 85 (.ishl) 1 0 0 (0) := ⟨rfl, rfl⟩
theorem c193_86 : q_cat 193 86 (.ior) 1 0 0 (0) := ⟨rfl, rfl⟩
theorem c193_87 : q_cat 193 87 (.istore_n 2) 1 2 0 (0) := ⟨rfl, rfl⟩
theorem c193_88 : q_cat 193 88 (.aload_n 0) 1 0 0 (0) := ⟨rfl, rfl⟩
theorem c193_89 : q_cat 193 89 (.getfield 26) 3 8 2 (3) := ⟨rfl, rfl⟩
theorem c193_92 : q_cat 193 92 (.getfield 114) 3 6 3 (3) := ⟨rfl, rfl⟩
theorem c193_95 : q_cat 193 95 (.aload_n 0) 1 0 0 (0) := ⟨rfl, rfl⟩
theorem c193_96 : q_cat 193 96 (.getfield 26) 3 8 2 (3) := ⟨rfl, rfl⟩
theorem c193_99 : q_cat 193 99 (.getfield 114) 3 6 3 (3) := ⟨rfl, rfl⟩
theorem c193_102 : q_cat 193 102 (.iload_n 3) 1 3 0 (0) := ⟨rfl, rfl⟩
theorem c193_103 : q_cat 193 103 (.iconst 0) 1 0 0 (0) := ⟨rfl, rfl⟩
theorem c193_104 : q_cat 193 104 (.invokevirtual 244) 3 148 0 (0) := ⟨rfl, rfl⟩
theorem c193_107 : q_cat 193 107 (.aload_n 0) 1 0 0 (0) := ⟨rfl, rfl⟩
theorem c193_108 : q_cat 193 108 (.getfield 26) 3 8 2 (3) := ⟨rfl, rfl⟩
theorem c193_111 : q_cat 193 111 (.getfield 114) 3 6 3 (3) := ⟨rfl, rfl⟩
theorem c193_114 : q_cat 193 114 (.iload_n 3) 1 3 0 (0) := ⟨rfl, rfl⟩
theorem c193_115 : q_cat 193 115 (.iconst 1) 1 0 0 (0) := ⟨rfl, rfl⟩
theorem c193_116 : q_cat 193 116 (.invokevirtual 244) 3 148 0 (0) := ⟨rfl, rfl⟩
theorem c193_119 : q_cat 193 119 (.aload_n 0) 1 0 0 (0) := ⟨rfl, rfl⟩
theorem c193_120 : q_cat 193 120 (.getfield 26) 3 8 2 (3) := ⟨rfl, rfl⟩
theorem c193_123 : q_cat 193 123 (.getfield 114) 3 6 3 (3) := ⟨rfl, rfl⟩
theorem c193_126 : q_cat 193 126 (.iload_n 3) 1 3 0 (0) := ⟨rfl, rfl⟩
theorem c193_127 : q_cat 193 127 (.iconst 2) 1 0 0 (0) := ⟨rfl, rfl⟩
theorem c193_128 : q_cat 193 128 (.invokevirtual 244) 3 148 0 (0) := ⟨rfl, rfl⟩
theorem c193_131 : q_cat 193 131 (.iload_n 2) 1 2 0 (0) := ⟨rfl, rfl⟩
theorem c193_132 : q_cat 193 132 (.invokevirtual 288) 3 151 0 (0) := ⟨rfl, rfl⟩
theorem c193_135 : q_cat 193 135 (.istore_n 3) 1 3 0 (0) := ⟨rfl, rfl⟩
theorem c193_136 : q_cat 193 136 (.iinc 4 1) 3 4 0 (0) := ⟨rfl, rfl⟩
theorem c193_139 : q_cat 193 139 (.goto (-63)) 3 76 0 (0) := ⟨rfl, rfl⟩
theorem c193_142 : q_cat 193 142 (.iload_n 3) 1 3 0 (0) := ⟨rfl, rfl⟩
theorem c193_143 : q_cat 193 143 (.ireturn) 1 0 0 (0) := ⟨rfl, rfl⟩
theorem l193_76 {Γ : q_Γ} (hG : q_GG Γ) {h0 : q_F} (hZ : q_Bz h0) {v1 : Int} {u1 : Int} 
    (hx142 : ∀ {u4 u3 u2 : Int} {h : q_F}, h = h0 → q_R Γ q_K 155 193 (fun t w h' => (t = 1 ∧ (∃ z, w = ((0, z) : q_V)) ∧ h' = h0) ∨ (t = 5 ∧ h' = h0)) (142, [(4, (0, u4)), (3, (0, u3)), (2, (0, u2)), (0, (2, Int.ofNat 0)), (1, (0, u1))], [], q_hp q_K 155 h, [], 0, 0))
    : ∀ (m : Nat) {u4 u3 u2 : Int} {h : q_F}, (-2147483648 ≤ u4 ∧ u4 < 2147483648) → h = h0 → 2147483648 - u4 < (m : Int) → q_R Γ q_K 155 193 (fun t w h' => (t = 1 ∧ (∃ z, w = ((0, z) : q_V)) ∧ h' = h0) ∨ (t = 5 ∧ h' = h0)) (76, [(4, (0, u4)), (3, (0, u3)), (2, (0, u2)), (0, (2, Int.ofNat 0)), (1, (0, u1))], [], q_hp q_K 155 h, [], 0, 0)   := by
  have hT6 := q_hT6
  obtain ⟨fT6_0, fT6_1, fT6_2, fT6_3, fT6_4, fT6_5, fT6_6, fT6_7, fT6_8, fT6_9, fT6_10⟩ := q_fT hT6
  have hT15 := q_hT15
  obtain ⟨fT15_0, fT15_1, fT15_2, fT15_3, fT15_4, fT15_5, fT15_6, fT15_7, fT15_8, fT15_9, fT15_10⟩ := q_fT hT15
  have hT24 := q_hT24
  obtain ⟨fT24_0, fT24_1, fT24_2, fT24_3, fT24_4, fT24_5, fT24_6, fT24_7, fT24_8, fT24_9, fT24_10⟩ := q_fT hT24
  obtain ⟨gP0, gP1, gP2, gP3⟩ := q_fG q_hP
  intro m
  induction m with
  | zero =>
    intro u4 u3 u2 h hinv hf hmu
    exact absurd hmu (by omega)
  | succ m ih =>
    intro u4 u3 u2 h hinv hf hmu
    subst hf
    refine r_iload c193_76 rfl rfl ?_
    refine r_iload_n c193_78 rfl rfl ?_
    refine r_ic_ge c193_79 rfl (by first | exact q_w32_id (by omega) (by omega) | exact q_w32w _ | exact rfl) (by first | exact q_w32_id (by omega) (by omega) | exact q_w32w _ | exact rfl) ?_ ?_
    · intro b4
      refine q_R.wk (ks := [4, 3, 2, 0, 1]) (lo' := [(4, _), (3, _), (2, _), (0, _), (1, _)]) rfl ?_
      exact hx142 rfl
    · intro b4
      refine r_iload_n c193_82 rfl rfl ?_
      refine r_iconst c193_83 rfl ?_
      refine r_iload_n c193_84 rfl rfl ?_
      refine r_ishl c193_85 rfl rfl ?_
      refine r_ior c193_86 rfl rfl ?_
      refine r_istore_n c193_87 (lo' := [(2, _), (4, _), (3, _), (0, _), (1, _)]) rfl rfl rfl ?_
      refine r_aload_n c193_88 rfl rfl ?_
      refine r_getr c193_89 (by first | assumption | omega) (by decide) (by first | assumption | rfl) rfl rfl ?_
      refine r_getr c193_92 (by first | assumption | omega) (by decide) (by first | assumption | rfl) rfl rfl ?_
      refine r_aload_n c193_95 rfl rfl ?_
      refine r_getr c193_96 (by first | assumption | omega) (by decide) (by first | assumption | rfl) rfl rfl ?_
      refine r_getr c193_99 (by first | assumption | omega) (by decide) (by first | assumption | rfl) rfl rfl ?_
      refine r_iload_n c193_102 rfl rfl ?_
      refine r_iconst c193_103 rfl ?_
      refine r_vcG c193_104 (by first | assumption | omega) (by decide) (by first | assumption | rfl) rfl rfl rfl (k148 hG hZ (by first | assumption | exact q_hC (by assumption) | exact q_h1 (by assumption) | exact q_h3 (by assumption) | exact q_h5 (by assumption) | exact q_hG (by assumption) | exact q_hP | exact q_hB1 | exact q_hB2 | exact q_hT6 | exact q_hT15 | exact q_hT24)) ?_
      intro t5 w5 g5 p5
      obtain ⟨rfl, ⟨z5, rfl⟩, rfl⟩ := p5
      refine Or.inr (Or.inl ⟨rfl, ?_⟩)
      refine r_aload_n c193_107 rfl rfl ?_
      refine r_getr c193_108 (by first | assumption | omega) (by decide) (by first | assumption | rfl) rfl rfl ?_
      refine r_getr c193_111 (by first | assumption | omega) (by decide) (by first | assumption | rfl) rfl rfl ?_
      refine r_iload_n c193_114 rfl rfl ?_
      refine r_iconst c193_115 rfl ?_
      refine r_vcG c193_116 (by first | assumption | omega) (by decide) (by first | assumption | rfl) rfl rfl rfl (k148 hG hZ (by first | assumption | exact q_hC (by assumption) | exact q_h1 (by assumption) | exact q_h3 (by assumption) | exact q_h5 (by assumption) | exact q_hG (by assumption) | exact q_hP | exact q_hB1 | exact q_hB2 | exact q_hT6 | exact q_hT15 | exact q_hT24)) ?_
      intro t6 w6 g6 p6
      obtain ⟨rfl, ⟨z6, rfl⟩, rfl⟩ := p6
      refine Or.inr (Or.inl ⟨rfl, ?_⟩)
      refine r_aload_n c193_119 rfl rfl ?_
      refine r_getr c193_120 (by first | assumption | omega) (by decide) (by first | assumption | rfl) rfl rfl ?_
      refine r_getr c193_123 (by first | assumption | omega) (by decide) (by first | assumption | rfl) rfl rfl ?_
      refine r_iload_n c193_126 rfl rfl ?_
      refine r_iconst c193_127 rfl ?_
      refine r_vcG c193_128 (by first | assumption | omega) (by decide) (by first | assumption | rfl) rfl rfl rfl (k148 hG hZ (by first | assumption | exact q_hC (by assumption) | exact q_h1 (by assumption) | exact q_h3 (by assumption) | exact q_h5 (by assumption) | exact q_hG (by assumption) | exact q_hP | exact q_hB1 | exact q_hB2 | exact q_hT6 | exact q_hT15 | exact q_hT24)) ?_
      intro t7 w7 g7 p7
      obtain ⟨rfl, ⟨z7, rfl⟩, rfl⟩ := p7
      refine Or.inr (Or.inl ⟨rfl, ?_⟩)
      refine r_iload_n c193_131 rfl rfl ?_
      refine r_vcG c193_132 (by first | assumption | omega) (by decide) (by first | assumption | rfl) rfl rfl rfl (k151 hG hZ (by first | assumption | exact q_hC (by assumption) | exact q_h1 (by assumption) | exact q_h3 (by assumption) | exact q_h5 (by assumption) | exact q_hG (by assumption) | exact q_hP | exact q_hB1 | exact q_hB2 | exact q_hT6 | exact q_hT15 | exact q_hT24)) ?_
      intro t8 w8 g8 p8
      obtain ⟨rfl, ⟨z8, rfl⟩, rfl⟩ := p8
      refine Or.inr (Or.inl ⟨rfl, ?_⟩)
      refine r_istore_n c193_135 (lo' := [(3, _), (2, _), (4, _), (0, _), (1, _)]) rfl rfl rfl ?_
      refine r_iinc c193_136 rfl (by first | exact q_w32_id (by omega) (by omega) | exact q_w32w _ | exact rfl) (lo' := [(4, _), (3, _), (2, _), (0, _), (1, _)]) rfl rfl rfl ?_
      refine r_goto c193_139 ?_
      refine q_R.wk (ks := [4, 3, 2, 0, 1]) (lo' := [(4, _), (3, _), (2, _), (0, _), (1, _)]) rfl ?_
      exact ih (by first | omega | exact ⟨q_rg1 _, q_rg2 _⟩) rfl (by omega)

theorem k193 {Γ : q_Γ} (hG : q_GG Γ) {h : q_F} (hZ : q_Bz h) {v1 : Int}  :
    q_M Γ q_K 155 193 [(2, Int.ofNat 0), (0, v1)] h (fun t w h' => (t = 1 ∧ (∃ z, w = ((0, z) : q_V)) ∧ h' = h) ∨ (t = 5 ∧ h' = h)) := by
  have hT6 := q_hT6
  obtain ⟨fT6_0, fT6_1, fT6_2, fT6_3, fT6_4, fT6_5, fT6_6, fT6_7, fT6_8, fT6_9, fT6_10⟩ := q_fT hT6
  have hT15 := q_hT15
  obtain ⟨fT15_0, fT15_1, fT15_2, fT15_3, fT15_4, fT15_5, fT15_6, fT15_7, fT15_8, fT15_9, fT15_10⟩ := q_fT hT15
  have hT24 := q_hT24
  obtain ⟨fT24_0, fT24_1, fT24_2, fT24_3, fT24_4, fT24_5, fT24_6, fT24_7, fT24_8, fT24_9, fT24_10⟩ := q_fT hT24
  obtain ⟨gP0, gP1, gP2, gP3⟩ := q_fG q_hP
  refine q_M.of (by decide) (Nat.le_of_ble_eq_true rfl) hG ?_
  refine r_iload_n c193_0 rfl rfl ?_
  refine r_if_lt c193_1 rfl (by first | exact q_w32_id (by omega) (by omega) | exact q_w32w _ | exact rfl) ?_ ?_
  · intro b1
    exact r_thr (y := 207) c193_18 rfl (Or.inr (⟨rfl, rfl⟩))
  · intro b1
    refine r_iload_n c193_4 rfl rfl ?_
    refine r_aload_n c193_5 rfl rfl ?_
    refine r_getr c193_6 (by first | assumption | omega) (by decide) (by first | assumption | rfl) rfl rfl ?_
    refine r_getr c193_9 (by first | assumption | omega) (by decide) (by first | assumption | rfl) rfl rfl ?_
    refine r_geti c193_12 (by first | assumption | omega) (by decide) (by first | assumption | rfl) rfl rfl ?_
    refine r_ic_lt c193_15 rfl (by first | exact q_w32_id (by omega) (by omega) | exact q_w32w _ | exact rfl) (by first | exact q_w32_id (by omega) (by omega) | exact q_w32w _ | exact rfl) ?_ ?_
    · intro b2
      refine r_iconst c193_29 rfl ?_
      refine r_istore_n c193_30 (lo' := [(2, _), (0, _), (1, _)]) rfl rfl rfl ?_
      refine r_aload_n c193_31 rfl rfl ?_
      refine r_getr c193_32 (by first | assumption | omega) (by decide) (by first | assumption | rfl) rfl rfl ?_
      refine r_getr c193_35 (by first | assumption | omega) (by decide) (by first | assumption | rfl) rfl rfl ?_
      refine r_aload_n c193_38 rfl rfl ?_
      refine r_getr c193_39 (by first | assumption | omega) (by decide) (by first | assumption | rfl) rfl rfl ?_
      refine r_getr c193_42 (by first | assumption | omega) (by decide) (by first | assumption | rfl) rfl rfl ?_
      refine r_geti c193_45 (by first | assumption | omega) (by decide) (by first | assumption | rfl) rfl rfl ?_
      refine r_aload_n c193_48 rfl rfl ?_
      refine r_getr c193_49 (by first | assumption | omega) (by decide) (by first | assumption | rfl) rfl rfl ?_
      refine r_getr c193_52 (by first | assumption | omega) (by decide) (by first | assumption | rfl) rfl rfl ?_
      refine r_geti c193_55 (by first | assumption | omega) (by decide) (by first | assumption | rfl) rfl rfl ?_
      refine r_aload_n c193_58 rfl rfl ?_
      refine r_getr c193_59 (by first | assumption | omega) (by decide) (by first | assumption | rfl) rfl rfl ?_
      refine r_getr c193_62 (by first | assumption | omega) (by decide) (by first | assumption | rfl) rfl rfl ?_
      refine r_geti c193_65 (by first | assumption | omega) (by decide) (by first | assumption | rfl) rfl rfl ?_
      refine r_iconst c193_68 rfl ?_
      refine r_vcG c193_69 (by first | assumption | omega) (by decide) (by first | assumption | rfl) rfl rfl rfl (k151 hG hZ (by first | assumption | exact q_hC (by assumption) | exact q_h1 (by assumption) | exact q_h3 (by assumption) | exact q_h5 (by assumption) | exact q_hG (by assumption) | exact q_hP | exact q_hB1 | exact q_hB2 | exact q_hT6 | exact q_hT15 | exact q_hT24)) ?_
      intro t3 w3 g3 p3
      obtain ⟨rfl, ⟨z3, rfl⟩, rfl⟩ := p3
      refine Or.inr (Or.inl ⟨rfl, ?_⟩)
      refine r_istore_n c193_72 (lo' := [(3, _), (2, _), (0, _), (1, _)]) rfl rfl rfl ?_
      refine r_iconst c193_73 rfl ?_
      refine r_istore c193_74 (lo' := [(4, _), (3, _), (2, _), (0, _), (1, _)]) rfl rfl rfl ?_
      refine q_R.wk (ks := [4, 3, 2, 0, 1]) (lo' := [(4, _), (3, _), (2, _), (0, _), (1, _)]) rfl ?_
      refine l193_76 (v1 := v1) hG hZ  ?_ 4294967298 (by first | omega | exact ⟨q_rg1 _, q_rg2 _⟩) rfl (q_mu (by first | omega | exact ⟨q_rg1 _, q_rg2 _⟩))
      · intro u4_4 u3_4 u2_4 g4 f4
        subst f4
        refine r_iload_n c193_142 rfl rfl ?_
        exact r_iret c193_143 ⟨rfl, rfl, rfl⟩ (Or.inl ⟨rfl, ⟨_, rfl⟩, rfl⟩)
    · intro b2
      exact r_thr (y := 207) c193_18 rfl (Or.inr (⟨rfl, rfl⟩))
theorem c185_0 : q_cat 185 0 (.aload_n 0) 1 0 0 (0) := ⟨rfl, rfl⟩
theorem c185_1 : q_cat 185 1 (.iload_n 1) 1 1 0 (0) := ⟨rfl, rfl⟩
theorem c185_2 : q_cat 185 2 (.invokevirtual 235) 3 164 0 (0) := ⟨rfl, rfl⟩
theorem c185_5 : q_cat 185 5 (.aload_n 0) 1 0 0 (0) := ⟨rfl, rfl⟩
theorem c185_6 : q_cat 185 6 (.invokevirtual 215) 3 195 0 (0) := ⟨rfl, rfl⟩
theorem c185_9 : q_cat 185 9 (.iload_n 1) 1 1 0 (0) := ⟨rfl, rfl⟩
theorem c185_10 : q_cat 185 10 (.invokevirtual 319) 3 99 0 (0) := ⟨rfl, rfl⟩
theorem c185_13 : q_cat 185 13 (.lreturn) 1 0 0 (0) := ⟨rfl, rfl⟩
theorem k185 {Γ : q_Γ} (hG : q_GG Γ) {h : q_F} (hZ : q_Bz h) {v1 : Int}  :
    q_M Γ q_K 155 185 [(2, Int.ofNat 0), (0, v1)] h (fun t w h' => (t = 1 ∧ (∃ z, w = ((1, z) : q_V)) ∧ q_Fr (fun k => k = 0 ∨ (6 ≤ k ∧ k ≤ 138)) h h') ∨ (t = 3 ∧ q_Fr (fun k => k = 0 ∨ (6 ≤ k ∧ k ≤ 138)) h h')) := by
  have hT6 := q_hT6
  obtain ⟨fT6_0, fT6_1, fT6_2, fT6_3, fT6_4, fT6_5, fT6_6, fT6_7, fT6_8, fT6_9, fT6_10⟩ := q_fT hT6
  have hT15 := q_hT15
  obtain ⟨fT15_0, fT15_1, fT15_2, fT15_3, fT15_4, fT15_5, fT15_6, fT15_7, fT15_8, fT15_9, fT15_10⟩ := q_fT hT15
  have hT24 := q_hT24
  obtain ⟨fT24_0, fT24_1, fT24_2, fT24_3, fT24_4, fT24_5, fT24_6, fT24_7, fT24_8, fT24_9, fT24_10⟩ := q_fT hT24
  obtain ⟨gP0, gP1, gP2, gP3⟩ := q_fG q_hP
  refine q_M.of (by decide) (Nat.le_of_ble_eq_true rfl) hG ?_
  refine r_aload_n c185_0 rfl rfl ?_
  refine r_iload_n c185_1 rfl rfl ?_
  refine r_vcG c185_2 (by first | assumption | omega) (by decide) (by first | assumption | rfl) rfl rfl rfl (k164 hG (q_Fr.bz (S := fun k => k = 0 ∨ (6 ≤ k ∧ k ≤ 138)) hZ (by repeat (first | exact q_Fr.rf | refine q_Fr.ud ?_ (by omega) (by first | assumption | rfl) rfl | refine q_Fr.udz ?_ (by omega) (by first | assumption | decide | omega) | refine q_Fr.tr ?_ (by assumption) (by intro k9 hk9; omega))))) ?_
  intro t1 w1 g1 p1
  rcases p1 with ⟨rfl, rfl⟩ | ⟨rfl, rfl⟩
  · skip
    refine Or.inl ⟨rfl, ?_⟩
    refine r_aload_n c185_5 rfl rfl ?_
    refine r_vcG c185_6 (by first | assumption | omega) (by decide) (by first | assumption | rfl) rfl rfl rfl (k195 hG (q_Fr.bz (S := fun k => k = 0 ∨ (6 ≤ k ∧ k ≤ 138)) hZ (by repeat (first | exact q_Fr.rf | refine q_Fr.ud ?_ (by omega) (by first | assumption | rfl) rfl | refine q_Fr.udz ?_ (by omega) (by first | assumption | decide | omega) | refine q_Fr.tr ?_ (by assumption) (by intro k9 hk9; omega))))) ?_
    intro t2 w2 g2 p2
    obtain ⟨rfl, rfl, e2⟩ := p2
    refine Or.inr (Or.inl ⟨rfl, ?_⟩)
    refine r_iload_n c185_9 rfl rfl ?_
    refine r_vcG c185_10 (by first | assumption | omega) (by decide) (by first | assumption | rfl) rfl rfl rfl (k99 hG (q_Fr.bz (S := fun k => k = 0 ∨ (6 ≤ k ∧ k ≤ 138)) hZ (by repeat (first | exact q_Fr.rf | refine q_Fr.ud ?_ (by omega) (by first | assumption | rfl) rfl | refine q_Fr.udz ?_ (by omega) (by first | assumption | decide | omega) | refine q_Fr.tr ?_ (by assumption) (by intro k9 hk9; omega))))) ?_
    intro t3 w3 g3 p3
    obtain ⟨rfl, ⟨z3, rfl⟩, rfl⟩ := p3
    refine Or.inr (Or.inl ⟨rfl, ?_⟩)
    exact r_lret c185_13 ⟨rfl, rfl, rfl⟩ (Or.inl ⟨rfl, ⟨_, rfl⟩, (by repeat (first | exact q_Fr.rf | refine q_Fr.ud ?_ (by omega) (by first | assumption | rfl) rfl | refine q_Fr.udz ?_ (by omega) (by first | assumption | decide | omega) | refine q_Fr.tr ?_ (by assumption) (by intro k9 hk9; omega)))⟩)
  · refine Or.inr (Or.inr ⟨1, rfl, ?_⟩)
    exact Or.inr ⟨rfl, (Or.inr (⟨rfl, (by repeat (first | exact q_Fr.rf | refine q_Fr.ud ?_ (by omega) (by first | assumption | rfl) rfl | refine q_Fr.udz ?_ (by omega) (by first | assumption | decide | omega) | refine q_Fr.tr ?_ (by assumption) (by intro k9 hk9; omega)))⟩))⟩
theorem c230_0 : q_cat 230 0 (.aload_n 0) 1 0 0 (0) := ⟨rfl, rfl⟩
theorem c230_1 : q_cat 230 1 (.iload_n 1) 1 1 0 (0) := ⟨rfl, rfl⟩
theorem c230_2 : q_cat 230 2 (.invokevirtual 132) 3 162 0 (0) := ⟨rfl, rfl⟩
theorem c230_5 : q_cat 230 5 (.iload_n 2) 1 2 0 (0) := ⟨rfl, rfl⟩
theorem c230_6 : q_cat 230 6 (.ifCond .ge 14) 3 20 0 (0) := ⟨rfl, rfl⟩
theorem c230_9 : q_cat 230 9 (.new 125) 3 0 130 (322) := ⟨rfl, rfl⟩
theorem c230_12 : q_cat 230 12 (.dup) 1 0 0 (0) := ⟨rfl, rfl⟩
theorem c230_13 : q_cat 230 13 (.ldc_w 322) 3 0 0 (0) := ⟨rfl, rfl⟩
theorem c230_20 : q_cat 230 20 (.aload_n 0) 1 0 0 (0) := ⟨rfl, rfl⟩
theorem c230_21 : q_cat 230 21 (.iload_n 1) 1 1 0 (0) := ⟨rfl, rfl⟩
theorem c230_22 : q_cat 230 22 (.invokevirtual 146) 3 163 0 (0) := ⟨rfl, rfl⟩
theorem c230_25 : q_cat 230 25 (.aload_n 0) 1 0 0 (0) := ⟨rfl, rfl⟩
theorem c230_26 : q_cat 230 26 (.invokevirtual 215) 3 195 0 (0) := ⟨rfl, rfl⟩
theorem c230_29 : q_cat 230 29 (.astore_n 3) 1 3 0 (0) := ⟨rfl, rfl⟩
theorem c230_30 : q_cat 230 30 (.iload_n 2) 1 2 0 (0) := ⟨rfl, rfl⟩
theorem c230_31 : q_cat 230 31 (.i2l) 1 0 0 (0) := ⟨rfl, rfl⟩
theorem c230_32 : q_cat 230 32 (.lstore 4) 2 4 0 (0) := ⟨rfl, rfl⟩
theorem c230_34 : q_cat 230 34 (.iconst 0) 1 0 0 (0) := ⟨rfl, rfl⟩
theorem c230_35 : q_cat 230 35 (.istore 6) 2 6 0 (0) := ⟨rfl, rfl⟩
theorem c230_37 : q_cat 230 37 (.iload 6) 2 6 0 (0) := ⟨rfl, rfl⟩
theorem c230_39 : q_cat 230 39 (.aload_n 3) 1 3 0 (0) := ⟨rfl, rfl⟩
theorem c230_40 : q_cat 230 40 (.getfield 298) 3 4 9 (0) := ⟨rfl, rfl⟩
theorem c230_43 : q_cat 230 43 (.if_icmp .ge 66) 3 109 0 (0) := ⟨rfl, rfl⟩
theorem c230_46 : q_cat 230 46 (.aload_n 3) 1 3 0 (0) := ⟨rfl, rfl⟩
theorem c230_47 : q_cat 230 47 (.iload 6) 2 6 0 (0) := ⟨rfl, rfl⟩
theorem c230_49 : q_cat 230 49 (.invokevirtual 324) 3 71 0 (0) := ⟨rfl, rfl⟩
theorem c230_52 : q_cat 230 52 (.aload_n 3) 1 3 0 (0) := ⟨rfl, rfl⟩
theorem c230_53 : q_cat 230 53 (.iload 6) 2 6 0 (0) := ⟨rfl, rfl⟩
theorem c230_55 : q_cat 230 55 (.invokevirtual 301) 3 96 0 (0) := ⟨rfl, rfl⟩
theorem c230_58 : q_cat 230 58 (.ladd) 1 0 0 (0) := ⟨rfl, rfl⟩
theorem c230_59 : q_cat 230 59 (.lstore 7) 2 7 0 (0) := ⟨rfl, rfl⟩
theorem c230_61 : q_cat 230 61 (.lload 7) 2 7 0 (0) := ⟨rfl, rfl⟩
theorem c230_63 : q_cat 230 63 (.lload 4) 2 4 0 (0) := ⟨rfl, rfl⟩
theorem c230_65 : q_cat 230 65 (.lcmp) 1 0 0 (0) := ⟨rfl, rfl⟩
theorem c230_66 : q_cat 230 66 (.ifCond .le 30) 3 96 0 (0) := ⟨rfl, rfl⟩
theorem c230_69 : q_cat 230 69 (.aload_n 3) 1 3 0 (0) := ⟨rfl, rfl⟩
theorem c230_70 : q_cat 230 70 (.iload 6) 2 6 0 (0) := ⟨rfl, rfl⟩
theorem c230_72 : q_cat 230 72 (.lload 4) 2 4 0 (0) := ⟨rfl, rfl⟩
theorem c230_74 : q_cat 230 74 (.aload_n 3) 1 3 0 (0) := ⟨rfl, rfl⟩
theorem c230_75 : q_cat 230 75 (.iload 6) 2 6 0 (0) := ⟨rfl, rfl⟩
theorem c230_77 : q_cat 230 77 (.invokevirtual 324) 3 71 0 (0) := ⟨rfl, rfl⟩
theorem c230_80 : q_cat 230 80 (.lsub) 1 0 0 (0) := ⟨rfl, rfl⟩
theorem c230_81 : q_cat 230 81 (.invokevirtual 327) 3 97 0 (0) := ⟨rfl, rfl⟩
theorem c230_84 : q_cat 230 84 (.istore 9) 2 9 0 (0) := ⟨rfl, rfl⟩
theorem c230_86 : q_cat 230 86 (.aload_n 3) 1 3 0 (0) := ⟨rfl, rfl⟩
theorem c230_87 : q_cat 230 87 (.iload 6) 2 6 0 (0) := ⟨rfl, rfl⟩
theorem c230_89 : q_cat 230 89 (.iload_n 1) 1 1 0 (0) := ⟨rfl, rfl⟩
theorem c230_90 : q_cat 230 90 (.iload 9) 2 9 0 (0) := ⟨rfl, rfl⟩
theorem c230_92 : q_cat 230 92 (.invokevirtual 269) 3 87 0 (0) := ⟨rfl, rfl⟩
theorem c230_95 : q_cat 230 95 (.ireturn) 1 0 0 (0) := ⟨rfl, rfl⟩
theorem c230_96 : q_cat 230 96 (.lload 4) 2 4 0 (0) := ⟨rfl, rfl⟩
theorem c230_98 : q_cat 230 98 (.lload 7) 2 7 0 (0) := ⟨rfl, rfl⟩
theorem c230_100 : q_cat 230 100 (.lsub) 1 0 0 (0) := ⟨rfl, rfl⟩
theorem c230_101 : q_cat 230 101 (.lstore 4) 2 4 0 (0) := ⟨rfl, rfl⟩
theorem c230_103 : q_cat 230 103 (.iinc 6 1) 3 6 0 (0) := ⟨rfl, rfl⟩
theorem c230_106 : q_cat 230 106 (.goto (-69)) 3 37 0 (0) := ⟨rfl, rfl⟩
theorem c230_109 : q_cat 230 109 (.aload_n 0) 1 0 0 (0) := ⟨rfl, rfl⟩
theorem c230_110 : q_cat 230 110 (.getfield 26) 3 8 2 (3) := ⟨rfl, rfl⟩
theorem c230_113 : q_cat 230 113 (.aload_n 0) 1 0 0 (0) := ⟨rfl, rfl⟩
theorem c230_114 : q_cat 230 114 (.getfield 26) 3 8 2 (3) := ⟨rfl, rfl⟩
theorem c230_117 : q_cat 230 117 (.getfield 114) 3 6 3 (3) := ⟨rfl, rfl⟩
theorem c230_120 : q_cat 230 120 (.iload_n 1) 1 1 0 (0) := ⟨rfl, rfl⟩
theorem c230_121 : q_cat 230 121 (.invokevirtual 331) 3 129 0 (0) := ⟨rfl, rfl⟩
theorem c230_124 : q_cat 230 124 (.ireturn) 1 0 0 (0) := ⟨rfl, rfl⟩
theorem l230_37 {Γ : q_Γ} (hG : q_GG Γ) {h0 : q_F} (hZ : q_Bz h0) {v1 : Int} {v2 : Int} {u1 : Int} {u2 : Int} 
    (hx109 : ∀ {u6 u4 : Int} {h : q_F}, q_Fr (fun k => k = 0 ∨ (6 ≤ k ∧ k ≤ 138)) h0 h → q_R Γ q_K 155 230 (fun t w h' => (t = 1 ∧ (∃ z, w = ((0, z) : q_V)) ∧ q_Fr (fun k => k = 0 ∨ (6 ≤ k ∧ k ≤ 138)) h0 h') ∨ (t = 2 ∧ q_Fr (fun k => k = 0 ∨ (6 ≤ k ∧ k ≤ 138)) h0 h') ∨ (t = 3 ∧ q_Fr (fun k => k = 0 ∨ (6 ≤ k ∧ k ≤ 138)) h0 h') ∨ (t = 4 ∧ q_Fr (fun k => k = 0 ∨ (6 ≤ k ∧ k ≤ 138)) h0 h')) (109, [(6, (0, u6)), (4, (1, u4)), (3, (2, Int.ofNat 125)), (0, (2, Int.ofNat 0)), (1, (0, u1)), (2, (0, u2))], [], q_hp q_K 155 h, [], 2, 12))
    : ∀ (m : Nat) {u6 u4 : Int} {h : q_F}, (-2147483648 ≤ u6 ∧ u6 < 2147483648) → q_Fr (fun k => k = 0 ∨ (6 ≤ k ∧ k ≤ 138)) h0 h → 2147483648 - u6 < (m : Int) → q_R Γ q_K 155 230 (fun t w h' => (t = 1 ∧ (∃ z, w = ((0, z) : q_V)) ∧ q_Fr (fun k => k = 0 ∨ (6 ≤ k ∧ k ≤ 138)) h0 h') ∨ (t = 2 ∧ q_Fr (fun k => k = 0 ∨ (6 ≤ k ∧ k ≤ 138)) h0 h') ∨ (t = 3 ∧ q_Fr (fun k => k = 0 ∨ (6 ≤ k ∧ k ≤ 138)) h0 h') ∨ (t = 4 ∧ q_Fr (fun k => k = 0 ∨ (6 ≤ k ∧ k ≤ 138)) h0 h')) (37, [(6, (0, u6)), (4, (1, u4)), (3, (2, Int.ofNat 125)), (0, (2, Int.ofNat 0)), (1, (0, u1)), (2, (0, u2))], [], q_hp q_K 155 h, [], 2, 12)   := by
  have hT6 := q_hT6
  obtain ⟨fT6_0, fT6_1, fT6_2, fT6_3, fT6_4, fT6_5, fT6_6, fT6_7, fT6_8, fT6_9, fT6_10⟩ := q_fT hT6
  have hT15 := q_hT15
  obtain ⟨fT15_0, fT15_1, fT15_2, fT15_3, fT15_4, fT15_5, fT15_6, fT15_7, fT15_8, fT15_9, fT15_10⟩ := q_fT hT15
  have hT24 := q_hT24
  obtain ⟨fT24_0, fT24_1, fT24_2, fT24_3, fT24_4, fT24_5, fT24_6, fT24_7, fT24_8, fT24_9, fT24_10⟩ := q_fT hT24
  obtain ⟨gP0, gP1, gP2, gP3⟩ := q_fG q_hP
  intro m
  induction m with
  | zero =>
    intro u6 u4 h hinv hf hmu
    exact absurd hmu (by omega)
  | succ m ih =>
    intro u6 u4 h hinv hf hmu
    refine r_iload c230_37 rfl rfl ?_
    refine r_aload_n c230_39 rfl rfl ?_
    refine r_geti c230_40 (by first | assumption | omega) (by decide) (by first | assumption | rfl) rfl rfl ?_
    refine r_ic_ge c230_43 rfl (by first | exact q_w32_id (by omega) (by omega) | exact q_w32w _ | exact rfl) (by first | exact q_w32_id (by omega) (by omega) | exact q_w32w _ | exact rfl) ?_ ?_
    · intro b5
      refine q_R.wk (ks := [6, 4, 3, 0, 1, 2]) (lo' := [(6, _), (4, _), (3, _), (0, _), (1, _), (2, _)]) rfl ?_
      exact hx109 (by repeat (first | exact q_Fr.rf | refine q_Fr.ud ?_ (by omega) (by first | assumption | rfl) rfl | refine q_Fr.udz ?_ (by omega) (by first | assumption | decide | omega) | refine q_Fr.tr ?_ (by assumption) (by intro k9 hk9; omega)))
    · intro b5
      refine r_aload_n c230_46 rfl rfl ?_
      refine r_iload c230_47 rfl rfl ?_
      refine r_vcG c230_49 (by first | assumption | omega) (by decide) (by first | assumption | rfl) rfl rfl rfl (k71 hG (q_Fr.bz (S := fun k => k = 0 ∨ (6 ≤ k ∧ k ≤ 138)) hZ (by repeat (first | exact q_Fr.rf | refine q_Fr.ud ?_ (by omega) (by first | assumption | rfl) rfl | refine q_Fr.udz ?_ (by omega) (by first | assumption | decide | omega) | refine q_Fr.tr ?_ (by assumption) (by intro k9 hk9; omega))))) ?_
      intro t6 w6 g6 p6
      obtain ⟨rfl, ⟨z6, rfl⟩, rfl⟩ := p6
      refine Or.inr (Or.inl ⟨rfl, ?_⟩)
      refine r_aload_n c230_52 rfl rfl ?_
      refine r_iload c230_53 rfl rfl ?_
      refine r_vcG c230_55 (by first | assumption | omega) (by decide) (by first | assumption | rfl) rfl rfl rfl (k96 hG (q_Fr.bz (S := fun k => k = 0 ∨ (6 ≤ k ∧ k ≤ 138)) hZ (by repeat (first | exact q_Fr.rf | refine q_Fr.ud ?_ (by omega) (by first | assumption | rfl) rfl | refine q_Fr.udz ?_ (by omega) (by first | assumption | decide | omega) | refine q_Fr.tr ?_ (by assumption) (by intro k9 hk9; omega))))) ?_
      intro t7 w7 g7 p7
      obtain ⟨rfl, ⟨z7, rfl⟩, rfl⟩ := p7
      refine Or.inr (Or.inl ⟨rfl, ?_⟩)
      refine r_ladd c230_58 rfl rfl ?_
      refine r_lstore c230_59 (lo' := [(7, _), (6, _), (4, _), (3, _), (0, _), (1, _), (2, _)]) rfl rfl rfl ?_
      refine r_lload c230_61 rfl rfl ?_
      refine r_lload c230_63 rfl rfl ?_
      refine r_lcmp c230_65 rfl ?_ ?_ ?_
      · intro b8
        refine r_if_le c230_66 rfl (show q_w32 (-1) = -1 from rfl) ?_ ?_
        · intro b9
          refine r_lload c230_96 rfl rfl ?_
          refine r_lload c230_98 rfl rfl ?_
          refine r_lsub c230_100 rfl rfl ?_
          refine r_lstore c230_101 (lo' := [(4, _), (7, _), (6, _), (3, _), (0, _), (1, _), (2, _)]) rfl rfl rfl ?_
          refine r_iinc c230_103 rfl (by first | exact q_w32_id (by omega) (by omega) | exact q_w32w _ | exact rfl) (lo' := [(6, _), (4, _), (7, _), (3, _), (0, _), (1, _), (2, _)]) rfl rfl rfl ?_
          refine r_goto c230_106 ?_
          refine q_R.wk (ks := [6, 4, 3, 0, 1, 2]) (lo' := [(6, _), (4, _), (3, _), (0, _), (1, _), (2, _)]) rfl ?_
          exact ih (by first | omega | exact ⟨q_rg1 _, q_rg2 _⟩) (by repeat (first | exact q_Fr.rf | refine q_Fr.ud ?_ (by omega) (by first | assumption | rfl) rfl | refine q_Fr.udz ?_ (by omega) (by first | assumption | decide | omega) | refine q_Fr.tr ?_ (by assumption) (by intro k9 hk9; omega))) (by omega)
        · intro b9
          exact absurd b9.1 (by decide)
      · intro b8
        refine r_if_le c230_66 rfl (show q_w32 (0) = 0 from rfl) ?_ ?_
        · intro b10
          refine r_lload c230_96 rfl rfl ?_
          refine r_lload c230_98 rfl rfl ?_
          refine r_lsub c230_100 rfl rfl ?_
          refine r_lstore c230_101 (lo' := [(4, _), (7, _), (6, _), (3, _), (0, _), (1, _), (2, _)]) rfl rfl rfl ?_
          refine r_iinc c230_103 rfl (by first | exact q_w32_id (by omega) (by omega) | exact q_w32w _ | exact rfl) (lo' := [(6, _), (4, _), (7, _), (3, _), (0, _), (1, _), (2, _)]) rfl rfl rfl ?_
          refine r_goto c230_106 ?_
          refine q_R.wk (ks := [6, 4, 3, 0, 1, 2]) (lo' := [(6, _), (4, _), (3, _), (0, _), (1, _), (2, _)]) rfl ?_
          exact ih (by first | omega | exact ⟨q_rg1 _, q_rg2 _⟩) (by repeat (first | exact q_Fr.rf | refine q_Fr.ud ?_ (by omega) (by first | assumption | rfl) rfl | refine q_Fr.udz ?_ (by omega) (by first | assumption | decide | omega) | refine q_Fr.tr ?_ (by assumption) (by intro k9 hk9; omega))) (by omega)
        · intro b10
          exact absurd b10.1 (by decide)
      · intro b8
        refine r_if_le c230_66 rfl (show q_w32 (1) = 1 from rfl) ?_ ?_
        · intro b11
          exact absurd b11.1 (by decide)
        · intro b11
          refine r_aload_n c230_69 rfl rfl ?_
          refine r_iload c230_70 rfl rfl ?_
          refine r_lload c230_72 rfl rfl ?_
          refine r_aload_n c230_74 rfl rfl ?_
          refine r_iload c230_75 rfl rfl ?_
          refine r_vcG c230_77 (by first | assumption | omega) (by decide) (by first | assumption | rfl) rfl rfl rfl (k71 hG (q_Fr.bz (S := fun k => k = 0 ∨ (6 ≤ k ∧ k ≤ 138)) hZ (by repeat (first | exact q_Fr.rf | refine q_Fr.ud ?_ (by omega) (by first | assumption | rfl) rfl | refine q_Fr.udz ?_ (by omega) (by first | assumption | decide | omega) | refine q_Fr.tr ?_ (by assumption) (by intro k9 hk9; omega))))) ?_
          intro t12 w12 g12 p12
          obtain ⟨rfl, ⟨z12, rfl⟩, rfl⟩ := p12
          refine Or.inr (Or.inl ⟨rfl, ?_⟩)
          refine r_lsub c230_80 rfl rfl ?_
          refine r_vcG c230_81 (by first | assumption | omega) (by decide) (by first | assumption | rfl) rfl rfl rfl (k97 hG (q_Fr.bz (S := fun k => k = 0 ∨ (6 ≤ k ∧ k ≤ 138)) hZ (by repeat (first | exact q_Fr.rf | refine q_Fr.ud ?_ (by omega) (by first | assumption | rfl) rfl | refine q_Fr.udz ?_ (by omega) (by first | assumption | decide | omega) | refine q_Fr.tr ?_ (by assumption) (by intro k9 hk9; omega))))) ?_
          intro t13 w13 g13 p13
          obtain ⟨rfl, ⟨z13, rfl⟩, rfl⟩ := p13
          refine Or.inr (Or.inl ⟨rfl, ?_⟩)
          refine r_istore c230_84 (lo' := [(9, _), (7, _), (6, _), (4, _), (3, _), (0, _), (1, _), (2, _)]) rfl rfl rfl ?_
          refine r_aload_n c230_86 rfl rfl ?_
          refine r_iload c230_87 rfl rfl ?_
          refine r_iload_n c230_89 rfl rfl ?_
          refine r_iload c230_90 rfl rfl ?_
          refine r_vcG c230_92 (by first | assumption | omega) (by decide) (by first | assumption | rfl) rfl rfl rfl (k87 hG (q_Fr.bz (S := fun k => k = 0 ∨ (6 ≤ k ∧ k ≤ 138)) hZ (by repeat (first | exact q_Fr.rf | refine q_Fr.ud ?_ (by omega) (by first | assumption | rfl) rfl | refine q_Fr.udz ?_ (by omega) (by first | assumption | decide | omega) | refine q_Fr.tr ?_ (by assumption) (by intro k9 hk9; omega))))) ?_
          intro t14 w14 g14 p14
          obtain ⟨rfl, ⟨z14, rfl⟩, rfl⟩ := p14
          refine Or.inr (Or.inl ⟨rfl, ?_⟩)
          exact r_iret c230_95 ⟨rfl, rfl, rfl⟩ (Or.inl ⟨rfl, ⟨_, rfl⟩, (by repeat (first | exact q_Fr.rf | refine q_Fr.ud ?_ (by omega) (by first | assumption | rfl) rfl | refine q_Fr.udz ?_ (by omega) (by first | assumption | decide | omega) | refine q_Fr.tr ?_ (by assumption) (by intro k9 hk9; omega)))⟩)

theorem k230 {Γ : q_Γ} (hG : q_GG Γ) {h : q_F} (hZ : q_Bz h) {v1 : Int} {v2 : Int}  :
    q_M Γ q_K 155 230 [(2, Int.ofNat 0), (0, v1), (0, v2)] h (fun t w h' => (t = 1 ∧ (∃ z, w = ((0, z) : q_V)) ∧ q_Fr (fun k => k = 0 ∨ (6 ≤ k ∧ k ≤ 138)) h h') ∨ (t = 2 ∧ q_Fr (fun k => k = 0 ∨ (6 ≤ k ∧ k ≤ 138)) h h') ∨ (t = 3 ∧ q_Fr (fun k => k = 0 ∨ (6 ≤ k ∧ k ≤ 138)) h h') ∨ (t = 4 ∧ q_Fr (fun k => k = 0 ∨ (6 ≤ k ∧ k ≤ 138)) h h')) := by
  have hT6 := q_hT6
  obtain ⟨fT6_0, fT6_1, fT6_2, fT6_3, fT6_4, fT6_5, fT6_6, fT6_7, fT6_8, fT6_9, fT6_10⟩ := q_fT hT6
  have hT15 := q_hT15
  obtain ⟨fT15_0, fT15_1, fT15_2, fT15_3, fT15_4, fT15_5, fT15_6, fT15_7, fT15_8, fT15_9, fT15_10⟩ := q_fT hT15
  have hT24 := q_hT24
  obtain ⟨fT24_0, fT24_1, fT24_2, fT24_3, fT24_4, fT24_5, fT24_6, fT24_7, fT24_8, fT24_9, fT24_10⟩ := q_fT hT24
  obtain ⟨gP0, gP1, gP2, gP3⟩ := q_fG q_hP
  refine q_M.of (by decide) (Nat.le_of_ble_eq_true rfl) hG ?_
  refine r_aload_n c230_0 rfl rfl ?_
  refine r_iload_n c230_1 rfl rfl ?_
  refine r_vcG c230_2 (by first | assumption | omega) (by decide) (by first | assumption | rfl) rfl rfl rfl (k162 hG (q_Fr.bz (S := fun k => k = 0 ∨ (6 ≤ k ∧ k ≤ 138)) hZ (by repeat (first | exact q_Fr.rf | refine q_Fr.ud ?_ (by omega) (by first | assumption | rfl) rfl | refine q_Fr.udz ?_ (by omega) (by first | assumption | decide | omega) | refine q_Fr.tr ?_ (by assumption) (by intro k9 hk9; omega))))) ?_
  intro t1 w1 g1 p1
  rcases p1 with ⟨rfl, rfl⟩ | ⟨rfl, rfl⟩
  · skip
    refine Or.inl ⟨rfl, ?_⟩
    refine r_iload_n c230_5 rfl rfl ?_
    refine r_if_ge c230_6 rfl (by first | exact q_w32_id (by omega) (by omega) | exact q_w32w _ | exact rfl) ?_ ?_
    · intro b2
      refine r_aload_n c230_20 rfl rfl ?_
      refine r_iload_n c230_21 rfl rfl ?_
      refine r_vcG c230_22 (by first | assumption | omega) (by decide) (by first | assumption | rfl) rfl rfl rfl (k163 hG (q_Fr.bz (S := fun k => k = 0 ∨ (6 ≤ k ∧ k ≤ 138)) hZ (by repeat (first | exact q_Fr.rf | refine q_Fr.ud ?_ (by omega) (by first | assumption | rfl) rfl | refine q_Fr.udz ?_ (by omega) (by first | assumption | decide | omega) | refine q_Fr.tr ?_ (by assumption) (by intro k9 hk9; omega))))) ?_
      intro t3 w3 g3 p3
      rcases p3 with ⟨rfl, rfl⟩ | ⟨rfl, rfl⟩
      · skip
        refine Or.inl ⟨rfl, ?_⟩
        refine r_aload_n c230_25 rfl rfl ?_
        refine r_vcG c230_26 (by first | assumption | omega) (by decide) (by first | assumption | rfl) rfl rfl rfl (k195 hG (q_Fr.bz (S := fun k => k = 0 ∨ (6 ≤ k ∧ k ≤ 138)) hZ (by repeat (first | exact q_Fr.rf | refine q_Fr.ud ?_ (by omega) (by first | assumption | rfl) rfl | refine q_Fr.udz ?_ (by omega) (by first | assumption | decide | omega) | refine q_Fr.tr ?_ (by assumption) (by intro k9 hk9; omega))))) ?_
        intro t4 w4 g4 p4
        obtain ⟨rfl, rfl, e4⟩ := p4
        refine Or.inr (Or.inl ⟨rfl, ?_⟩)
        refine r_astore_n c230_29 (lo' := [(3, _), (0, _), (1, _), (2, _)]) rfl rfl rfl ?_
        refine r_iload_n c230_30 rfl rfl ?_
        refine r_i2l c230_31 (by first | exact q_w32_id (by omega) (by omega) | exact q_w32w _ | exact rfl) rfl ?_
        refine r_lstore c230_32 (lo' := [(4, _), (3, _), (0, _), (1, _), (2, _)]) rfl rfl rfl ?_
        refine r_iconst c230_34 rfl ?_
        refine r_istore c230_35 (lo' := [(6, _), (4, _), (3, _), (0, _), (1, _), (2, _)]) rfl rfl rfl ?_
        refine q_R.wk (ks := [6, 4, 3, 0, 1, 2]) (lo' := [(6, _), (4, _), (3, _), (0, _), (1, _), (2, _)]) rfl ?_
        refine l230_37 (v1 := v1) (v2 := v2) hG hZ  ?_ 4294967298 (by first | omega | exact ⟨q_rg1 _, q_rg2 _⟩) (by repeat (first | exact q_Fr.rf | refine q_Fr.ud ?_ (by omega) (by first | assumption | rfl) rfl | refine q_Fr.udz ?_ (by omega) (by first | assumption | decide | omega) | refine q_Fr.tr ?_ (by assumption) (by intro k9 hk9; omega))) (q_mu (by first | omega | exact ⟨q_rg1 _, q_rg2 _⟩))
        · intro u6_5 u4_5 g5 f5
          refine r_aload_n c230_109 rfl rfl ?_
          refine r_getr c230_110 (by first | assumption | omega) (by decide) (by first | assumption | rfl) rfl rfl ?_
          refine r_aload_n c230_113 rfl rfl ?_
          refine r_getr c230_114 (by first | assumption | omega) (by decide) (by first | assumption | rfl) rfl rfl ?_
          refine r_getr c230_117 (by first | assumption | omega) (by decide) (by first | assumption | rfl) rfl rfl ?_
          refine r_iload_n c230_120 rfl rfl ?_
          refine r_vcG c230_121 (by first | assumption | omega) (by decide) (by first | assumption | rfl) rfl rfl rfl (k129 hG (q_Fr.bz (S := fun k => k = 0 ∨ (6 ≤ k ∧ k ≤ 138)) hZ (by repeat (first | exact q_Fr.rf | refine q_Fr.ud ?_ (by omega) (by first | assumption | rfl) rfl | refine q_Fr.udz ?_ (by omega) (by first | assumption | decide | omega) | refine q_Fr.tr ?_ (by assumption) (by intro k9 hk9; omega)))) (by first | assumption | exact q_hC (by assumption) | exact q_h1 (by assumption) | exact q_h3 (by assumption) | exact q_h5 (by assumption) | exact q_hG (by assumption) | exact q_hP | exact q_hB1 | exact q_hB2 | exact q_hT6 | exact q_hT15 | exact q_hT24) (by first | assumption | exact q_hC (by assumption) | exact q_h1 (by assumption) | exact q_h3 (by assumption) | exact q_h5 (by assumption) | exact q_hG (by assumption) | exact q_hP | exact q_hB1 | exact q_hB2 | exact q_hT6 | exact q_hT15 | exact q_hT24)) ?_
          intro t6 w6 g6 p6
          obtain ⟨rfl, ⟨z6, rfl⟩, rfl⟩ := p6
          refine Or.inr (Or.inl ⟨rfl, ?_⟩)
          exact r_iret c230_124 ⟨rfl, rfl, rfl⟩ (Or.inl ⟨rfl, ⟨_, rfl⟩, (by repeat (first | exact q_Fr.rf | refine q_Fr.ud ?_ (by omega) (by first | assumption | rfl) rfl | refine q_Fr.udz ?_ (by omega) (by first | assumption | decide | omega) | refine q_Fr.tr ?_ (by assumption) (by intro k9 hk9; omega)))⟩)
      · refine Or.inr (Or.inr ⟨2, rfl, ?_⟩)
        exact Or.inr ⟨rfl, (Or.inr (Or.inr (Or.inr (⟨rfl, (by repeat (first | exact q_Fr.rf | refine q_Fr.ud ?_ (by omega) (by first | assumption | rfl) rfl | refine q_Fr.udz ?_ (by omega) (by first | assumption | decide | omega) | refine q_Fr.tr ?_ (by assumption) (by intro k9 hk9; omega)))⟩))))⟩
    · intro b2
      exact r_thr (y := 129) c230_9 rfl (Or.inr (Or.inl ⟨rfl, (by repeat (first | exact q_Fr.rf | refine q_Fr.ud ?_ (by omega) (by first | assumption | rfl) rfl | refine q_Fr.udz ?_ (by omega) (by first | assumption | decide | omega) | refine q_Fr.tr ?_ (by assumption) (by intro k9 hk9; omega)))⟩))
  · refine Or.inr (Or.inr ⟨1, rfl, ?_⟩)
    exact Or.inr ⟨rfl, (Or.inr (Or.inr (Or.inl ⟨rfl, (by repeat (first | exact q_Fr.rf | refine q_Fr.ud ?_ (by omega) (by first | assumption | rfl) rfl | refine q_Fr.udz ?_ (by omega) (by first | assumption | decide | omega) | refine q_Fr.tr ?_ (by assumption) (by intro k9 hk9; omega)))⟩)))⟩
theorem c225_0 : q_cat 225 0 (.aload_n 0) 1 0 0 (0) := ⟨rfl, rfl⟩
theorem c225_1 : q_cat 225 1 (.iload_n 1) 1 1 0 (0) := ⟨rfl, rfl⟩
theorem c225_2 : q_cat 225 2 (.invokevirtual 132) 3 162 0 (0) := ⟨rfl, rfl⟩
theorem c225_5 : q_cat 225 5 (.aload_n 0) 1 0 0 (0) := ⟨rfl, rfl⟩
theorem c225_6 : q_cat 225 6 (.invokevirtual 335) 3 179 0 (0) := ⟨rfl, rfl⟩
theorem c225_9 : q_cat 225 9 (.iload_n 1) 1 1 0 (0) := ⟨rfl, rfl⟩
theorem c225_10 : q_cat 225 10 (.invokevirtual 135) 3 125 0 (0) := ⟨rfl, rfl⟩
theorem c225_13 : q_cat 225 13 (.getfield 182) 3 1 6 (0) := ⟨rfl, rfl⟩
theorem c225_16 : q_cat 225 16 (.ireturn) 1 0 0 (0) := ⟨rfl, rfl⟩
theorem k225 {Γ : q_Γ} (hG : q_GG Γ) {h : q_F} (hZ : q_Bz h) {v1 : Int}  :
    q_M Γ q_K 155 225 [(2, Int.ofNat 0), (0, v1)] h (fun t w h' => (t = 1 ∧ (∃ z, w = ((0, z) : q_V)) ∧ q_Fr (fun k => k = 0 ∨ (6 ≤ k ∧ k ≤ 138)) h h') ∨ (t = 3 ∧ q_Fr (fun k => k = 0 ∨ (6 ≤ k ∧ k ≤ 138)) h h')) := by
  have hT6 := q_hT6
  obtain ⟨fT6_0, fT6_1, fT6_2, fT6_3, fT6_4, fT6_5, fT6_6, fT6_7, fT6_8, fT6_9, fT6_10⟩ := q_fT hT6
  have hT15 := q_hT15
  obtain ⟨fT15_0, fT15_1, fT15_2, fT15_3, fT15_4, fT15_5, fT15_6, fT15_7, fT15_8, fT15_9, fT15_10⟩ := q_fT hT15
  have hT24 := q_hT24
  obtain ⟨fT24_0, fT24_1, fT24_2, fT24_3, fT24_4, fT24_5, fT24_6, fT24_7, fT24_8, fT24_9, fT24_10⟩ := q_fT hT24
  obtain ⟨gP0, gP1, gP2, gP3⟩ := q_fG q_hP
  refine q_M.of (by decide) (Nat.le_of_ble_eq_true rfl) hG ?_
  refine r_aload_n c225_0 rfl rfl ?_
  refine r_iload_n c225_1 rfl rfl ?_
  refine r_vcG c225_2 (by first | assumption | omega) (by decide) (by first | assumption | rfl) rfl rfl rfl (k162 hG (q_Fr.bz (S := fun k => k = 0 ∨ (6 ≤ k ∧ k ≤ 138)) hZ (by repeat (first | exact q_Fr.rf | refine q_Fr.ud ?_ (by omega) (by first | assumption | rfl) rfl | refine q_Fr.udz ?_ (by omega) (by first | assumption | decide | omega) | refine q_Fr.tr ?_ (by assumption) (by intro k9 hk9; omega))))) ?_
  intro t1 w1 g1 p1
  rcases p1 with ⟨rfl, rfl⟩ | ⟨rfl, rfl⟩
  · skip
    refine Or.inl ⟨rfl, ?_⟩
    refine r_aload_n c225_5 rfl rfl ?_
    refine r_vcG c225_6 (by first | assumption | omega) (by decide) (by first | assumption | rfl) rfl rfl rfl (k179 hG (q_Fr.bz (S := fun k => k = 0 ∨ (6 ≤ k ∧ k ≤ 138)) hZ (by repeat (first | exact q_Fr.rf | refine q_Fr.ud ?_ (by omega) (by first | assumption | rfl) rfl | refine q_Fr.udz ?_ (by omega) (by first | assumption | decide | omega) | refine q_Fr.tr ?_ (by assumption) (by intro k9 hk9; omega))))) ?_
    intro t2 w2 g2 p2
    obtain ⟨rfl, rfl, e2⟩ := p2
    refine Or.inr (Or.inl ⟨rfl, ?_⟩)
    refine r_iload_n c225_9 rfl rfl ?_
    refine r_vcG c225_10 (by first | assumption | omega) (by decide) (by first | assumption | rfl) rfl rfl rfl (k125 hG (q_Fr.bz (S := fun k => k = 0 ∨ (6 ≤ k ∧ k ≤ 138)) hZ (by repeat (first | exact q_Fr.rf | refine q_Fr.ud ?_ (by omega) (by first | assumption | rfl) rfl | refine q_Fr.udz ?_ (by omega) (by first | assumption | decide | omega) | refine q_Fr.tr ?_ (by assumption) (by intro k9 hk9; omega)))) (by first | assumption | exact q_hC (by assumption) | exact q_h1 (by assumption) | exact q_h3 (by assumption) | exact q_h5 (by assumption) | exact q_hG (by assumption) | exact q_hP | exact q_hB1 | exact q_hB2 | exact q_hT6 | exact q_hT15 | exact q_hT24)) ?_
    intro t3 w3 g3 p3
    obtain ⟨rfl, ⟨r3, rfl, ha3, hr3⟩, rfl⟩ := p3
    obtain ⟨fr30, fr31, fr32, fr33⟩ := q_fA ha3
    refine Or.inr (Or.inl ⟨rfl, ?_⟩)
    refine r_geti c225_13 (by first | assumption | omega) (by decide) (by first | assumption | rfl) rfl rfl ?_
    exact r_iret c225_16 ⟨rfl, rfl, rfl⟩ (Or.inl ⟨rfl, ⟨_, rfl⟩, (by repeat (first | exact q_Fr.rf | refine q_Fr.ud ?_ (by omega) (by first | assumption | rfl) rfl | refine q_Fr.udz ?_ (by omega) (by first | assumption | decide | omega) | refine q_Fr.tr ?_ (by assumption) (by intro k9 hk9; omega)))⟩)
  · refine Or.inr (Or.inr ⟨1, rfl, ?_⟩)
    exact Or.inr ⟨rfl, (Or.inr (⟨rfl, (by repeat (first | exact q_Fr.rf | refine q_Fr.ud ?_ (by omega) (by first | assumption | rfl) rfl | refine q_Fr.udz ?_ (by omega) (by first | assumption | decide | omega) | refine q_Fr.tr ?_ (by assumption) (by intro k9 hk9; omega)))⟩))⟩
theorem c224_0 : q_cat 224 0 (.aload_n 0) 1 0 0 (0) := ⟨rfl, rfl⟩
theorem c224_1 : q_cat 224 1 (.iload_n 1) 1 1 0 (0) := ⟨rfl, rfl⟩
theorem c224_2 : q_cat 224 2 (.invokevirtual 132) 3 162 0 (0) := ⟨rfl, rfl⟩
theorem c224_5 : q_cat 224 5 (.aload_n 0) 1 0 0 (0) := ⟨rfl, rfl⟩
theorem c224_6 : q_cat 224 6 (.invokevirtual 215) 3 195 0 (0) := ⟨rfl, rfl⟩
theorem c224_9 : q_cat 224 9 (.astore_n 2) 1 2 0 (0) := ⟨rfl, rfl⟩
theorem c224_10 : q_cat 224 10 (.iconst 0) 1 0 0 (0) := ⟨rfl, rfl⟩
theorem c224_11 : q_cat 224 11 (.istore_n 3) 1 3 0 (0) := ⟨rfl, rfl⟩
theorem c224_12 : q_cat 224 12 (.iconst 0) 1 0 0 (0) := ⟨rfl, rfl⟩
theorem c224_13 : q_cat 224 13 (.istore 4) 2 4 0 (0) := ⟨rfl, rfl⟩
theorem c224_15 : q_cat 224 15 (.iload 4) 2 4 0 (0) := ⟨rfl, rfl⟩
theorem c224_17 : q_cat 224 17 (.aload_n 2) 1 2 0 (0) := ⟨rfl, rfl⟩
theorem c224_18 : q_cat 224 18 (.getfield 298) 3 4 9 (0) := ⟨rfl, rfl⟩
theorem c224_21 : q_cat 224 21 (.if_icmp .ge 22) 3 43 0 (0) := ⟨rfl, rfl⟩
theorem c224_24 : q_cat 224 24 (.iload_n 3) 1 3 0 (0) := ⟨rfl, rfl⟩
theorem c224_25 : q_cat 224 25 (.aload_n 2) 1 2 0 (0) := ⟨rfl, rfl⟩
theorem c224_26 : q_cat 224 26 (.iload 4) 2 4 0 (0) := ⟨rfl, rfl⟩
theorem c224_28 : q_cat 224 28 (.iload_n 1) 1 1 0 (0) := ⟨rfl, rfl⟩
theorem c224_29 : q_cat 224 29 (.invokevirtual 309) 3 73 0 (0) := ⟨rfl, rfl⟩
theorem c224_32 : q_cat 224 32 (.invokestatic 312) 3 0 8 (0) := ⟨rfl, rfl⟩
theorem c224_35 : q_cat 224 35 (.iadd) 1 0 0 (0) := ⟨rfl, rfl⟩
theorem c224_36 : q_cat 224 36 (.istore_n 3) 1 3 0 (0) := ⟨rfl, rfl⟩
theorem c224_37 : q_cat 224 37 (.iinc 4 1) 3 4 0 (0) := ⟨rfl, rfl⟩
theorem c224_40 : q_cat 224 40 (.goto (-25)) 3 15 0 (0) := ⟨rfl, rfl⟩
theorem c224_43 : q_cat 224 43 (.iload_n 3) 1 3 0 (0) := ⟨rfl, rfl⟩
theorem c224_44 : q_cat 224 44 (.ireturn) 1 0 0 (0) := ⟨rfl, rfl⟩
theorem l224_15 {Γ : q_Γ} (hG : q_GG Γ) {h0 : q_F} (hZ : q_Bz h0) {v1 : Int} {u1 : Int} 
    (hx43 : ∀ {u4 u3 : Int} {h : q_F}, q_Fr (fun k => k = 0 ∨ (6 ≤ k ∧ k ≤ 138)) h0 h → q_R Γ q_K 155 224 (fun t w h' => (t = 1 ∧ (∃ z, w = ((0, z) : q_V)) ∧ q_Fr (fun k => k = 0 ∨ (6 ≤ k ∧ k ≤ 138)) h0 h') ∨ (t = 3 ∧ q_Fr (fun k => k = 0 ∨ (6 ≤ k ∧ k ≤ 138)) h0 h')) (43, [(4, (0, u4)), (3, (0, u3)), (2, (2, Int.ofNat 125)), (0, (2, Int.ofNat 0)), (1, (0, u1))], [], q_hp q_K 155 h, [], 1, 6))
    : ∀ (m : Nat) {u4 u3 : Int} {h : q_F}, (-2147483648 ≤ u4 ∧ u4 < 2147483648) → q_Fr (fun k => k = 0 ∨ (6 ≤ k ∧ k ≤ 138)) h0 h → 2147483648 - u4 < (m : Int) → q_R Γ q_K 155 224 (fun t w h' => (t = 1 ∧ (∃ z, w = ((0, z) : q_V)) ∧ q_Fr (fun k => k = 0 ∨ (6 ≤ k ∧ k ≤ 138)) h0 h') ∨ (t = 3 ∧ q_Fr (fun k => k = 0 ∨ (6 ≤ k ∧ k ≤ 138)) h0 h')) (15, [(4, (0, u4)), (3, (0, u3)), (2, (2, Int.ofNat 125)), (0, (2, Int.ofNat 0)), (1, (0, u1))], [], q_hp q_K 155 h, [], 1, 6)   := by
  have hT6 := q_hT6
  obtain ⟨fT6_0, fT6_1, fT6_2, fT6_3, fT6_4, fT6_5, fT6_6, fT6_7, fT6_8, fT6_9, fT6_10⟩ := q_fT hT6
  have hT15 := q_hT15
  obtain ⟨fT15_0, fT15_1, fT15_2, fT15_3, fT15_4, fT15_5, fT15_6, fT15_7, fT15_8, fT15_9, fT15_10⟩ := q_fT hT15
  have hT24 := q_hT24
  obtain ⟨fT24_0, fT24_1, fT24_2, fT24_3, fT24_4, fT24_5, fT24_6, fT24_7, fT24_8, fT24_9, fT24_10⟩ := q_fT hT24
  obtain ⟨gP0, gP1, gP2, gP3⟩ := q_fG q_hP
  intro m
  induction m with
  | zero =>
    intro u4 u3 h hinv hf hmu
    exact absurd hmu (by omega)
  | succ m ih =>
    intro u4 u3 h hinv hf hmu
    refine r_iload c224_15 rfl rfl ?_
    refine r_aload_n c224_17 rfl rfl ?_
    refine r_geti c224_18 (by first | assumption | omega) (by decide) (by first | assumption | rfl) rfl rfl ?_
    refine r_ic_ge c224_21 rfl (by first | exact q_w32_id (by omega) (by omega) | exact q_w32w _ | exact rfl) (by first | exact q_w32_id (by omega) (by omega) | exact q_w32w _ | exact rfl) ?_ ?_
    · intro b3
      refine q_R.wk (ks := [4, 3, 2, 0, 1]) (lo' := [(4, _), (3, _), (2, _), (0, _), (1, _)]) rfl ?_
      exact hx43 (by repeat (first | exact q_Fr.rf | refine q_Fr.ud ?_ (by omega) (by first | assumption | rfl) rfl | refine q_Fr.udz ?_ (by omega) (by first | assumption | decide | omega) | refine q_Fr.tr ?_ (by assumption) (by intro k9 hk9; omega)))
    · intro b3
      refine r_iload_n c224_24 rfl rfl ?_
      refine r_aload_n c224_25 rfl rfl ?_
      refine r_iload c224_26 rfl rfl ?_
      refine r_iload_n c224_28 rfl rfl ?_
      refine r_vcG c224_29 (by first | assumption | omega) (by decide) (by first | assumption | rfl) rfl rfl rfl (k73 hG (q_Fr.bz (S := fun k => k = 0 ∨ (6 ≤ k ∧ k ≤ 138)) hZ (by repeat (first | exact q_Fr.rf | refine q_Fr.ud ?_ (by omega) (by first | assumption | rfl) rfl | refine q_Fr.udz ?_ (by omega) (by first | assumption | decide | omega) | refine q_Fr.tr ?_ (by assumption) (by intro k9 hk9; omega))))) ?_
      intro t4 w4 g4 p4
      obtain ⟨rfl, ⟨z4, rfl⟩, rfl⟩ := p4
      refine Or.inr (Or.inl ⟨rfl, ?_⟩)
      refine r_abs c224_32 rfl rfl ?_
      refine r_iadd c224_35 (by first | exact q_w32_id (by omega) (by omega) | exact q_w32w _ | exact rfl) rfl ?_
      refine r_istore_n c224_36 (lo' := [(3, _), (4, _), (2, _), (0, _), (1, _)]) rfl rfl rfl ?_
      refine r_iinc c224_37 rfl (by first | exact q_w32_id (by omega) (by omega) | exact q_w32w _ | exact rfl) (lo' := [(4, _), (3, _), (2, _), (0, _), (1, _)]) rfl rfl rfl ?_
      refine r_goto c224_40 ?_
      refine q_R.wk (ks := [4, 3, 2, 0, 1]) (lo' := [(4, _), (3, _), (2, _), (0, _), (1, _)]) rfl ?_
      exact ih (by first | omega | exact ⟨q_rg1 _, q_rg2 _⟩) (by repeat (first | exact q_Fr.rf | refine q_Fr.ud ?_ (by omega) (by first | assumption | rfl) rfl | refine q_Fr.udz ?_ (by omega) (by first | assumption | decide | omega) | refine q_Fr.tr ?_ (by assumption) (by intro k9 hk9; omega))) (by omega)

theorem k224 {Γ : q_Γ} (hG : q_GG Γ) {h : q_F} (hZ : q_Bz h) {v1 : Int}  :
    q_M Γ q_K 155 224 [(2, Int.ofNat 0), (0, v1)] h (fun t w h' => (t = 1 ∧ (∃ z, w = ((0, z) : q_V)) ∧ q_Fr (fun k => k = 0 ∨ (6 ≤ k ∧ k ≤ 138)) h h') ∨ (t = 3 ∧ q_Fr (fun k => k = 0 ∨ (6 ≤ k ∧ k ≤ 138)) h h')) := by
  have hT6 := q_hT6
  obtain ⟨fT6_0, fT6_1, fT6_2, fT6_3, fT6_4, fT6_5, fT6_6, fT6_7, fT6_8, fT6_9, fT6_10⟩ := q_fT hT6
  have hT15 := q_hT15
  obtain ⟨fT15_0, fT15_1, fT15_2, fT15_3, fT15_4, fT15_5, fT15_6, fT15_7, fT15_8, fT15_9, fT15_10⟩ := q_fT hT15
  have hT24 := q_hT24
  obtain ⟨fT24_0, fT24_1, fT24_2, fT24_3, fT24_4, fT24_5, fT24_6, fT24_7, fT24_8, fT24_9, fT24_10⟩ := q_fT hT24
  obtain ⟨gP0, gP1, gP2, gP3⟩ := q_fG q_hP
  refine q_M.of (by decide) (Nat.le_of_ble_eq_true rfl) hG ?_
  refine r_aload_n c224_0 rfl rfl ?_
  refine r_iload_n c224_1 rfl rfl ?_
  refine r_vcG c224_2 (by first | assumption | omega) (by decide) (by first | assumption | rfl) rfl rfl rfl (k162 hG (q_Fr.bz (S := fun k => k = 0 ∨ (6 ≤ k ∧ k ≤ 138)) hZ (by repeat (first | exact q_Fr.rf | refine q_Fr.ud ?_ (by omega) (by first | assumption | rfl) rfl | refine q_Fr.udz ?_ (by omega) (by first | assumption | decide | omega) | refine q_Fr.tr ?_ (by assumption) (by intro k9 hk9; omega))))) ?_
  intro t1 w1 g1 p1
  rcases p1 with ⟨rfl, rfl⟩ | ⟨rfl, rfl⟩
  · skip
    refine Or.inl ⟨rfl, ?_⟩
    refine r_aload_n c224_5 rfl rfl ?_
    refine r_vcG c224_6 (by first | assumption | omega) (by decide) (by first | assumption | rfl) rfl rfl rfl (k195 hG (q_Fr.bz (S := fun k => k = 0 ∨ (6 ≤ k ∧ k ≤ 138)) hZ (by repeat (first | exact q_Fr.rf | refine q_Fr.ud ?_ (by omega) (by first | assumption | rfl) rfl | refine q_Fr.udz ?_ (by omega) (by first | assumption | decide | omega) | refine q_Fr.tr ?_ (by assumption) (by intro k9 hk9; omega))))) ?_
    intro t2 w2 g2 p2
    obtain ⟨rfl, rfl, e2⟩ := p2
    refine Or.inr (Or.inl ⟨rfl, ?_⟩)
    refine r_astore_n c224_9 (lo' := [(2, _), (0, _), (1, _)]) rfl rfl rfl ?_
    refine r_iconst c224_10 rfl ?_
    refine r_istore_n c224_11 (lo' := [(3, _), (2, _), (0, _), (1, _)]) rfl rfl rfl ?_
    refine r_iconst c224_12 rfl ?_
    refine r_istore c224_13 (lo' := [(4, _), (3, _), (2, _), (0, _), (1, _)]) rfl rfl rfl ?_
    refine q_R.wk (ks := [4, 3, 2, 0, 1]) (lo' := [(4, _), (3, _), (2, _), (0, _), (1, _)]) rfl ?_
    refine l224_15 (v1 := v1) hG hZ  ?_ 4294967298 (by first | omega | exact ⟨q_rg1 _, q_rg2 _⟩) (by repeat (first | exact q_Fr.rf | refine q_Fr.ud ?_ (by omega) (by first | assumption | rfl) rfl | refine q_Fr.udz ?_ (by omega) (by first | assumption | decide | omega) | refine q_Fr.tr ?_ (by assumption) (by intro k9 hk9; omega))) (q_mu (by first | omega | exact ⟨q_rg1 _, q_rg2 _⟩))
    · intro u4_3 u3_3 g3 f3
      refine r_iload_n c224_43 rfl rfl ?_
      exact r_iret c224_44 ⟨rfl, rfl, rfl⟩ (Or.inl ⟨rfl, ⟨_, rfl⟩, (by repeat (first | exact q_Fr.rf | refine q_Fr.ud ?_ (by omega) (by first | assumption | rfl) rfl | refine q_Fr.udz ?_ (by omega) (by first | assumption | decide | omega) | refine q_Fr.tr ?_ (by assumption) (by intro k9 hk9; omega)))⟩)
  · refine Or.inr (Or.inr ⟨1, rfl, ?_⟩)
    exact Or.inr ⟨rfl, (Or.inr (⟨rfl, (by repeat (first | exact q_Fr.rf | refine q_Fr.ud ?_ (by omega) (by first | assumption | rfl) rfl | refine q_Fr.udz ?_ (by omega) (by first | assumption | decide | omega) | refine q_Fr.tr ?_ (by assumption) (by intro k9 hk9; omega)))⟩))⟩
theorem c227_0 : q_cat 227 0 (.aload_n 0) 1 0 0 (0) := ⟨rfl, rfl⟩
theorem c227_1 : q_cat 227 1 (.iload_n 1) 1 1 0 (0) := ⟨rfl, rfl⟩
theorem c227_2 : q_cat 227 2 (.invokevirtual 132) 3 162 0 (0) := ⟨rfl, rfl⟩
theorem c227_5 : q_cat 227 5 (.aload_n 0) 1 0 0 (0) := ⟨rfl, rfl⟩
theorem c227_6 : q_cat 227 6 (.invokevirtual 215) 3 195 0 (0) := ⟨rfl, rfl⟩
theorem c227_9 : q_cat 227 9 (.astore_n 2) 1 2 0 (0) := ⟨rfl, rfl⟩
theorem c227_10 : q_cat 227 10 (.iconst 0) 1 0 0 (0) := ⟨rfl, rfl⟩
theorem c227_11 : q_cat 227 11 (.istore_n 3) 1 3 0 (0) := ⟨rfl, rfl⟩
theorem c227_12 : q_cat 227 12 (.iconst 0) 1 0 0 (0) := ⟨rfl, rfl⟩
theorem c227_13 : q_cat 227 13 (.istore 4) 2 4 0 (0) := ⟨rfl, rfl⟩
theorem c227_15 : q_cat 227 15 (.iload 4) 2 4 0 (0) := ⟨rfl, rfl⟩
theorem c227_17 : q_cat 227 17 (.aload_n 2) 1 2 0 (0) := ⟨rfl, rfl⟩
theorem c227_18 : q_cat 227 18 (.getfield 298) 3 4 9 (0) := ⟨rfl, rfl⟩
theorem c227_21 : q_cat 227 21 (.if_icmp .ge 27) 3 48 0 (0) := ⟨rfl, rfl⟩
theorem c227_24 : q_cat 227 24 (.iload_n 3) 1 3 0 (0) := ⟨rfl, rfl⟩
theorem c227_25 : q_cat 227 25 (.aload_n 2) 1 2 0 (0) := ⟨rfl, rfl⟩
theorem c227_26 : q_cat 227 26 (.iload 4) 2 4 0 (0) := ⟨rfl, rfl⟩
theorem c227_28 : q_cat 227 28 (.iload_n 1) 1 1 0 (0) := ⟨rfl, rfl⟩
theorem c227_29 : q_cat 227 29 (.invokevirtual 315) 3 100 0 (0) := ⟨rfl, rfl⟩
theorem c227_32 : q_cat 227 32 (.ifCond .eq 7) 3 39 0 (0) := ⟨rfl, rfl⟩
theorem c227_35 : q_cat 227 35 (.iconst 1) 1 0 0 (0) := ⟨rfl, rfl⟩
theorem c227_36 : q_cat 227 36 (.goto 4) 3 40 0 (0) := ⟨rfl, rfl⟩
theorem c227_39 : q_cat 227 39 (.iconst 0) 1 0 0 (0) := ⟨rfl, rfl⟩
theorem c227_40 : q_cat 227 40 (.iadd) 1 0 0 (0) := ⟨rfl, rfl⟩
theorem c227_41 : q_cat 227 41 (.istore_n 3) 1 3 0 (0) := ⟨rfl, rfl⟩
theorem c227_42 : q_cat 227 42 (.iinc 4 1) 3 4 0 (0) := ⟨rfl, rfl⟩
theorem c227_45 : q_cat 227 45 (.goto (-30)) 3 15 0 (0) := ⟨rfl, rfl⟩
theorem c227_48 : q_cat 227 48 (.iload_n 3) 1 3 0 (0) := ⟨rfl, rfl⟩
theorem c227_49 : q_cat 227 49 (.ireturn) 1 0 0 (0) := ⟨rfl, rfl⟩
theorem l227_15 {Γ : q_Γ} (hG : q_GG Γ) {h0 : q_F} (hZ : q_Bz h0) {v1 : Int} {u1 : Int} 
    (hx48 : ∀ {u4 u3 : Int} {h : q_F}, q_Fr (fun k => k = 0 ∨ (6 ≤ k ∧ k ≤ 138)) h0 h → q_R Γ q_K 155 227 (fun t w h' => (t = 1 ∧ (∃ z, w = ((0, z) : q_V)) ∧ q_Fr (fun k => k = 0 ∨ (6 ≤ k ∧ k ≤ 138)) h0 h') ∨ (t = 3 ∧ q_Fr (fun k => k = 0 ∨ (6 ≤ k ∧ k ≤ 138)) h0 h')) (48, [(4, (0, u4)), (3, (0, u3)), (2, (2, Int.ofNat 125)), (0, (2, Int.ofNat 0)), (1, (0, u1))], [], q_hp q_K 155 h, [], 1, 6))
    : ∀ (m : Nat) {u4 u3 : Int} {h : q_F}, (-2147483648 ≤ u4 ∧ u4 < 2147483648) → q_Fr (fun k => k = 0 ∨ (6 ≤ k ∧ k ≤ 138)) h0 h → 2147483648 - u4 < (m : Int) → q_R Γ q_K 155 227 (fun t w h' => (t = 1 ∧ (∃ z, w = ((0, z) : q_V)) ∧ q_Fr (fun k => k = 0 ∨ (6 ≤ k ∧ k ≤ 138)) h0 h') ∨ (t = 3 ∧ q_Fr (fun k => k = 0 ∨ (6 ≤ k ∧ k ≤ 138)) h0 h')) (15, [(4, (0, u4)), (3, (0, u3)), (2, (2, Int.ofNat 125)), (0, (2, Int.ofNat 0)), (1, (0, u1))], [], q_hp q_K 155 h, [], 1, 6)   := by
  have hT6 := q_hT6
  obtain ⟨fT6_0, fT6_1, fT6_2, fT6_3, fT6_4, fT6_5, fT6_6, fT6_7, fT6_8, fT6_9, fT6_10⟩ := q_fT hT6
  have hT15 := q_hT15
  obtain ⟨fT15_0, fT15_1, fT15_2, fT15_3, fT15_4, fT15_5, fT15_6, fT15_7, fT15_8, fT15_9, fT15_10⟩ := q_fT hT15
  have hT24 := q_hT24
  obtain ⟨fT24_0, fT24_1, fT24_2, fT24_3, fT24_4, fT24_5, fT24_6, fT24_7, fT24_8, fT24_9, fT24_10⟩ := q_fT hT24
  obtain ⟨gP0, gP1, gP2, gP3⟩ := q_fG q_hP
  intro m
  induction m with
  | zero =>
    intro u4 u3 h hinv hf hmu
    exact absurd hmu (by omega)
  | succ m ih =>
    intro u4 u3 h hinv hf hmu
    refine r_iload c227_15 rfl rfl ?_
    refine r_aload_n c227_17 rfl rfl ?_
    refine r_geti c227_18 (by first | assumption | omega) (by decide) (by first | assumption | rfl) rfl rfl ?_
    refine r_ic_ge c227_21 rfl (by first | exact q_w32_id (by omega) (by omega) | exact q_w32w _ | exact rfl) (by first | exact q_w32_id (by omega) (by omega) | exact q_w32w _ | exact rfl) ?_ ?_
    · intro b3
      refine q_R.wk (ks := [4, 3, 2, 0, 1]) (lo' := [(4, _), (3, _), (2, _), (0, _), (1, _)]) rfl ?_
      exact hx48 (by repeat (first | exact q_Fr.rf | refine q_Fr.ud ?_ (by omega) (by first | assumption | rfl) rfl | refine q_Fr.udz ?_ (by omega) (by first | assumption | decide | omega) | refine q_Fr.tr ?_ (by assumption) (by intro k9 hk9; omega)))
    · intro b3
      refine r_iload_n c227_24 rfl rfl ?_
      refine r_aload_n c227_25 rfl rfl ?_
      refine r_iload c227_26 rfl rfl ?_
      refine r_iload_n c227_28 rfl rfl ?_
      refine r_vcG c227_29 (by first | assumption | omega) (by decide) (by first | assumption | rfl) rfl rfl rfl (k100 hG (q_Fr.bz (S := fun k => k = 0 ∨ (6 ≤ k ∧ k ≤ 138)) hZ (by repeat (first | exact q_Fr.rf | refine q_Fr.ud ?_ (by omega) (by first | assumption | rfl) rfl | refine q_Fr.udz ?_ (by omega) (by first | assumption | decide | omega) | refine q_Fr.tr ?_ (by assumption) (by intro k9 hk9; omega))))) ?_
      intro t4 w4 g4 p4
      obtain ⟨rfl, ⟨z4, rfl, hz4⟩, rfl⟩ := p4
      refine Or.inr (Or.inl ⟨rfl, ?_⟩)
      refine r_if_eq c227_32 rfl (by first | exact q_w32_id (by omega) (by omega) | exact q_w32w _ | exact rfl) ?_ ?_
      · intro b5
        refine r_iconst c227_39 rfl ?_
        refine r_iadd c227_40 (by first | exact q_w32_id (by omega) (by omega) | exact q_w32w _ | exact rfl) rfl ?_
        refine r_istore_n c227_41 (lo' := [(3, _), (4, _), (2, _), (0, _), (1, _)]) rfl rfl rfl ?_
        refine r_iinc c227_42 rfl (by first | exact q_w32_id (by omega) (by omega) | exact q_w32w _ | exact rfl) (lo' := [(4, _), (3, _), (2, _), (0, _), (1, _)]) rfl rfl rfl ?_
        refine r_goto c227_45 ?_
        refine q_R.wk (ks := [4, 3, 2, 0, 1]) (lo' := [(4, _), (3, _), (2, _), (0, _), (1, _)]) rfl ?_
        exact ih (by first | omega | exact ⟨q_rg1 _, q_rg2 _⟩) (by repeat (first | exact q_Fr.rf | refine q_Fr.ud ?_ (by omega) (by first | assumption | rfl) rfl | refine q_Fr.udz ?_ (by omega) (by first | assumption | decide | omega) | refine q_Fr.tr ?_ (by assumption) (by intro k9 hk9; omega))) (by omega)
      · intro b5
        refine r_iconst c227_35 rfl ?_
        refine r_goto c227_36 ?_
        refine r_iadd c227_40 (by first | exact q_w32_id (by omega) (by omega) | exact q_w32w _ | exact rfl) rfl ?_
        refine r_istore_n c227_41 (lo' := [(3, _), (4, _), (2, _), (0, _), (1, _)]) rfl rfl rfl ?_
        refine r_iinc c227_42 rfl (by first | exact q_w32_id (by omega) (by omega) | exact q_w32w _ | exact rfl) (lo' := [(4, _), (3, _), (2, _), (0, _), (1, _)]) rfl rfl rfl ?_
        refine r_goto c227_45 ?_
        refine q_R.wk (ks := [4, 3, 2, 0, 1]) (lo' := [(4, _), (3, _), (2, _), (0, _), (1, _)]) rfl ?_
        exact ih (by first | omega | exact ⟨q_rg1 _, q_rg2 _⟩) (by repeat (first | exact q_Fr.rf | refine q_Fr.ud ?_ (by omega) (by first | assumption | rfl) rfl | refine q_Fr.udz ?_ (by omega) (by first | assumption | decide | omega) | refine q_Fr.tr ?_ (by assumption) (by intro k9 hk9; omega))) (by omega)

theorem k227 {Γ : q_Γ} (hG : q_GG Γ) {h : q_F} (hZ : q_Bz h) {v1 : Int}  :
    q_M Γ q_K 155 227 [(2, Int.ofNat 0), (0, v1)] h (fun t w h' => (t = 1 ∧ (∃ z, w = ((0, z) : q_V)) ∧ q_Fr (fun k => k = 0 ∨ (6 ≤ k ∧ k ≤ 138)) h h') ∨ (t = 3 ∧ q_Fr (fun k => k = 0 ∨ (6 ≤ k ∧ k ≤ 138)) h h')) := by
  have hT6 := q_hT6
  obtain ⟨fT6_0, fT6_1, fT6_2, fT6_3, fT6_4, fT6_5, fT6_6, fT6_7, fT6_8, fT6_9, fT6_10⟩ := q_fT hT6
  have hT15 := q_hT15
  obtain ⟨fT15_0, fT15_1, fT15_2, fT15_3, fT15_4, fT15_5, fT15_6, fT15_7, fT15_8, fT15_9, fT15_10⟩ := q_fT hT15
  have hT24 := q_hT24
  obtain ⟨fT24_0, fT24_1, fT24_2, fT24_3, fT24_4, fT24_5, fT24_6, fT24_7, fT24_8, fT24_9, fT24_10⟩ := q_fT hT24
  obtain ⟨gP0, gP1, gP2, gP3⟩ := q_fG q_hP
  refine q_M.of (by decide) (Nat.le_of_ble_eq_true rfl) hG ?_
  refine r_aload_n c227_0 rfl rfl ?_
  refine r_iload_n c227_1 rfl rfl ?_
  refine r_vcG c227_2 (by first | assumption | omega) (by decide) (by first | assumption | rfl) rfl rfl rfl (k162 hG (q_Fr.bz (S := fun k => k = 0 ∨ (6 ≤ k ∧ k ≤ 138)) hZ (by repeat (first | exact q_Fr.rf | refine q_Fr.ud ?_ (by omega) (by first | assumption | rfl) rfl | refine q_Fr.udz ?_ (by omega) (by first | assumption | decide | omega) | refine q_Fr.tr ?_ (by assumption) (by intro k9 hk9; omega))))) ?_
  intro t1 w1 g1 p1
  rcases p1 with ⟨rfl, rfl⟩ | ⟨rfl, rfl⟩
  · skip
    refine Or.inl ⟨rfl, ?_⟩
    refine r_aload_n c227_5 rfl rfl ?_
    refine r_vcG c227_6 (by first | assumption | omega) (by decide) (by first | assumption | rfl) rfl rfl rfl (k195 hG (q_Fr.bz (S := fun k => k = 0 ∨ (6 ≤ k ∧ k ≤ 138)) hZ (by repeat (first | exact q_Fr.rf | refine q_Fr.ud ?_ (by omega) (by first | assumption | rfl) rfl | refine q_Fr.udz ?_ (by omega) (by first | assumption | decide | omega) | refine q_Fr.tr ?_ (by assumption) (by intro k9 hk9; omega))))) ?_
    intro t2 w2 g2 p2
    obtain ⟨rfl, rfl, e2⟩ := p2
    refine Or.inr (Or.inl ⟨rfl, ?_⟩)
    refine r_astore_n c227_9 (lo' := [(2, _), (0, _), (1, _)]) rfl rfl rfl ?_
    refine r_iconst c227_10 rfl ?_
    refine r_istore_n c227_11 (lo' := [(3, _), (2, _), (0, _), (1, _)]) rfl rfl rfl ?_
    refine r_iconst c227_12 rfl ?_
    refine r_istore c227_13 (lo' := [(4, _), (3, _), (2, _), (0, _), (1, _)]) rfl rfl rfl ?_
    refine q_R.wk (ks := [4, 3, 2, 0, 1]) (lo' := [(4, _), (3, _), (2, _), (0, _), (1, _)]) rfl ?_
    refine l227_15 (v1 := v1) hG hZ  ?_ 4294967298 (by first | omega | exact ⟨q_rg1 _, q_rg2 _⟩) (by repeat (first | exact q_Fr.rf | refine q_Fr.ud ?_ (by omega) (by first | assumption | rfl) rfl | refine q_Fr.udz ?_ (by omega) (by first | assumption | decide | omega) | refine q_Fr.tr ?_ (by assumption) (by intro k9 hk9; omega))) (q_mu (by first | omega | exact ⟨q_rg1 _, q_rg2 _⟩))
    · intro u4_3 u3_3 g3 f3
      refine r_iload_n c227_48 rfl rfl ?_
      exact r_iret c227_49 ⟨rfl, rfl, rfl⟩ (Or.inl ⟨rfl, ⟨_, rfl⟩, (by repeat (first | exact q_Fr.rf | refine q_Fr.ud ?_ (by omega) (by first | assumption | rfl) rfl | refine q_Fr.udz ?_ (by omega) (by first | assumption | decide | omega) | refine q_Fr.tr ?_ (by assumption) (by intro k9 hk9; omega)))⟩)
  · refine Or.inr (Or.inr ⟨1, rfl, ?_⟩)
    exact Or.inr ⟨rfl, (Or.inr (⟨rfl, (by repeat (first | exact q_Fr.rf | refine q_Fr.ud ?_ (by omega) (by first | assumption | rfl) rfl | refine q_Fr.udz ?_ (by omega) (by first | assumption | decide | omega) | refine q_Fr.tr ?_ (by assumption) (by intro k9 hk9; omega)))⟩))⟩
theorem c200_0 : q_cat 200 0 (.aload_n 0) 1 0 0 (0) := ⟨rfl, rfl⟩
theorem c200_1 : q_cat 200 1 (.invokevirtual 215) 3 195 0 (0) := ⟨rfl, rfl⟩
theorem c200_4 : q_cat 200 4 (.invokevirtual 339) 3 102 0 (0) := ⟨rfl, rfl⟩
theorem c200_7 : q_cat 200 7 (.lreturn) 1 0 0 (0) := ⟨rfl, rfl⟩
theorem k200 {Γ : q_Γ} (hG : q_GG Γ) {h : q_F} (hZ : q_Bz h)   :
    q_M Γ q_K 155 200 [(2, Int.ofNat 0)] h (fun t w h' => (t = 1 ∧ (∃ z, w = ((1, z) : q_V)) ∧ q_Fr (fun k => k = 0 ∨ (6 ≤ k ∧ k ≤ 138)) h h')) := by
  have hT6 := q_hT6
  obtain ⟨fT6_0, fT6_1, fT6_2, fT6_3, fT6_4, fT6_5, fT6_6, fT6_7, fT6_8, fT6_9, fT6_10⟩ := q_fT hT6
  have hT15 := q_hT15
  obtain ⟨fT15_0, fT15_1, fT15_2, fT15_3, fT15_4, fT15_5, fT15_6, fT15_7, fT15_8, fT15_9, fT15_10⟩ := q_fT hT15
  have hT24 := q_hT24
  obtain ⟨fT24_0, fT24_1, fT24_2, fT24_3, fT24_4, fT24_5, fT24_6, fT24_7, fT24_8, fT24_9, fT24_10⟩ := q_fT hT24
  obtain ⟨gP0, gP1, gP2, gP3⟩ := q_fG q_hP
  refine q_M.of (by decide) (Nat.le_of_ble_eq_true rfl) hG ?_
  refine r_aload_n c200_0 rfl rfl ?_
  refine r_vcG c200_1 (by first | assumption | omega) (by decide) (by first | assumption | rfl) rfl rfl rfl (k195 hG (q_Fr.bz (S := fun k => k = 0 ∨ (6 ≤ k ∧ k ≤ 138)) hZ (by repeat (first | exact q_Fr.rf | refine q_Fr.ud ?_ (by omega) (by first | assumption | rfl) rfl | refine q_Fr.udz ?_ (by omega) (by first | assumption | decide | omega) | refine q_Fr.tr ?_ (by assumption) (by intro k9 hk9; omega))))) ?_
  intro t1 w1 g1 p1
  obtain ⟨rfl, rfl, e1⟩ := p1
  refine Or.inr (Or.inl ⟨rfl, ?_⟩)
  refine r_vcG c200_4 (by first | assumption | omega) (by decide) (by first | assumption | rfl) rfl rfl rfl (k102 hG (q_Fr.bz (S := fun k => k = 0 ∨ (6 ≤ k ∧ k ≤ 138)) hZ (by repeat (first | exact q_Fr.rf | refine q_Fr.ud ?_ (by omega) (by first | assumption | rfl) rfl | refine q_Fr.udz ?_ (by omega) (by first | assumption | decide | omega) | refine q_Fr.tr ?_ (by assumption) (by intro k9 hk9; omega))))) ?_
  intro t2 w2 g2 p2
  obtain ⟨rfl, ⟨z2, rfl⟩, rfl⟩ := p2
  refine Or.inr (Or.inl ⟨rfl, ?_⟩)
  exact r_lret c200_7 ⟨rfl, rfl, rfl⟩ ⟨rfl, ⟨_, rfl⟩, (by repeat (first | exact q_Fr.rf | refine q_Fr.ud ?_ (by omega) (by first | assumption | rfl) rfl | refine q_Fr.udz ?_ (by omega) (by first | assumption | decide | omega) | refine q_Fr.tr ?_ (by assumption) (by intro k9 hk9; omega)))⟩
theorem c219_0 : q_cat 219 0 (.aload_n 0) 1 0 0 (0) := ⟨rfl, rfl⟩
theorem c219_1 : q_cat 219 1 (.iload_n 1) 1 1 0 (0) := ⟨rfl, rfl⟩
theorem c219_2 : q_cat 219 2 (.iload_n 2) 1 2 0 (0) := ⟨rfl, rfl⟩
theorem c219_3 : q_cat 219 3 (.iload_n 3) 1 3 0 (0) := ⟨rfl, rfl⟩
theorem c219_4 : q_cat 219 4 (.invokevirtual 185) 3 166 0 (0) := ⟨rfl, rfl⟩
theorem c219_7 : q_cat 219 7 (.aload_n 0) 1 0 0 (0) := ⟨rfl, rfl⟩
theorem c219_8 : q_cat 219 8 (.invokevirtual 343) 3 161 0 (0) := ⟨rfl, rfl⟩
theorem c219_11 : q_cat 219 11 (.aload_n 0) 1 0 0 (0) := ⟨rfl, rfl⟩
theorem c219_12 : q_cat 219 12 (.getfield 53) 3 8 7 (3) := ⟨rfl, rfl⟩
theorem c219_15 : q_cat 219 15 (.invokevirtual 346) 3 143 0 (0) := ⟨rfl, rfl⟩
theorem c219_18 : q_cat 219 18 (.aload_n 0) 1 0 0 (0) := ⟨rfl, rfl⟩
theorem c219_19 : q_cat 219 19 (.getfield 53) 3 8 7 (3) := ⟨rfl, rfl⟩
theorem c219_22 : q_cat 219 22 (.iconst 0) 1 0 0 (0) := ⟨rfl, rfl⟩
theorem c219_23 : q_cat 219 23 (.iload_n 1) 1 1 0 (0) := ⟨rfl, rfl⟩
theorem c219_24 : q_cat 219 24 (.iload_n 2) 1 2 0 (0) := ⟨rfl, rfl⟩
theorem c219_25 : q_cat 219 25 (.iload_n 3) 1 3 0 (0) := ⟨rfl, rfl⟩
theorem c219_26 : q_cat 219 26 (.invokevirtual 196) 3 150 0 (0) := ⟨rfl, rfl⟩
theorem c219_29 : q_cat 219 29 (.aload_n 0) 1 0 0 (0) := ⟨rfl, rfl⟩
theorem c219_30 : q_cat 219 30 (.getfield 26) 3 8 2 (3) := ⟨rfl, rfl⟩
theorem c219_33 : q_cat 219 33 (.aload_n 0) 1 0 0 (0) := ⟨rfl, rfl⟩
theorem c219_34 : q_cat 219 34 (.getfield 53) 3 8 7 (3) := ⟨rfl, rfl⟩
theorem c219_37 : q_cat 219 37 (.invokevirtual 347) 3 135 0 (0) := ⟨rfl, rfl⟩
theorem c219_40 : q_cat 219 40 (.ifCond .eq 5) 3 45 0 (0) := ⟨rfl, rfl⟩
theorem c219_43 : q_cat 219 43 (.lconst 0) 1 0 0 (0) := ⟨rfl, rfl⟩
theorem c219_44 : q_cat 219 44 (.lreturn) 1 0 0 (0) := ⟨rfl, rfl⟩
theorem c219_45 : q_cat 219 45 (.aload_n 0) 1 0 0 (0) := ⟨rfl, rfl⟩
theorem c219_46 : q_cat 219 46 (.getfield 46) 3 8 6 (3) := ⟨rfl, rfl⟩
theorem c219_49 : q_cat 219 49 (.aload_n 0) 1 0 0 (0) := ⟨rfl, rfl⟩
theorem c219_50 : q_cat 219 50 (.getfield 26) 3 8 2 (3) := ⟨rfl, rfl⟩
theorem c219_53 : q_cat 219 53 (.aload_n 0) 1 0 0 (0) := ⟨rfl, rfl⟩
theorem c219_54 : q_cat 219 54 (.getfield 53) 3 8 7 (3) := ⟨rfl, rfl⟩
theorem c219_57 : q_cat 219 57 (.aload_n 0) 1 0 0 (0) := ⟨rfl, rfl⟩
theorem c219_58 : q_cat 219 58 (.getfield 26) 3 8 2 (3) := ⟨rfl, rfl⟩
theorem c219_61 : q_cat 219 61 (.getfield 102) 3 6 4 (0) := ⟨rfl, rfl⟩
theorem c219_64 : q_cat 219 64 (.invokevirtual 351) 3 84 0 (0) := ⟨rfl, rfl⟩
theorem c219_67 : q_cat 219 67 (.aload_n 0) 1 0 0 (0) := ⟨rfl, rfl⟩
theorem c219_68 : q_cat 219 68 (.getfield 46) 3 8 6 (3) := ⟨rfl, rfl⟩
theorem c219_71 : q_cat 219 71 (.invokevirtual 339) 3 102 0 (0) := ⟨rfl, rfl⟩
theorem c219_74 : q_cat 219 74 (.lreturn) 1 0 0 (0) := ⟨rfl, rfl⟩
theorem k219 {Γ : q_Γ} (hG : q_GG Γ) {h : q_F} (hZ : q_Bz h) {v1 : Int} {v2 : Int} {v3 : Int}  :
    q_M Γ q_K 155 219 [(2, Int.ofNat 0), (0, v1), (0, v2), (0, v3)] h (fun t w h' => (t = 1 ∧ (∃ z, w = ((1, z) : q_V)) ∧ q_Fr (fun k => k = 0 ∨ (6 ≤ k ∧ k ≤ 138)) h h') ∨ (t = 2 ∧ q_Fr (fun k => k = 0 ∨ (6 ≤ k ∧ k ≤ 138)) h h') ∨ (t = 4 ∧ q_Fr (fun k => k = 0 ∨ (6 ≤ k ∧ k ≤ 138)) h h')) := by
  have hT6 := q_hT6
  obtain ⟨fT6_0, fT6_1, fT6_2, fT6_3, fT6_4, fT6_5, fT6_6, fT6_7, fT6_8, fT6_9, fT6_10⟩ := q_fT hT6
  have hT15 := q_hT15
  obtain ⟨fT15_0, fT15_1, fT15_2, fT15_3, fT15_4, fT15_5, fT15_6, fT15_7, fT15_8, fT15_9, fT15_10⟩ := q_fT hT15
  have hT24 := q_hT24
  obtain ⟨fT24_0, fT24_1, fT24_2, fT24_3, fT24_4, fT24_5, fT24_6, fT24_7, fT24_8, fT24_9, fT24_10⟩ := q_fT hT24
  obtain ⟨gP0, gP1, gP2, gP3⟩ := q_fG q_hP
  refine q_M.of (by decide) (Nat.le_of_ble_eq_true rfl) hG ?_
  refine r_aload_n c219_0 rfl rfl ?_
  refine r_iload_n c219_1 rfl rfl ?_
  refine r_iload_n c219_2 rfl rfl ?_
  refine r_iload_n c219_3 rfl rfl ?_
  refine r_vcG c219_4 (by first | assumption | omega) (by decide) (by first | assumption | rfl) rfl rfl rfl (k166 hG (q_Fr.bz (S := fun k => k = 0 ∨ (6 ≤ k ∧ k ≤ 138)) hZ (by repeat (first | exact q_Fr.rf | refine q_Fr.ud ?_ (by omega) (by first | assumption | rfl) rfl | refine q_Fr.udz ?_ (by omega) (by first | assumption | decide | omega) | refine q_Fr.tr ?_ (by assumption) (by intro k9 hk9; omega))))) ?_
  intro t1 w1 g1 p1
  rcases p1 with ⟨rfl, rfl⟩ | ⟨rfl, rfl⟩
  · skip
    refine Or.inl ⟨rfl, ?_⟩
    refine r_aload_n c219_7 rfl rfl ?_
    refine r_vcG c219_8 (by first | assumption | omega) (by decide) (by first | assumption | rfl) rfl rfl rfl (k161 hG (q_Fr.bz (S := fun k => k = 0 ∨ (6 ≤ k ∧ k ≤ 138)) hZ (by repeat (first | exact q_Fr.rf | refine q_Fr.ud ?_ (by omega) (by first | assumption | rfl) rfl | refine q_Fr.udz ?_ (by omega) (by first | assumption | decide | omega) | refine q_Fr.tr ?_ (by assumption) (by intro k9 hk9; omega))))) ?_
    intro t2 w2 g2 p2
    rcases p2 with ⟨rfl, rfl⟩ | ⟨rfl, rfl⟩
    · skip
      refine Or.inl ⟨rfl, ?_⟩
      refine r_aload_n c219_11 rfl rfl ?_
      refine r_getr c219_12 (by first | assumption | omega) (by decide) (by first | assumption | rfl) rfl rfl ?_
      refine r_vcG c219_15 (by first | assumption | omega) (by decide) (by first | assumption | rfl) rfl rfl rfl (k143 hG (q_Fr.bz (S := fun k => k = 0 ∨ (6 ≤ k ∧ k ≤ 138)) hZ (by repeat (first | exact q_Fr.rf | refine q_Fr.ud ?_ (by omega) (by first | assumption | rfl) rfl | refine q_Fr.udz ?_ (by omega) (by first | assumption | decide | omega) | refine q_Fr.tr ?_ (by assumption) (by intro k9 hk9; omega)))) (by first | assumption | exact q_hC (by assumption) | exact q_h1 (by assumption) | exact q_h3 (by assumption) | exact q_h5 (by assumption) | exact q_hG (by assumption) | exact q_hP | exact q_hB1 | exact q_hB2 | exact q_hT6 | exact q_hT15 | exact q_hT24)) ?_
      intro t3 w3 g3 p3
      obtain ⟨rfl, e3⟩ := p3
      refine Or.inl ⟨rfl, ?_⟩
      refine r_aload_n c219_18 rfl rfl ?_
      refine r_getr c219_19 (by first | assumption | omega) (by decide) (by first | assumption | rfl) rfl rfl ?_
      refine r_iconst c219_22 rfl ?_
      refine r_iload_n c219_23 rfl rfl ?_
      refine r_iload_n c219_24 rfl rfl ?_
      refine r_iload_n c219_25 rfl rfl ?_
      refine r_vcG c219_26 (by first | assumption | omega) (by decide) (by first | assumption | rfl) rfl rfl rfl (k150 hG (q_Fr.bz (S := fun k => k = 0 ∨ (6 ≤ k ∧ k ≤ 138)) hZ (by repeat (first | exact q_Fr.rf | refine q_Fr.ud ?_ (by omega) (by first | assumption | rfl) rfl | refine q_Fr.udz ?_ (by omega) (by first | assumption | decide | omega) | refine q_Fr.tr ?_ (by assumption) (by intro k9 hk9; omega)))) (by first | assumption | exact q_hC (by assumption) | exact q_h1 (by assumption) | exact q_h3 (by assumption) | exact q_h5 (by assumption) | exact q_hG (by assumption) | exact q_hP | exact q_hB1 | exact q_hB2 | exact q_hT6 | exact q_hT15 | exact q_hT24)) ?_
      intro t4 w4 g4 p4
      obtain ⟨rfl, e4⟩ := p4
      refine Or.inl ⟨rfl, ?_⟩
      refine r_aload_n c219_29 rfl rfl ?_
      refine r_getr c219_30 (by first | assumption | omega) (by decide) (by first | assumption | rfl) rfl rfl ?_
      refine r_aload_n c219_33 rfl rfl ?_
      refine r_getr c219_34 (by first | assumption | omega) (by decide) (by first | assumption | rfl) rfl rfl ?_
      refine r_vcG c219_37 (by first | assumption | omega) (by decide) (by first | assumption | rfl) rfl rfl rfl (k135 hG (q_Fr.bz (S := fun k => k = 0 ∨ (6 ≤ k ∧ k ≤ 138)) hZ (by repeat (first | exact q_Fr.rf | refine q_Fr.ud ?_ (by omega) (by first | assumption | rfl) rfl | refine q_Fr.udz ?_ (by omega) (by first | assumption | decide | omega) | refine q_Fr.tr ?_ (by assumption) (by intro k9 hk9; omega)))) (by first | assumption | exact q_hC (by assumption) | exact q_h1 (by assumption) | exact q_h3 (by assumption) | exact q_h5 (by assumption) | exact q_hG (by assumption) | exact q_hP | exact q_hB1 | exact q_hB2 | exact q_hT6 | exact q_hT15 | exact q_hT24) (by first | assumption | exact q_hC (by assumption) | exact q_h1 (by assumption) | exact q_h3 (by assumption) | exact q_h5 (by assumption) | exact q_hG (by assumption) | exact q_hP | exact q_hB1 | exact q_hB2 | exact q_hT6 | exact q_hT15 | exact q_hT24)) ?_
      intro t5 w5 g5 p5
      obtain ⟨rfl, ⟨z5, rfl, hz5⟩, rfl⟩ := p5
      refine Or.inr (Or.inl ⟨rfl, ?_⟩)
      refine r_if_eq c219_40 rfl (by first | exact q_w32_id (by omega) (by omega) | exact q_w32w _ | exact rfl) ?_ ?_
      · intro b6
        refine r_aload_n c219_45 rfl rfl ?_
        refine r_getr c219_46 (by first | assumption | omega) (by decide) (by first | assumption | rfl) rfl rfl ?_
        refine r_aload_n c219_49 rfl rfl ?_
        refine r_getr c219_50 (by first | assumption | omega) (by decide) (by first | assumption | rfl) rfl rfl ?_
        refine r_aload_n c219_53 rfl rfl ?_
        refine r_getr c219_54 (by first | assumption | omega) (by decide) (by first | assumption | rfl) rfl rfl ?_
        refine r_aload_n c219_57 rfl rfl ?_
        refine r_getr c219_58 (by first | assumption | omega) (by decide) (by first | assumption | rfl) rfl rfl ?_
        refine r_geti c219_61 (by first | assumption | omega) (by decide) (by first | assumption | rfl) rfl rfl ?_
        refine r_vcG c219_64 (by first | assumption | omega) (by decide) (by first | assumption | rfl) rfl rfl rfl (k84 hG (q_Fr.bz (S := fun k => k = 0 ∨ (6 ≤ k ∧ k ≤ 138)) hZ (by repeat (first | exact q_Fr.rf | refine q_Fr.ud ?_ (by omega) (by first | assumption | rfl) rfl | refine q_Fr.udz ?_ (by omega) (by first | assumption | decide | omega) | refine q_Fr.tr ?_ (by assumption) (by intro k9 hk9; omega)))) (by first | assumption | exact q_hC (by assumption) | exact q_h1 (by assumption) | exact q_h3 (by assumption) | exact q_h5 (by assumption) | exact q_hG (by assumption) | exact q_hP | exact q_hB1 | exact q_hB2 | exact q_hT6 | exact q_hT15 | exact q_hT24) (by first | assumption | exact q_hC (by assumption) | exact q_h1 (by assumption) | exact q_h3 (by assumption) | exact q_h5 (by assumption) | exact q_hG (by assumption) | exact q_hP | exact q_hB1 | exact q_hB2 | exact q_hT6 | exact q_hT15 | exact q_hT24)) ?_
        intro t7 w7 g7 p7
        obtain ⟨rfl, e7⟩ := p7
        refine Or.inl ⟨rfl, ?_⟩
        refine r_aload_n c219_67 rfl rfl ?_
        refine r_getr c219_68 (by first | assumption | omega) (by decide) (by first | assumption | rfl) rfl rfl ?_
        refine r_vcG c219_71 (by first | assumption | omega) (by decide) (by first | assumption | rfl) rfl rfl rfl (k102 hG (q_Fr.bz (S := fun k => k = 0 ∨ (6 ≤ k ∧ k ≤ 138)) hZ (by repeat (first | exact q_Fr.rf | refine q_Fr.ud ?_ (by omega) (by first | assumption | rfl) rfl | refine q_Fr.udz ?_ (by omega) (by first | assumption | decide | omega) | refine q_Fr.tr ?_ (by assumption) (by intro k9 hk9; omega))))) ?_
        intro t8 w8 g8 p8
        obtain ⟨rfl, ⟨z8, rfl⟩, rfl⟩ := p8
        refine Or.inr (Or.inl ⟨rfl, ?_⟩)
        exact r_lret c219_74 ⟨rfl, rfl, rfl⟩ (Or.inl ⟨rfl, ⟨_, rfl⟩, (by repeat (first | exact q_Fr.rf | refine q_Fr.ud ?_ (by omega) (by first | assumption | rfl) rfl | refine q_Fr.udz ?_ (by omega) (by first | assumption | decide | omega) | refine q_Fr.tr ?_ (by assumption) (by intro k9 hk9; omega)))⟩)
      · intro b6
        refine r_lconst c219_43 rfl ?_
        exact r_lret c219_44 ⟨rfl, rfl, rfl⟩ (Or.inl ⟨rfl, ⟨_, rfl⟩, (by repeat (first | exact q_Fr.rf | refine q_Fr.ud ?_ (by omega) (by first | assumption | rfl) rfl | refine q_Fr.udz ?_ (by omega) (by first | assumption | decide | omega) | refine q_Fr.tr ?_ (by assumption) (by intro k9 hk9; omega)))⟩)
    · refine Or.inr (Or.inr ⟨2, rfl, ?_⟩)
      exact Or.inr ⟨rfl, (Or.inr (Or.inr (⟨rfl, (by repeat (first | exact q_Fr.rf | refine q_Fr.ud ?_ (by omega) (by first | assumption | rfl) rfl | refine q_Fr.udz ?_ (by omega) (by first | assumption | decide | omega) | refine q_Fr.tr ?_ (by assumption) (by intro k9 hk9; omega)))⟩)))⟩
  · refine Or.inr (Or.inr ⟨0, rfl, ?_⟩)
    exact Or.inr ⟨rfl, (Or.inr (Or.inl ⟨rfl, (by repeat (first | exact q_Fr.rf | refine q_Fr.ud ?_ (by omega) (by first | assumption | rfl) rfl | refine q_Fr.udz ?_ (by omega) (by first | assumption | decide | omega) | refine q_Fr.tr ?_ (by assumption) (by intro k9 hk9; omega)))⟩))⟩
theorem c233_0 : q_cat 233 0 (.aload_n 0) 1 0 0 (0) := ⟨rfl, rfl⟩
theorem c233_1 : q_cat 233 1 (.getfield 26) 3 8 2 (3) := ⟨rfl, rfl⟩
theorem c233_4 : q_cat 233 4 (.invokevirtual 355) 3 136 0 (0) := ⟨rfl, rfl⟩
theorem c233_7 : q_cat 233 7 (.istore_n 1) 1 1 0 (0) := ⟨rfl, rfl⟩
theorem c233_8 : q_cat 233 8 (.aload_n 0) 1 0 0 (0) := ⟨rfl, rfl⟩
theorem c233_9 : q_cat 233 9 (.invokevirtual 335) 3 179 0 (0) := ⟨rfl, rfl⟩
theorem c233_12 : q_cat 233 12 (.invokevirtual 355) 3 136 0 (0) := ⟨rfl, rfl⟩
theorem c233_15 : q_cat 233 15 (.iload_n 1) 1 1 0 (0) := ⟨rfl, rfl⟩
theorem c233_16 : q_cat 233 16 (.isub) 1 0 0 (0) := ⟨rfl, rfl⟩
theorem c233_17 : q_cat 233 17 (.ireturn) 1 0 0 (0) := ⟨rfl, rfl⟩
theorem k233 {Γ : q_Γ} (hG : q_GG Γ) {h : q_F} (hZ : q_Bz h)   :
    q_M Γ q_K 155 233 [(2, Int.ofNat 0)] h (fun t w h' => (t = 1 ∧ (∃ z, w = ((0, z) : q_V)) ∧ q_Fr (fun k => k = 0 ∨ (6 ≤ k ∧ k ≤ 138)) h h')) := by
  have hT6 := q_hT6
  obtain ⟨fT6_0, fT6_1, fT6_2, fT6_3, fT6_4, fT6_5, fT6_6, fT6_7, fT6_8, fT6_9, fT6_10⟩ := q_fT hT6
  have hT15 := q_hT15
  obtain ⟨fT15_0, fT15_1, fT15_2, fT15_3, fT15_4, fT15_5, fT15_6, fT15_7, fT15_8, fT15_9, fT15_10⟩ := q_fT hT15
  have hT24 := q_hT24
  obtain ⟨fT24_0, fT24_1, fT24_2, fT24_3, fT24_4, fT24_5, fT24_6, fT24_7, fT24_8, fT24_9, fT24_10⟩ := q_fT hT24
  obtain ⟨gP0, gP1, gP2, gP3⟩ := q_fG q_hP
  refine q_M.of (by decide) (Nat.le_of_ble_eq_true rfl) hG ?_
  refine r_aload_n c233_0 rfl rfl ?_
  refine r_getr c233_1 (by first | assumption | omega) (by decide) (by first | assumption | rfl) rfl rfl ?_
  refine r_vcG c233_4 (by first | assumption | omega) (by decide) (by first | assumption | rfl) rfl rfl rfl (k136 hG (q_Fr.bz (S := fun k => k = 0 ∨ (6 ≤ k ∧ k ≤ 138)) hZ (by repeat (first | exact q_Fr.rf | refine q_Fr.ud ?_ (by omega) (by first | assumption | rfl) rfl | refine q_Fr.udz ?_ (by omega) (by first | assumption | decide | omega) | refine q_Fr.tr ?_ (by assumption) (by intro k9 hk9; omega)))) (by first | assumption | exact q_hC (by assumption) | exact q_h1 (by assumption) | exact q_h3 (by assumption) | exact q_h5 (by assumption) | exact q_hG (by assumption) | exact q_hP | exact q_hB1 | exact q_hB2 | exact q_hT6 | exact q_hT15 | exact q_hT24)) ?_
  intro t1 w1 g1 p1
  obtain ⟨rfl, ⟨z1, rfl⟩, rfl⟩ := p1
  refine Or.inr (Or.inl ⟨rfl, ?_⟩)
  refine r_istore_n c233_7 (lo' := [(1, _), (0, _)]) rfl rfl rfl ?_
  refine r_aload_n c233_8 rfl rfl ?_
  refine r_vcG c233_9 (by first | assumption | omega) (by decide) (by first | assumption | rfl) rfl rfl rfl (k179 hG (q_Fr.bz (S := fun k => k = 0 ∨ (6 ≤ k ∧ k ≤ 138)) hZ (by repeat (first | exact q_Fr.rf | refine q_Fr.ud ?_ (by omega) (by first | assumption | rfl) rfl | refine q_Fr.udz ?_ (by omega) (by first | assumption | decide | omega) | refine q_Fr.tr ?_ (by assumption) (by intro k9 hk9; omega))))) ?_
  intro t2 w2 g2 p2
  obtain ⟨rfl, rfl, e2⟩ := p2
  refine Or.inr (Or.inl ⟨rfl, ?_⟩)
  refine r_vcG c233_12 (by first | assumption | omega) (by decide) (by first | assumption | rfl) rfl rfl rfl (k136 hG (q_Fr.bz (S := fun k => k = 0 ∨ (6 ≤ k ∧ k ≤ 138)) hZ (by repeat (first | exact q_Fr.rf | refine q_Fr.ud ?_ (by omega) (by first | assumption | rfl) rfl | refine q_Fr.udz ?_ (by omega) (by first | assumption | decide | omega) | refine q_Fr.tr ?_ (by assumption) (by intro k9 hk9; omega)))) (by first | assumption | exact q_hC (by assumption) | exact q_h1 (by assumption) | exact q_h3 (by assumption) | exact q_h5 (by assumption) | exact q_hG (by assumption) | exact q_hP | exact q_hB1 | exact q_hB2 | exact q_hT6 | exact q_hT15 | exact q_hT24)) ?_
  intro t3 w3 g3 p3
  obtain ⟨rfl, ⟨z3, rfl⟩, rfl⟩ := p3
  refine Or.inr (Or.inl ⟨rfl, ?_⟩)
  refine r_iload_n c233_15 rfl rfl ?_
  refine r_isub c233_16 (by first | exact q_w32_id (by omega) (by omega) | exact q_w32w _ | exact rfl) rfl ?_
  exact r_iret c233_17 ⟨rfl, rfl, rfl⟩ ⟨rfl, ⟨_, rfl⟩, (by repeat (first | exact q_Fr.rf | refine q_Fr.ud ?_ (by omega) (by first | assumption | rfl) rfl | refine q_Fr.udz ?_ (by omega) (by first | assumption | decide | omega) | refine q_Fr.tr ?_ (by assumption) (by intro k9 hk9; omega)))⟩
theorem c231_0 : q_cat 231 0 (.aload_n 0) 1 0 0 (0) := ⟨rfl, rfl⟩
theorem c231_1 : q_cat 231 1 (.iload_n 1) 1 1 0 (0) := ⟨rfl, rfl⟩
theorem c231_2 : q_cat 231 2 (.invokevirtual 132) 3 162 0 (0) := ⟨rfl, rfl⟩
theorem c231_5 : q_cat 231 5 (.aload_n 0) 1 0 0 (0) := ⟨rfl, rfl⟩
theorem c231_6 : q_cat 231 6 (.iload_n 1) 1 1 0 (0) := ⟨rfl, rfl⟩
theorem c231_7 : q_cat 231 7 (.invokevirtual 146) 3 163 0 (0) := ⟨rfl, rfl⟩
theorem c231_10 : q_cat 231 10 (.aload_n 0) 1 0 0 (0) := ⟨rfl, rfl⟩
theorem c231_11 : q_cat 231 11 (.invokevirtual 335) 3 179 0 (0) := ⟨rfl, rfl⟩
theorem c231_14 : q_cat 231 14 (.iload_n 1) 1 1 0 (0) := ⟨rfl, rfl⟩
theorem c231_15 : q_cat 231 15 (.invokevirtual 135) 3 125 0 (0) := ⟨rfl, rfl⟩
theorem c231_18 : q_cat 231 18 (.invokevirtual 152) 3 47 0 (0) := ⟨rfl, rfl⟩
theorem c231_21 : q_cat 231 21 (.ireturn) 1 0 0 (0) := ⟨rfl, rfl⟩
theorem k231 {Γ : q_Γ} (hG : q_GG Γ) {h : q_F} (hZ : q_Bz h) {v1 : Int}  :
    q_M Γ q_K 155 231 [(2, Int.ofNat 0), (0, v1)] h (fun t w h' => (t = 1 ∧ (∃ z, w = ((0, z) : q_V)) ∧ q_Fr (fun k => k = 0 ∨ (6 ≤ k ∧ k ≤ 138)) h h') ∨ (t = 3 ∧ q_Fr (fun k => k = 0 ∨ (6 ≤ k ∧ k ≤ 138)) h h') ∨ (t = 4 ∧ q_Fr (fun k => k = 0 ∨ (6 ≤ k ∧ k ≤ 138)) h h')) := by
  have hT6 := q_hT6
  obtain ⟨fT6_0, fT6_1, fT6_2, fT6_3, fT6_4, fT6_5, fT6_6, fT6_7, fT6_8, fT6_9, fT6_10⟩ := q_fT hT6
  have hT15 := q_hT15
  obtain ⟨fT15_0, fT15_1, fT15_2, fT15_3, fT15_4, fT15_5, fT15_6, fT15_7, fT15_8, fT15_9, fT15_10⟩ := q_fT hT15
  have hT24 := q_hT24
  obtain ⟨fT24_0, fT24_1, fT24_2, fT24_3, fT24_4, fT24_5, fT24_6, fT24_7, fT24_8, fT24_9, fT24_10⟩ := q_fT hT24
  obtain ⟨gP0, gP1, gP2, gP3⟩ := q_fG q_hP
  refine q_M.of (by decide) (Nat.le_of_ble_eq_true rfl) hG ?_
  refine r_aload_n c231_0 rfl rfl ?_
  refine r_iload_n c231_1 rfl rfl ?_
  refine r_vcG c231_2 (by first | assumption | omega) (by decide) (by first | assumption | rfl) rfl rfl rfl (k162 hG (q_Fr.bz (S := fun k => k = 0 ∨ (6 ≤ k ∧ k ≤ 138)) hZ (by repeat (first | exact q_Fr.rf | refine q_Fr.ud ?_ (by omega) (by first | assumption | rfl) rfl | refine q_Fr.udz ?_ (by omega) (by first | assumption | decide | omega) | refine q_Fr.tr ?_ (by assumption) (by intro k9 hk9; omega))))) ?_
  intro t1 w1 g1 p1
  rcases p1 with ⟨rfl, rfl⟩ | ⟨rfl, rfl⟩
  · skip
    refine Or.inl ⟨rfl, ?_⟩
    refine r_aload_n c231_5 rfl rfl ?_
    refine r_iload_n c231_6 rfl rfl ?_
    refine r_vcG c231_7 (by first | assumption | omega) (by decide) (by first | assumption | rfl) rfl rfl rfl (k163 hG (q_Fr.bz (S := fun k => k = 0 ∨ (6 ≤ k ∧ k ≤ 138)) hZ (by repeat (first | exact q_Fr.rf | refine q_Fr.ud ?_ (by omega) (by first | assumption | rfl) rfl | refine q_Fr.udz ?_ (by omega) (by first | assumption | decide | omega) | refine q_Fr.tr ?_ (by assumption) (by intro k9 hk9; omega))))) ?_
    intro t2 w2 g2 p2
    rcases p2 with ⟨rfl, rfl⟩ | ⟨rfl, rfl⟩
    · skip
      refine Or.inl ⟨rfl, ?_⟩
      refine r_aload_n c231_10 rfl rfl ?_
      refine r_vcG c231_11 (by first | assumption | omega) (by decide) (by first | assumption | rfl) rfl rfl rfl (k179 hG (q_Fr.bz (S := fun k => k = 0 ∨ (6 ≤ k ∧ k ≤ 138)) hZ (by repeat (first | exact q_Fr.rf | refine q_Fr.ud ?_ (by omega) (by first | assumption | rfl) rfl | refine q_Fr.udz ?_ (by omega) (by first | assumption | decide | omega) | refine q_Fr.tr ?_ (by assumption) (by intro k9 hk9; omega))))) ?_
      intro t3 w3 g3 p3
      obtain ⟨rfl, rfl, e3⟩ := p3
      refine Or.inr (Or.inl ⟨rfl, ?_⟩)
      refine r_iload_n c231_14 rfl rfl ?_
      refine r_vcG c231_15 (by first | assumption | omega) (by decide) (by first | assumption | rfl) rfl rfl rfl (k125 hG (q_Fr.bz (S := fun k => k = 0 ∨ (6 ≤ k ∧ k ≤ 138)) hZ (by repeat (first | exact q_Fr.rf | refine q_Fr.ud ?_ (by omega) (by first | assumption | rfl) rfl | refine q_Fr.udz ?_ (by omega) (by first | assumption | decide | omega) | refine q_Fr.tr ?_ (by assumption) (by intro k9 hk9; omega)))) (by first | assumption | exact q_hC (by assumption) | exact q_h1 (by assumption) | exact q_h3 (by assumption) | exact q_h5 (by assumption) | exact q_hG (by assumption) | exact q_hP | exact q_hB1 | exact q_hB2 | exact q_hT6 | exact q_hT15 | exact q_hT24)) ?_
      intro t4 w4 g4 p4
      obtain ⟨rfl, ⟨r4, rfl, ha4, hr4⟩, rfl⟩ := p4
      obtain ⟨fr40, fr41, fr42, fr43⟩ := q_fA ha4
      refine Or.inr (Or.inl ⟨rfl, ?_⟩)
      refine r_vcG c231_18 (by first | assumption | omega) (by decide) (by first | assumption | rfl) rfl rfl rfl (k47 hG (q_Fr.bz (S := fun k => k = 0 ∨ (6 ≤ k ∧ k ≤ 138)) hZ (by repeat (first | exact q_Fr.rf | refine q_Fr.ud ?_ (by omega) (by first | assumption | rfl) rfl | refine q_Fr.udz ?_ (by omega) (by first | assumption | decide | omega) | refine q_Fr.tr ?_ (by assumption) (by intro k9 hk9; omega)))) (by first | assumption | exact q_hC (by assumption) | exact q_h1 (by assumption) | exact q_h3 (by assumption) | exact q_h5 (by assumption) | exact q_hG (by assumption) | exact q_hP | exact q_hB1 | exact q_hB2 | exact q_hT6 | exact q_hT15 | exact q_hT24)) ?_
      intro t5 w5 g5 p5
      obtain ⟨rfl, ⟨z5, rfl⟩, rfl⟩ := p5
      refine Or.inr (Or.inl ⟨rfl, ?_⟩)
      exact r_iret c231_21 ⟨rfl, rfl, rfl⟩ (Or.inl ⟨rfl, ⟨_, rfl⟩, (by repeat (first | exact q_Fr.rf | refine q_Fr.ud ?_ (by omega) (by first | assumption | rfl) rfl | refine q_Fr.udz ?_ (by omega) (by first | assumption | decide | omega) | refine q_Fr.tr ?_ (by assumption) (by intro k9 hk9; omega)))⟩)
    · refine Or.inr (Or.inr ⟨2, rfl, ?_⟩)
      exact Or.inr ⟨rfl, (Or.inr (Or.inr (⟨rfl, (by repeat (first | exact q_Fr.rf | refine q_Fr.ud ?_ (by omega) (by first | assumption | rfl) rfl | refine q_Fr.udz ?_ (by omega) (by first | assumption | decide | omega) | refine q_Fr.tr ?_ (by assumption) (by intro k9 hk9; omega)))⟩)))⟩
  · refine Or.inr (Or.inr ⟨1, rfl, ?_⟩)
    exact Or.inr ⟨rfl, (Or.inr (Or.inl ⟨rfl, (by repeat (first | exact q_Fr.rf | refine q_Fr.ud ?_ (by omega) (by first | assumption | rfl) rfl | refine q_Fr.udz ?_ (by omega) (by first | assumption | decide | omega) | refine q_Fr.tr ?_ (by assumption) (by intro k9 hk9; omega)))⟩))⟩
theorem c232_0 : q_cat 232 0 (.aload_n 0) 1 0 0 (0) := ⟨rfl, rfl⟩
theorem c232_1 : q_cat 232 1 (.iload_n 1) 1 1 0 (0) := ⟨rfl, rfl⟩
theorem c232_2 : q_cat 232 2 (.invokevirtual 132) 3 162 0 (0) := ⟨rfl, rfl⟩
theorem c232_5 : q_cat 232 5 (.aload_n 0) 1 0 0 (0) := ⟨rfl, rfl⟩
theorem c232_6 : q_cat 232 6 (.getfield 33) 3 8 4 (3) := ⟨rfl, rfl⟩
theorem c232_9 : q_cat 232 9 (.aload_n 0) 1 0 0 (0) := ⟨rfl, rfl⟩
theorem c232_10 : q_cat 232 10 (.getfield 26) 3 8 2 (3) := ⟨rfl, rfl⟩
theorem c232_13 : q_cat 232 13 (.invokevirtual 358) 3 127 0 (0) := ⟨rfl, rfl⟩
theorem c232_16 : q_cat 232 16 (.aload_n 0) 1 0 0 (0) := ⟨rfl, rfl⟩
theorem c232_17 : q_cat 232 17 (.getfield 33) 3 8 4 (3) := ⟨rfl, rfl⟩
theorem c232_20 : q_cat 232 20 (.iload_n 1) 1 1 0 (0) := ⟨rfl, rfl⟩
theorem c232_21 : q_cat 232 21 (.invokevirtual 173) 3 131 0 (0) := ⟨rfl, rfl⟩
theorem c232_24 : q_cat 232 24 (.ireturn) 1 0 0 (0) := ⟨rfl, rfl⟩
theorem k232 {Γ : q_Γ} (hG : q_GG Γ) {h : q_F} (hZ : q_Bz h) {v1 : Int}  :
    q_M Γ q_K 155 232 [(2, Int.ofNat 0), (0, v1)] h (fun t w h' => (t = 1 ∧ (∃ z, w = ((0, z) : q_V)) ∧ q_Fr (fun k => k = 0 ∨ (6 ≤ k ∧ k ≤ 138)) h h') ∨ (t = 3 ∧ q_Fr (fun k => k = 0 ∨ (6 ≤ k ∧ k ≤ 138)) h h')) := by
  have hT6 := q_hT6
  obtain ⟨fT6_0, fT6_1, fT6_2, fT6_3, fT6_4, fT6_5, fT6_6, fT6_7, fT6_8, fT6_9, fT6_10⟩ := q_fT hT6
  have hT15 := q_hT15
  obtain ⟨fT15_0, fT15_1, fT15_2, fT15_3, fT15_4, fT15_5, fT15_6, fT15_7, fT15_8, fT15_9, fT15_10⟩ := q_fT hT15
  have hT24 := q_hT24
  obtain ⟨fT24_0, fT24_1, fT24_2, fT24_3, fT24_4, fT24_5, fT24_6, fT24_7, fT24_8, fT24_9, fT24_10⟩ := q_fT hT24
  obtain ⟨gP0, gP1, gP2, gP3⟩ := q_fG q_hP
  refine q_M.of (by decide) (Nat.le_of_ble_eq_true rfl) hG ?_
  refine r_aload_n c232_0 rfl rfl ?_
  refine r_iload_n c232_1 rfl rfl ?_
  refine r_vcG c232_2 (by first | assumption | omega) (by decide) (by first | assumption | rfl) rfl rfl rfl (k162 hG (q_Fr.bz (S := fun k => k = 0 ∨ (6 ≤ k ∧ k ≤ 138)) hZ (by repeat (first | exact q_Fr.rf | refine q_Fr.ud ?_ (by omega) (by first | assumption | rfl) rfl | refine q_Fr.udz ?_ (by omega) (by first | assumption | decide | omega) | refine q_Fr.tr ?_ (by assumption) (by intro k9 hk9; omega))))) ?_
  intro t1 w1 g1 p1
  rcases p1 with ⟨rfl, rfl⟩ | ⟨rfl, rfl⟩
  · skip
    refine Or.inl ⟨rfl, ?_⟩
    refine r_aload_n c232_5 rfl rfl ?_
    refine r_getr c232_6 (by first | assumption | omega) (by decide) (by first | assumption | rfl) rfl rfl ?_
    refine r_aload_n c232_9 rfl rfl ?_
    refine r_getr c232_10 (by first | assumption | omega) (by decide) (by first | assumption | rfl) rfl rfl ?_
    refine r_vcG c232_13 (by first | assumption | omega) (by decide) (by first | assumption | rfl) rfl rfl rfl (k127 hG (q_Fr.bz (S := fun k => k = 0 ∨ (6 ≤ k ∧ k ≤ 138)) hZ (by repeat (first | exact q_Fr.rf | refine q_Fr.ud ?_ (by omega) (by first | assumption | rfl) rfl | refine q_Fr.udz ?_ (by omega) (by first | assumption | decide | omega) | refine q_Fr.tr ?_ (by assumption) (by intro k9 hk9; omega)))) (by first | assumption | exact q_hC (by assumption) | exact q_h1 (by assumption) | exact q_h3 (by assumption) | exact q_h5 (by assumption) | exact q_hG (by assumption) | exact q_hP | exact q_hB1 | exact q_hB2 | exact q_hT6 | exact q_hT15 | exact q_hT24) (by first | assumption | exact q_hC (by assumption) | exact q_h1 (by assumption) | exact q_h3 (by assumption) | exact q_h5 (by assumption) | exact q_hG (by assumption) | exact q_hP | exact q_hB1 | exact q_hB2 | exact q_hT6 | exact q_hT15 | exact q_hT24)) ?_
    intro t2 w2 g2 p2
    obtain ⟨rfl, e2⟩ := p2
    refine Or.inl ⟨rfl, ?_⟩
    refine r_aload_n c232_16 rfl rfl ?_
    refine r_getr c232_17 (by first | assumption | omega) (by decide) (by first | assumption | rfl) rfl rfl ?_
    refine r_iload_n c232_20 rfl rfl ?_
    refine r_vcG c232_21 (by first | assumption | omega) (by decide) (by first | assumption | rfl) rfl rfl rfl (k131 hG (q_Fr.bz (S := fun k => k = 0 ∨ (6 ≤ k ∧ k ≤ 138)) hZ (by repeat (first | exact q_Fr.rf | refine q_Fr.ud ?_ (by omega) (by first | assumption | rfl) rfl | refine q_Fr.udz ?_ (by omega) (by first | assumption | decide | omega) | refine q_Fr.tr ?_ (by assumption) (by intro k9 hk9; omega)))) (by first | assumption | exact q_hC (by assumption) | exact q_h1 (by assumption) | exact q_h3 (by assumption) | exact q_h5 (by assumption) | exact q_hG (by assumption) | exact q_hP | exact q_hB1 | exact q_hB2 | exact q_hT6 | exact q_hT15 | exact q_hT24)) ?_
    intro t3 w3 g3 p3
    obtain ⟨rfl, ⟨z3, rfl⟩, e3⟩ := p3
    refine Or.inr (Or.inl ⟨rfl, ?_⟩)
    exact r_iret c232_24 ⟨rfl, rfl, rfl⟩ (Or.inl ⟨rfl, ⟨_, rfl⟩, (by repeat (first | exact q_Fr.rf | refine q_Fr.ud ?_ (by omega) (by first | assumption | rfl) rfl | refine q_Fr.udz ?_ (by omega) (by first | assumption | decide | omega) | refine q_Fr.tr ?_ (by assumption) (by intro k9 hk9; omega)))⟩)
  · refine Or.inr (Or.inr ⟨1, rfl, ?_⟩)
    exact Or.inr ⟨rfl, (Or.inr (⟨rfl, (by repeat (first | exact q_Fr.rf | refine q_Fr.ud ?_ (by omega) (by first | assumption | rfl) rfl | refine q_Fr.udz ?_ (by omega) (by first | assumption | decide | omega) | refine q_Fr.tr ?_ (by assumption) (by intro k9 hk9; omega)))⟩))⟩
theorem c158_0 : q_cat 158 0 (.iconst (-1)) 1 0 0 (0) := ⟨rfl, rfl⟩
theorem c158_1 : q_cat 158 1 (.istore_n 1) 1 1 0 (0) := ⟨rfl, rfl⟩
theorem c158_2 : q_cat 158 2 (.lconst 0) 1 0 0 (0) := ⟨rfl, rfl⟩
theorem c158_3 : q_cat 158 3 (.lstore_n 2) 1 2 0 (0) := ⟨rfl, rfl⟩
theorem c158_4 : q_cat 158 4 (.iconst 0) 1 0 0 (0) := ⟨rfl, rfl⟩
theorem c158_5 : q_cat 158 5 (.istore 4) 2 4 0 (0) := ⟨rfl, rfl⟩
theorem c158_7 : q_cat 158 7 (.iload 4) 2 4 0 (0) := ⟨rfl, rfl⟩
theorem c158_9 : q_cat 158 9 (.aload_n 0) 1 0 0 (0) := ⟨rfl, rfl⟩
theorem c158_10 : q_cat 158 10 (.getfield 26) 3 8 2 (3) := ⟨rfl, rfl⟩
theorem c158_13 : q_cat 158 13 (.getfield 114) 3 6 3 (3) := ⟨rfl, rfl⟩
theorem c158_16 : q_cat 158 16 (.getfield 117) 3 7 1 (0) := ⟨rfl, rfl⟩
theorem c158_19 : q_cat 158 19 (.if_icmp .ge 70) 3 89 0 (0) := ⟨rfl, rfl⟩
theorem c158_22 : q_cat 158 22 (.aload_n 0) 1 0 0 (0) := ⟨rfl, rfl⟩
theorem c158_23 : q_cat 158 23 (.getfield 26) 3 8 2 (3) := ⟨rfl, rfl⟩
theorem c158_26 : q_cat 158 26 (.aload_n 0) 1 0 0 (0) := ⟨rfl, rfl⟩
theorem c158_27 : q_cat 158 27 (.getfield 53) 3 8 7 (3) := ⟨rfl, rfl⟩
theorem c158_30 : q_cat 158 30 (.iload 4) 2 4 0 (0) := ⟨rfl, rfl⟩
theorem c158_32 : q_cat 158 32 (.invokevirtual 360) 3 124 0 (0) := ⟨rfl, rfl⟩
theorem c158_35 : q_cat 158 35 (.aload_n 0) 1 0 0 (0) := ⟨rfl, rfl⟩
theorem c158_36 : q_cat 158 36 (.getfield 46) 3 8 6 (3) := ⟨rfl, rfl⟩
theorem c158_39 : q_cat 158 39 (.aload_n 0) 1 0 0 (0) := ⟨rfl, rfl⟩
theorem c158_40 : q_cat 158 40 (.getfield 26) 3 8 2 (3) := ⟨rfl, rfl⟩
theorem c158_43 : q_cat 158 43 (.aload_n 0) 1 0 0 (0) := ⟨rfl, rfl⟩
theorem c158_44 : q_cat 158 44 (.getfield 53) 3 8 7 (3) := ⟨rfl, rfl⟩
theorem c158_47 : q_cat 158 47 (.aload_n 0) 1 0 0 (0) := ⟨rfl, rfl⟩
theorem c158_48 : q_cat 158 48 (.getfield 26) 3 8 2 (3) := ⟨rfl, rfl⟩
theorem c158_51 : q_cat 158 51 (.getfield 102) 3 6 4 (0) := ⟨rfl, rfl⟩
theorem c158_54 : q_cat 158 54 (.invokevirtual 351) 3 84 0 (0) := ⟨rfl, rfl⟩
theorem c158_57 : q_cat 158 57 (.aload_n 0) 1 0 0 (0) := ⟨rfl, rfl⟩
theorem c158_58 : q_cat 158 58 (.getfield 46) 3 8 6 (3) := ⟨rfl, rfl⟩
theorem c158_61 : q_cat 158 61 (.invokevirtual 339) 3 102 0 (0) := ⟨rfl, rfl⟩
theorem c158_64 : q_cat 158 64 (.lstore 5) 2 5 0 (0) := ⟨rfl, rfl⟩
theorem c158_66 : q_cat 158 66 (.iload_n 1) 1 1 0 (0) := ⟨rfl, rfl⟩
theorem c158_67 : q_cat 158 67 (.ifCond .lt 10) 3 77 0 (0) := ⟨rfl, rfl⟩
theorem c158_70 : q_cat 158 70 (.lload 5) 2 5 0 (0) := ⟨rfl, rfl⟩
theorem c158_72 : q_cat 158 72 (.lload_n 2) 1 2 0 (0) := ⟨rfl, rfl⟩
theorem c158_73 : q_cat 158 73 (.lcmp) 1 0 0 (0) := ⟨rfl, rfl⟩
theorem c158_74 : q_cat 158 74 (.ifCond .ge 9) 3 83 0 (0) := ⟨rfl, rfl⟩
theorem c158_77 : q_cat 158 77 (.iload 4) 2 4 0 (0) := ⟨rfl, rfl⟩
theorem c158_79 : q_cat 158 79 (.istore_n 1) 1 1 0 (0) := ⟨rfl, rfl⟩
theorem c158_80 : q_cat 158 80 (.lload 5) 2 5 0 (0) := ⟨rfl, rfl⟩
theorem c158_82 : q_cat 158 82 (.lstore_n 2) 1 2 0 (0) := ⟨rfl, rfl⟩
theorem c158_83 : q_cat 158 83 (.iinc 4 1) 3 4 0 (0) := ⟨rfl, rfl⟩
theorem c158_86 : q_cat 158 86 (.goto (-79)) 3 7 0 (0) := ⟨rfl, rfl⟩
theorem c158_89 : q_cat 158 89 (.iload_n 1) 1 1 0 (0) := ⟨rfl, rfl⟩
theorem c158_90 : q_cat 158 90 (.ireturn) 1 0 0 (0) := ⟨rfl, rfl⟩
theorem l158_7 {Γ : q_Γ} (hG : q_GG Γ) {h0 : q_F} (hZ : q_Bz h0)  
    (hx89 : ∀ {u4 u2 u1 : Int} {h : q_F}, q_Fr (fun k => k = 0 ∨ (6 ≤ k ∧ k ≤ 138)) h0 h → q_R Γ q_K 155 158 (fun t w h' => (t = 1 ∧ (∃ z, w = ((0, z) : q_V)) ∧ q_Fr (fun k => k = 0 ∨ (6 ≤ k ∧ k ≤ 138)) h0 h')) (89, [(4, (0, u4)), (2, (1, u2)), (1, (0, u1)), (0, (2, Int.ofNat 0))], [], q_hp q_K 155 h, [], 0, 0))
    : ∀ (m : Nat) {u4 u2 u1 : Int} {h : q_F}, (-2147483648 ≤ u4 ∧ u4 < 2147483648) → q_Fr (fun k => k = 0 ∨ (6 ≤ k ∧ k ≤ 138)) h0 h → 2147483648 - u4 < (m : Int) → q_R Γ q_K 155 158 (fun t w h' => (t = 1 ∧ (∃ z, w = ((0, z) : q_V)) ∧ q_Fr (fun k => k = 0 ∨ (6 ≤ k ∧ k ≤ 138)) h0 h')) (7, [(4, (0, u4)), (2, (1, u2)), (1, (0, u1)), (0, (2, Int.ofNat 0))], [], q_hp q_K 155 h, [], 0, 0)   := by
  have hT6 := q_hT6
  obtain ⟨fT6_0, fT6_1, fT6_2, fT6_3, fT6_4, fT6_5, fT6_6, fT6_7, fT6_8, fT6_9, fT6_10⟩ := q_fT hT6
  have hT15 := q_hT15
  obtain ⟨fT15_0, fT15_1, fT15_2, fT15_3, fT15_4, fT15_5, fT15_6, fT15_7, fT15_8, fT15_9, fT15_10⟩ := q_fT hT15
  have hT24 := q_hT24
  obtain ⟨fT24_0, fT24_1, fT24_2, fT24_3, fT24_4, fT24_5, fT24_6, fT24_7, fT24_8, fT24_9, fT24_10⟩ := q_fT hT24
  obtain ⟨gP0, gP1, gP2, gP3⟩ := q_fG q_hP
  intro m
  induction m with
  | zero =>
    intro u4 u2 u1 h hinv hf hmu
    exact absurd hmu (by omega)
  | succ m ih =>
    intro u4 u2 u1 h hinv hf hmu
    refine r_iload c158_7 rfl rfl ?_
    refine r_aload_n c158_9 rfl rfl ?_
    refine r_getr c158_10 (by first | assumption | omega) (by decide) (by first | assumption | rfl) rfl rfl ?_
    refine r_getr c158_13 (by first | assumption | omega) (by decide) (by first | assumption | rfl) rfl rfl ?_
    refine r_geti c158_16 (by first | assumption | omega) (by decide) (by first | assumption | rfl) rfl rfl ?_
    refine r_ic_ge c158_19 rfl (by first | exact q_w32_id (by omega) (by omega) | exact q_w32w _ | exact rfl) (by first | exact q_w32_id (by omega) (by omega) | exact q_w32w _ | exact rfl) ?_ ?_
    · intro b1
      refine q_R.wk (ks := [4, 2, 1, 0]) (lo' := [(4, _), (2, _), (1, _), (0, _)]) rfl ?_
      exact hx89 (by repeat (first | exact q_Fr.rf | refine q_Fr.ud ?_ (by omega) (by first | assumption | rfl) rfl | refine q_Fr.udz ?_ (by omega) (by first | assumption | decide | omega) | refine q_Fr.tr ?_ (by assumption) (by intro k9 hk9; omega)))
    · intro b1
      refine r_aload_n c158_22 rfl rfl ?_
      refine r_getr c158_23 (by first | assumption | omega) (by decide) (by first | assumption | rfl) rfl rfl ?_
      refine r_aload_n c158_26 rfl rfl ?_
      refine r_getr c158_27 (by first | assumption | omega) (by decide) (by first | assumption | rfl) rfl rfl ?_
      refine r_iload c158_30 rfl rfl ?_
      refine r_vcG c158_32 (by first | assumption | omega) (by decide) (by first | assumption | rfl) rfl rfl rfl (k124 hG (q_Fr.bz (S := fun k => k = 0 ∨ (6 ≤ k ∧ k ≤ 138)) hZ (by repeat (first | exact q_Fr.rf | refine q_Fr.ud ?_ (by omega) (by first | assumption | rfl) rfl | refine q_Fr.udz ?_ (by omega) (by first | assumption | decide | omega) | refine q_Fr.tr ?_ (by assumption) (by intro k9 hk9; omega)))) (by first | assumption | exact q_hC (by assumption) | exact q_h1 (by assumption) | exact q_h3 (by assumption) | exact q_h5 (by assumption) | exact q_hG (by assumption) | exact q_hP | exact q_hB1 | exact q_hB2 | exact q_hT6 | exact q_hT15 | exact q_hT24) (by first | assumption | exact q_hC (by assumption) | exact q_h1 (by assumption) | exact q_h3 (by assumption) | exact q_h5 (by assumption) | exact q_hG (by assumption) | exact q_hP | exact q_hB1 | exact q_hB2 | exact q_hT6 | exact q_hT15 | exact q_hT24)) ?_
      intro t2 w2 g2 p2
      obtain ⟨rfl, e2⟩ := p2
      refine Or.inl ⟨rfl, ?_⟩
      refine r_aload_n c158_35 rfl rfl ?_
      refine r_getr c158_36 (by first | assumption | omega) (by decide) (by first | assumption | rfl) rfl rfl ?_
      refine r_aload_n c158_39 rfl rfl ?_
      refine r_getr c158_40 (by first | assumption | omega) (by decide) (by first | assumption | rfl) rfl rfl ?_
      refine r_aload_n c158_43 rfl rfl ?_
      refine r_getr c158_44 (by first | assumption | omega) (by decide) (by first | assumption | rfl) rfl rfl ?_
      refine r_aload_n c158_47 rfl rfl ?_
      refine r_getr c158_48 (by first | assumption | omega) (by decide) (by first | assumption | rfl) rfl rfl ?_
      refine r_geti c158_51 (by first | assumption | omega) (by decide) (by first | assumption | rfl) rfl rfl ?_
      refine r_vcG c158_54 (by first | assumption | omega) (by decide) (by first | assumption | rfl) rfl rfl rfl (k84 hG (q_Fr.bz (S := fun k => k = 0 ∨ (6 ≤ k ∧ k ≤ 138)) hZ (by repeat (first | exact q_Fr.rf | refine q_Fr.ud ?_ (by omega) (by first | assumption | rfl) rfl | refine q_Fr.udz ?_ (by omega) (by first | assumption | decide | omega) | refine q_Fr.tr ?_ (by assumption) (by intro k9 hk9; omega)))) (by first | assumption | exact q_hC (by assumption) | exact q_h1 (by assumption) | exact q_h3 (by assumption) | exact q_h5 (by assumption) | exact q_hG (by assumption) | exact q_hP | exact q_hB1 | exact q_hB2 | exact q_hT6 | exact q_hT15 | exact q_hT24) (by first | assumption | exact q_hC (by assumption) | exact q_h1 (by assumption) | exact q_h3 (by assumption) | exact q_h5 (by assumption) | exact q_hG (by assumption) | exact q_hP | exact q_hB1 | exact q_hB2 | exact q_hT6 | exact q_hT15 | exact q_hT24)) ?_
      intro t3 w3 g3 p3
      obtain ⟨rfl, e3⟩ := p3
      refine Or.inl ⟨rfl, ?_⟩
      refine r_aload_n c158_57 rfl rfl ?_
      refine r_getr c158_58 (by first | assumption | omega) (by decide) (by first | assumption | rfl) rfl rfl ?_
      refine r_vcG c158_61 (by first | assumption | omega) (by decide) (by first | assumption | rfl) rfl rfl rfl (k102 hG (q_Fr.bz (S := fun k => k = 0 ∨ (6 ≤ k ∧ k ≤ 138)) hZ (by repeat (first | exact q_Fr.rf | refine q_Fr.ud ?_ (by omega) (by first | assumption | rfl) rfl | refine q_Fr.udz ?_ (by omega) (by first | assumption | decide | omega) | refine q_Fr.tr ?_ (by assumption) (by intro k9 hk9; omega))))) ?_
      intro t4 w4 g4 p4
      obtain ⟨rfl, ⟨z4, rfl⟩, rfl⟩ := p4
      refine Or.inr (Or.inl ⟨rfl, ?_⟩)
      refine r_lstore c158_64 (lo' := [(5, _), (4, _), (2, _), (1, _), (0, _)]) rfl rfl rfl ?_
      refine r_iload_n c158_66 rfl rfl ?_
      refine r_if_lt c158_67 rfl (by first | exact q_w32_id (by omega) (by omega) | exact q_w32w _ | exact rfl) ?_ ?_
      · intro b5
        refine r_iload c158_77 rfl rfl ?_
        refine r_istore_n c158_79 (lo' := [(1, _), (5, _), (4, _), (2, _), (0, _)]) rfl rfl rfl ?_
        refine r_lload c158_80 rfl rfl ?_
        refine r_lstore_n c158_82 (lo' := [(2, _), (1, _), (5, _), (4, _), (0, _)]) rfl rfl rfl ?_
        refine r_iinc c158_83 rfl (by first | exact q_w32_id (by omega) (by omega) | exact q_w32w _ | exact rfl) (lo' := [(4, _), (2, _), (1, _), (5, _), (0, _)]) rfl rfl rfl ?_
        refine r_goto c158_86 ?_
        refine q_R.wk (ks := [4, 2, 1, 0]) (lo' := [(4, _), (2, _), (1, _), (0, _)]) rfl ?_
        exact ih (by first | omega | exact ⟨q_rg1 _, q_rg2 _⟩) (by repeat (first | exact q_Fr.rf | refine q_Fr.ud ?_ (by omega) (by first | assumption | rfl) rfl | refine q_Fr.udz ?_ (by omega) (by first | assumption | decide | omega) | refine q_Fr.tr ?_ (by assumption) (by intro k9 hk9; omega))) (by omega)
      · intro b5
        refine r_lload c158_70 rfl rfl ?_
        refine r_lload_n c158_72 rfl rfl ?_
        refine r_lcmp c158_73 rfl ?_ ?_ ?_
        · intro b6
          refine r_if_ge c158_74 rfl (show q_w32 (-1) = -1 from rfl) ?_ ?_
          · intro b7
            exact absurd b7.1 (by decide)
          · intro b7
            refine r_iload c158_77 rfl rfl ?_
            refine r_istore_n c158_79 (lo' := [(1, _), (5, _), (4, _), (2, _), (0, _)]) rfl rfl rfl ?_
            refine r_lload c158_80 rfl rfl ?_
            refine r_lstore_n c158_82 (lo' := [(2, _), (1, _), (5, _), (4, _), (0, _)]) rfl rfl rfl ?_
            refine r_iinc c158_83 rfl (by first | exact q_w32_id (by omega) (by omega) | exact q_w32w _ | exact rfl) (lo' := [(4, _), (2, _), (1, _), (5, _), (0, _)]) rfl rfl rfl ?_
            refine r_goto c158_86 ?_
            refine q_R.wk (ks := [4, 2, 1, 0]) (lo' := [(4, _), (2, _), (1, _), (0, _)]) rfl ?_
            exact ih (by first | omega | exact ⟨q_rg1 _, q_rg2 _⟩) (by repeat (first | exact q_Fr.rf | refine q_Fr.ud ?_ (by omega) (by first | assumption | rfl) rfl | refine q_Fr.udz ?_ (by omega) (by first | assumption | decide | omega) | refine q_Fr.tr ?_ (by assumption) (by intro k9 hk9; omega))) (by omega)
        · intro b6
          refine r_if_ge c158_74 rfl (show q_w32 (0) = 0 from rfl) ?_ ?_
          · intro b8
            refine r_iinc c158_83 rfl (by first | exact q_w32_id (by omega) (by omega) | exact q_w32w _ | exact rfl) (lo' := [(4, _), (5, _), (2, _), (1, _), (0, _)]) rfl rfl rfl ?_
            refine r_goto c158_86 ?_
            refine q_R.wk (ks := [4, 2, 1, 0]) (lo' := [(4, _), (2, _), (1, _), (0, _)]) rfl ?_
            exact ih (by first | omega | exact ⟨q_rg1 _, q_rg2 _⟩) (by repeat (first | exact q_Fr.rf | refine q_Fr.ud ?_ (by omega) (by first | assumption | rfl) rfl | refine q_Fr.udz ?_ (by omega) (by first | assumption | decide | omega) | refine q_Fr.tr ?_ (by assumption) (by intro k9 hk9; omega))) (by omega)
          · intro b8
            exact absurd b8.1 (by decide)
        · intro b6
          refine r_if_ge c158_74 rfl (show q_w32 (1) = 1 from rfl) ?_ ?_
          · intro b9
            refine r_iinc c158_83 rfl (by first | exact q_w32_id (by omega) (by omega) | exact q_w32w _ | exact rfl) (lo' := [(4, _), (5, _), (2, _), (1, _), (0, _)]) rfl rfl rfl ?_
            refine r_goto c158_86 ?_
            refine q_R.wk (ks := [4, 2, 1, 0]) (lo' := [(4, _), (2, _), (1, _), (0, _)]) rfl ?_
            exact ih (by first | omega | exact ⟨q_rg1 _, q_rg2 _⟩) (by repeat (first | exact q_Fr.rf | refine q_Fr.ud ?_ (by omega) (by first | assumption | rfl) rfl | refine q_Fr.udz ?_ (by omega) (by first | assumption | decide | omega) | refine q_Fr.tr ?_ (by assumption) (by intro k9 hk9; omega))) (by omega)
          · intro b9
            exact absurd b9.1 (by decide)

theorem k158 {Γ : q_Γ} (hG : q_GG Γ) {h : q_F} (hZ : q_Bz h)   :
    q_M Γ q_K 155 158 [(2, Int.ofNat 0)] h (fun t w h' => (t = 1 ∧ (∃ z, w = ((0, z) : q_V)) ∧ q_Fr (fun k => k = 0 ∨ (6 ≤ k ∧ k ≤ 138)) h h')) := by
  have hT6 := q_hT6
  obtain ⟨fT6_0, fT6_1, fT6_2, fT6_3, fT6_4, fT6_5, fT6_6, fT6_7, fT6_8, fT6_9, fT6_10⟩ := q_fT hT6
  have hT15 := q_hT15
  obtain ⟨fT15_0, fT15_1, fT15_2, fT15_3, fT15_4, fT15_5, fT15_6, fT15_7, fT15_8, fT15_9, fT15_10⟩ := q_fT hT15
  have hT24 := q_hT24
  obtain ⟨fT24_0, fT24_1, fT24_2, fT24_3, fT24_4, fT24_5, fT24_6, fT24_7, fT24_8, fT24_9, fT24_10⟩ := q_fT hT24
  obtain ⟨gP0, gP1, gP2, gP3⟩ := q_fG q_hP
  refine q_M.of (by decide) (Nat.le_of_ble_eq_true rfl) hG ?_
  refine r_iconst c158_0 rfl ?_
  refine r_istore_n c158_1 (lo' := [(1, _), (0, _)]) rfl rfl rfl ?_
  refine r_lconst c158_2 rfl ?_
  refine r_lstore_n c158_3 (lo' := [(2, _), (1, _), (0, _)]) rfl rfl rfl ?_
  refine r_iconst c158_4 rfl ?_
  refine r_istore c158_5 (lo' := [(4, _), (2, _), (1, _), (0, _)]) rfl rfl rfl ?_
  refine q_R.wk (ks := [4, 2, 1, 0]) (lo' := [(4, _), (2, _), (1, _), (0, _)]) rfl ?_
  refine l158_7 hG hZ  ?_ 4294967298 (by first | omega | exact ⟨q_rg1 _, q_rg2 _⟩) (by repeat (first | exact q_Fr.rf | refine q_Fr.ud ?_ (by omega) (by first | assumption | rfl) rfl | refine q_Fr.udz ?_ (by omega) (by first | assumption | decide | omega) | refine q_Fr.tr ?_ (by assumption) (by intro k9 hk9; omega))) (q_mu (by first | omega | exact ⟨q_rg1 _, q_rg2 _⟩))
  · intro u4_1 u2_1 u1_1 g1 f1
    refine r_iload_n c158_89 rfl rfl ?_
    exact r_iret c158_90 ⟨rfl, rfl, rfl⟩ ⟨rfl, ⟨_, rfl⟩, (by repeat (first | exact q_Fr.rf | refine q_Fr.ud ?_ (by omega) (by first | assumption | rfl) rfl | refine q_Fr.udz ?_ (by omega) (by first | assumption | decide | omega) | refine q_Fr.tr ?_ (by assumption) (by intro k9 hk9; omega)))⟩
theorem c159_0 : q_cat 159 0 (.aload_n 0) 1 0 0 (0) := ⟨rfl, rfl⟩
theorem c159_1 : q_cat 159 1 (.getfield 26) 3 8 2 (3) := ⟨rfl, rfl⟩
theorem c159_4 : q_cat 159 4 (.getfield 114) 3 6 3 (3) := ⟨rfl, rfl⟩
theorem c159_7 : q_cat 159 7 (.getfield 117) 3 7 1 (0) := ⟨rfl, rfl⟩
theorem c159_10 : q_cat 159 10 (.ifCond .ne 13) 3 23 0 (0) := ⟨rfl, rfl⟩
theorem c159_13 : q_cat 159 13 (.new 203) 3 3 208 (205) := ⟨rfl, rfl⟩
theorem c159_16 : q_cat 159 16 (.dup) 1 0 0 (0) := ⟨rfl, rfl⟩
theorem c159_23 : q_cat 159 23 (.iconst 0) 1 0 0 (0) := ⟨rfl, rfl⟩
theorem c159_24 : q_cat 159 24 (.istore_n 1) 1 1 0 (0) := ⟨rfl, rfl⟩
theorem c159_25 : q_cat 159 25 (.lconst 0) 1 0 0 (0) := ⟨rfl, rfl⟩
theorem c159_26 : q_cat 159 26 (.lstore_n 2) 1 2 0 (0) := ⟨rfl, rfl⟩
theorem c159_27 : q_cat 159 27 (.bipush 50) 2 0 0 (0) := ⟨rfl, rfl⟩
theorem c159_29 : q_cat 159 29 (.istore 4) 2 4 0 (0) := ⟨rfl, rfl⟩
theorem c159_31 : q_cat 159 31 (.iload 4) 2 4 0 (0) := ⟨rfl, rfl⟩
theorem c159_33 : q_cat 159 33 (.sipush 1000) 3 0 0 (0) := ⟨rfl, rfl⟩
theorem c159_36 : q_cat 159 36 (.if_icmp .gt 55) 3 91 0 (0) := ⟨rfl, rfl⟩
theorem c159_39 : q_cat 159 39 (.aload_n 0) 1 0 0 (0) := ⟨rfl, rfl⟩
theorem c159_40 : q_cat 159 40 (.getfield 46) 3 8 6 (3) := ⟨rfl, rfl⟩
theorem c159_43 : q_cat 159 43 (.aload_n 0) 1 0 0 (0) := ⟨rfl, rfl⟩
theorem c159_44 : q_cat 159 44 (.getfield 26) 3 8 2 (3) := ⟨rfl, rfl⟩
theorem c159_47 : q_cat 159 47 (.aload_n 0) 1 0 0 (0) := ⟨rfl, rfl⟩
theorem c159_48 : q_cat 159 48 (.getfield 26) 3 8 2 (3) := ⟨rfl, rfl⟩
theorem c159_51 : q_cat 159 51 (.getfield 114) 3 6 3 (3) := ⟨rfl, rfl⟩
theorem c159_54 : q_cat 159 54 (.iload 4) 2 4 0 (0) := ⟨rfl, rfl⟩
theorem c159_56 : q_cat 159 56 (.invokevirtual 351) 3 84 0 (0) := ⟨rfl, rfl⟩
theorem c159_59 : q_cat 159 59 (.aload_n 0) 1 0 0 (0) := ⟨rfl, rfl⟩
theorem c159_60 : q_cat 159 60 (.getfield 46) 3 8 6 (3) := ⟨rfl, rfl⟩
theorem c159_63 : q_cat 159 63 (.invokevirtual 339) 3 102 0 (0) := ⟨rfl, rfl⟩
theorem c159_66 : q_cat 159 66 (.lstore 5) 2 5 0 (0) := ⟨rfl, rfl⟩
theorem c159_68 : q_cat 159 68 (.iload_n 1) 1 1 0 (0) := ⟨rfl, rfl⟩
theorem c159_69 : q_cat 159 69 (.ifCond .eq 10) 3 79 0 (0) := ⟨rfl, rfl⟩
theorem c159_72 : q_cat 159 72 (.lload 5) 2 5 0 (0) := ⟨rfl, rfl⟩
theorem c159_74 : q_cat 159 74 (.lload_n 2) 1 2 0 (0) := ⟨rfl, rfl⟩
theorem c159_75 : q_cat 159 75 (.lcmp) 1 0 0 (0) := ⟨rfl, rfl⟩
theorem c159_76 : q_cat 159 76 (.ifCond .ge 9) 3 85 0 (0) := ⟨rfl, rfl⟩
theorem c159_79 : q_cat 159 79 (.iload 4) 2 4 0 (0) := ⟨rfl, rfl⟩
theorem c159_81 : q_cat 159 81 (.istore_n 1) 1 1 0 (0) := ⟨rfl, rfl⟩
theorem c159_82 : q_cat 159 82 (.lload 5) 2 5 0 (0) := ⟨rfl, rfl⟩
theorem c159_84 : q_cat 159 84 (.lstore_n 2) 1 2 0 (0) := ⟨rfl, rfl⟩
theorem c159_85 : q_cat 159 85 (.iinc 4 50) 3 4 0 (0) := ⟨rfl, rfl⟩
theorem c159_88 : q_cat 159 88 (.goto (-57)) 3 31 0 (0) := ⟨rfl, rfl⟩
theorem c159_91 : q_cat 159 91 (.iload_n 1) 1 1 0 (0) := ⟨rfl, rfl⟩
theorem c159_92 : q_cat 159 92 (.ireturn) 1 0 0 (0) := ⟨rfl, rfl⟩
theorem l159_31 {Γ : q_Γ} (hG : q_GG Γ) {h0 : q_F} (hZ : q_Bz h0)  
    (hx91 : ∀ {u4 u2 u1 : Int} {h : q_F}, q_Fr (fun k => k = 0 ∨ (6 ≤ k ∧ k ≤ 138)) h0 h → q_R Γ q_K 155 159 (fun t w h' => (t = 1 ∧ (∃ z, w = ((0, z) : q_V)) ∧ q_Fr (fun k => k = 0 ∨ (6 ≤ k ∧ k ≤ 138)) h0 h') ∨ (t = 5 ∧ q_Fr (fun k => k = 0 ∨ (6 ≤ k ∧ k ≤ 138)) h0 h')) (91, [(4, (0, u4)), (2, (1, u2)), (1, (0, u1)), (0, (2, Int.ofNat 0))], [], q_hp q_K 155 h, [], 0, 0))
    : ∀ (m : Nat) {u4 u2 u1 : Int} {h : q_F}, (-2147483648 ≤ u4 ∧ u4 < 2147483648) → q_Fr (fun k => k = 0 ∨ (6 ≤ k ∧ k ≤ 138)) h0 h → 2147483648 - u4 < (m : Int) → q_R Γ q_K 155 159 (fun t w h' => (t = 1 ∧ (∃ z, w = ((0, z) : q_V)) ∧ q_Fr (fun k => k = 0 ∨ (6 ≤ k ∧ k ≤ 138)) h0 h') ∨ (t = 5 ∧ q_Fr (fun k => k = 0 ∨ (6 ≤ k ∧ k ≤ 138)) h0 h')) (31, [(4, (0, u4)), (2, (1, u2)), (1, (0, u1)), (0, (2, Int.ofNat 0))], [], q_hp q_K 155 h, [], 0, 0)   := by
  have hT6 := q_hT6
  obtain ⟨fT6_0, fT6_1, fT6_2, fT6_3, fT6_4, fT6_5, fT6_6, fT6_7, fT6_8, fT6_9, fT6_10⟩ := q_fT hT6
  have hT15 := q_hT15
  obtain ⟨fT15_0, fT15_1, fT15_2, fT15_3, fT15_4, fT15_5, fT15_6, fT15_7, fT15_8, fT15_9, fT15_10⟩ := q_fT hT15
  have hT24 := q_hT24
  obtain ⟨fT24_0, fT24_1, fT24_2, fT24_3, fT24_4, fT24_5, fT24_6, fT24_7, fT24_8, fT24_9, fT24_10⟩ := q_fT hT24
  obtain ⟨gP0, gP1, gP2, gP3⟩ := q_fG q_hP
  intro m
  induction m with
  | zero =>
    intro u4 u2 u1 h hinv hf hmu
    exact absurd hmu (by omega)
  | succ m ih =>
    intro u4 u2 u1 h hinv hf hmu
    refine r_iload c159_31 rfl rfl ?_
    refine r_sipush c159_33 rfl ?_
    refine r_ic_gt c159_36 rfl (by first | exact q_w32_id (by omega) (by omega) | exact q_w32w _ | exact rfl) (show q_w32 (1000) = 1000 from rfl) ?_ ?_
    · intro b2
      refine q_R.wk (ks := [4, 2, 1, 0]) (lo' := [(4, _), (2, _), (1, _), (0, _)]) rfl ?_
      exact hx91 (by repeat (first | exact q_Fr.rf | refine q_Fr.ud ?_ (by omega) (by first | assumption | rfl) rfl | refine q_Fr.udz ?_ (by omega) (by first | assumption | decide | omega) | refine q_Fr.tr ?_ (by assumption) (by intro k9 hk9; omega)))
    · intro b2
      refine r_aload_n c159_39 rfl rfl ?_
      refine r_getr c159_40 (by first | assumption | omega) (by decide) (by first | assumption | rfl) rfl rfl ?_
      refine r_aload_n c159_43 rfl rfl ?_
      refine r_getr c159_44 (by first | assumption | omega) (by decide) (by first | assumption | rfl) rfl rfl ?_
      refine r_aload_n c159_47 rfl rfl ?_
      refine r_getr c159_48 (by first | assumption | omega) (by decide) (by first | assumption | rfl) rfl rfl ?_
      refine r_getr c159_51 (by first | assumption | omega) (by decide) (by first | assumption | rfl) rfl rfl ?_
      refine r_iload c159_54 rfl rfl ?_
      refine r_vcG c159_56 (by first | assumption | omega) (by decide) (by first | assumption | rfl) rfl rfl rfl (k84 hG (q_Fr.bz (S := fun k => k = 0 ∨ (6 ≤ k ∧ k ≤ 138)) hZ (by repeat (first | exact q_Fr.rf | refine q_Fr.ud ?_ (by omega) (by first | assumption | rfl) rfl | refine q_Fr.udz ?_ (by omega) (by first | assumption | decide | omega) | refine q_Fr.tr ?_ (by assumption) (by intro k9 hk9; omega)))) (by first | assumption | exact q_hC (by assumption) | exact q_h1 (by assumption) | exact q_h3 (by assumption) | exact q_h5 (by assumption) | exact q_hG (by assumption) | exact q_hP | exact q_hB1 | exact q_hB2 | exact q_hT6 | exact q_hT15 | exact q_hT24) (by first | assumption | exact q_hC (by assumption) | exact q_h1 (by assumption) | exact q_h3 (by assumption) | exact q_h5 (by assumption) | exact q_hG (by assumption) | exact q_hP | exact q_hB1 | exact q_hB2 | exact q_hT6 | exact q_hT15 | exact q_hT24)) ?_
      intro t3 w3 g3 p3
      obtain ⟨rfl, e3⟩ := p3
      refine Or.inl ⟨rfl, ?_⟩
      refine r_aload_n c159_59 rfl rfl ?_
      refine r_getr c159_60 (by first | assumption | omega) (by decide) (by first | assumption | rfl) rfl rfl ?_
      refine r_vcG c159_63 (by first | assumption | omega) (by decide) (by first | assumption | rfl) rfl rfl rfl (k102 hG (q_Fr.bz (S := fun k => k = 0 ∨ (6 ≤ k ∧ k ≤ 138)) hZ (by repeat (first | exact q_Fr.rf | refine q_Fr.ud ?_ (by omega) (by first | assumption | rfl) rfl | refine q_Fr.udz ?_ (by omega) (by first | assumption | decide | omega) | refine q_Fr.tr ?_ (by assumption) (by intro k9 hk9; omega))))) ?_
      intro t4 w4 g4 p4
      obtain ⟨rfl, ⟨z4, rfl⟩, rfl⟩ := p4
      refine Or.inr (Or.inl ⟨rfl, ?_⟩)
      refine r_lstore c159_66 (lo' := [(5, _), (4, _), (2, _), (1, _), (0, _)]) rfl rfl rfl ?_
      refine r_iload_n c159_68 rfl rfl ?_
      refine r_if_eq c159_69 rfl (by first | exact q_w32_id (by omega) (by omega) | exact q_w32w _ | exact rfl) ?_ ?_
      · intro b5
        refine r_iload c159_79 rfl rfl ?_
        refine r_istore_n c159_81 (lo' := [(1, _), (5, _), (4, _), (2, _), (0, _)]) rfl rfl rfl ?_
        refine r_lload c159_82 rfl rfl ?_
        refine r_lstore_n c159_84 (lo' := [(2, _), (1, _), (5, _), (4, _), (0, _)]) rfl rfl rfl ?_
        refine r_iinc c159_85 rfl (by first | exact q_w32_id (by omega) (by omega) | exact q_w32w _ | exact rfl) (lo' := [(4, _), (2, _), (1, _), (5, _), (0, _)]) rfl rfl rfl ?_
        refine r_goto c159_88 ?_
        refine q_R.wk (ks := [4, 2, 1, 0]) (lo' := [(4, _), (2, _), (1, _), (0, _)]) rfl ?_
        exact ih (by first | omega | exact ⟨q_rg1 _, q_rg2 _⟩) (by repeat (first | exact q_Fr.rf | refine q_Fr.ud ?_ (by omega) (by first | assumption | rfl) rfl | refine q_Fr.udz ?_ (by omega) (by first | assumption | decide | omega) | refine q_Fr.tr ?_ (by assumption) (by intro k9 hk9; omega))) (by omega)
      · intro b5
        refine r_lload c159_72 rfl rfl ?_
        refine r_lload_n c159_74 rfl rfl ?_
        refine r_lcmp c159_75 rfl ?_ ?_ ?_
        · intro b6
          refine r_if_ge c159_76 rfl (show q_w32 (-1) = -1 from rfl) ?_ ?_
          · intro b7
            exact absurd b7.1 (by decide)
          · intro b7
            refine r_iload c159_79 rfl rfl ?_
            refine r_istore_n c159_81 (lo' := [(1, _), (5, _), (4, _), (2, _), (0, _)]) rfl rfl rfl ?_
            refine r_lload c159_82 rfl rfl ?_
            refine r_lstore_n c159_84 (lo' := [(2, _), (1, _), (5, _), (4, _), (0, _)]) rfl rfl rfl ?_
            refine r_iinc c159_85 rfl (by first | exact q_w32_id (by omega) (by omega) | exact q_w32w _ | exact rfl) (lo' := [(4, _), (2, _), (1, _), (5, _), (0, _)]) rfl rfl rfl ?_
            refine r_goto c159_88 ?_
            refine q_R.wk (ks := [4, 2, 1, 0]) (lo' := [(4, _), (2, _), (1, _), (0, _)]) rfl ?_
            exact ih (by first | omega | exact ⟨q_rg1 _, q_rg2 _⟩) (by repeat (first | exact q_Fr.rf | refine q_Fr.ud ?_ (by omega) (by first | assumption | rfl) rfl | refine q_Fr.udz ?_ (by omega) (by first | assumption | decide | omega) | refine q_Fr.tr ?_ (by assumption) (by intro k9 hk9; omega))) (by omega)
        · intro b6
          refine r_if_ge c159_76 rfl (show q_w32 (0) = 0 from rfl) ?_ ?_
          · intro b8
            refine r_iinc c159_85 rfl (by first | exact q_w32_id (by omega) (by omega) | exact q_w32w _ | exact rfl) (lo' := [(4, _), (5, _), (2, _), (1, _), (0, _)]) rfl rfl rfl ?_
            refine r_goto c159_88 ?_
            refine q_R.wk (ks := [4, 2, 1, 0]) (lo' := [(4, _), (2, _), (1, _), (0, _)]) rfl ?_
            exact ih (by first | omega | exact ⟨q_rg1 _, q_rg2 _⟩) (by repeat (first | exact q_Fr.rf | refine q_Fr.ud ?_ (by omega) (by first | assumption | rfl) rfl | refine q_Fr.udz ?_ (by omega) (by first | assumption | decide | omega) | refine q_Fr.tr ?_ (by assumption) (by intro k9 hk9; omega))) (by omega)
          · intro b8
            exact absurd b8.1 (by decide)
        · intro b6
          refine r_if_ge c159_76 rfl (show q_w32 (1) = 1 from rfl) ?_ ?_
          · intro b9
            refine r_iinc c159_85 rfl (by first | exact q_w32_id (by omega) (by omega) | exact q_w32w _ | exact rfl) (lo' := [(4, _), (5, _), (2, _), (1, _), (0, _)]) rfl rfl rfl ?_
            refine r_goto c159_88 ?_
            refine q_R.wk (ks := [4, 2, 1, 0]) (lo' := [(4, _), (2, _), (1, _), (0, _)]) rfl ?_
            exact ih (by first | omega | exact ⟨q_rg1 _, q_rg2 _⟩) (by repeat (first | exact q_Fr.rf | refine q_Fr.ud ?_ (by omega) (by first | assumption | rfl) rfl | refine q_Fr.udz ?_ (by omega) (by first | assumption | decide | omega) | refine q_Fr.tr ?_ (by assumption) (by intro k9 hk9; omega))) (by omega)
          · intro b9
            exact absurd b9.1 (by decide)

theorem k159 {Γ : q_Γ} (hG : q_GG Γ) {h : q_F} (hZ : q_Bz h)   :
    q_M Γ q_K 155 159 [(2, Int.ofNat 0)] h (fun t w h' => (t = 1 ∧ (∃ z, w = ((0, z) : q_V)) ∧ q_Fr (fun k => k = 0 ∨ (6 ≤ k ∧ k ≤ 138)) h h') ∨ (t = 5 ∧ q_Fr (fun k => k = 0 ∨ (6 ≤ k ∧ k ≤ 138)) h h')) := by
  have hT6 := q_hT6
  obtain ⟨fT6_0, fT6_1, fT6_2, fT6_3, fT6_4, fT6_5, fT6_6, fT6_7, fT6_8, fT6_9, fT6_10⟩ := q_fT hT6
  have hT15 := q_hT15
  obtain ⟨fT15_0, fT15_1, fT15_2, fT15_3, fT15_4, fT15_5, fT15_6, fT15_7, fT15_8, fT15_9, fT15_10⟩ := q_fT hT15
  have hT24 := q_hT24
  obtain ⟨fT24_0, fT24_1, fT24_2, fT24_3, fT24_4, fT24_5, fT24_6, fT24_7, fT24_8, fT24_9, fT24_10⟩ := q_fT hT24
  obtain ⟨gP0, gP1, gP2, gP3⟩ := q_fG q_hP
  refine q_M.of (by decide) (Nat.le_of_ble_eq_true rfl) hG ?_
  refine r_aload_n c159_0 rfl rfl ?_
  refine r_getr c159_1 (by first | assumption | omega) (by decide) (by first | assumption | rfl) rfl rfl ?_
  refine r_getr c159_4 (by first | assumption | omega) (by decide) (by first | assumption | rfl) rfl rfl ?_
  refine r_geti c159_7 (by first | assumption | omega) (by decide) (by first | assumption | rfl) rfl rfl ?_
  refine r_if_ne c159_10 rfl (by first | exact q_w32_id (by omega) (by omega) | exact q_w32w _ | exact rfl) ?_ ?_
  · intro b1
    refine r_iconst c159_23 rfl ?_
    refine r_istore_n c159_24 (lo' := [(1, _), (0, _)]) rfl rfl rfl ?_
    refine r_lconst c159_25 rfl ?_
    refine r_lstore_n c159_26 (lo' := [(2, _), (1, _), (0, _)]) rfl rfl rfl ?_
    refine r_bipush c159_27 rfl ?_
    refine r_istore c159_29 (lo' := [(4, _), (2, _), (1, _), (0, _)]) rfl rfl rfl ?_
    refine q_R.wk (ks := [4, 2, 1, 0]) (lo' := [(4, _), (2, _), (1, _), (0, _)]) rfl ?_
    refine l159_31 hG hZ  ?_ 4294967298 (by first | omega | exact ⟨q_rg1 _, q_rg2 _⟩) (by repeat (first | exact q_Fr.rf | refine q_Fr.ud ?_ (by omega) (by first | assumption | rfl) rfl | refine q_Fr.udz ?_ (by omega) (by first | assumption | decide | omega) | refine q_Fr.tr ?_ (by assumption) (by intro k9 hk9; omega))) (q_mu (by first | omega | exact ⟨q_rg1 _, q_rg2 _⟩))
    · intro u4_2 u2_2 u1_2 g2 f2
      refine r_iload_n c159_91 rfl rfl ?_
      exact r_iret c159_92 ⟨rfl, rfl, rfl⟩ (Or.inl ⟨rfl, ⟨_, rfl⟩, (by repeat (first | exact q_Fr.rf | refine q_Fr.ud ?_ (by omega) (by first | assumption | rfl) rfl | refine q_Fr.udz ?_ (by omega) (by first | assumption | decide | omega) | refine q_Fr.tr ?_ (by assumption) (by intro k9 hk9; omega)))⟩)
  · intro b1
    exact r_thr (y := 207) c159_13 rfl (Or.inr (⟨rfl, (by repeat (first | exact q_Fr.rf | refine q_Fr.ud ?_ (by omega) (by first | assumption | rfl) rfl | refine q_Fr.udz ?_ (by omega) (by first | assumption | decide | omega) | refine q_Fr.tr ?_ (by assumption) (by intro k9 hk9; omega)))⟩))
theorem c214_0 : q_cat 214 0 (.aload_n 0) 1 0 0 (0) := ⟨rfl, rfl⟩
theorem c214_1 : q_cat 214 1 (.iload_n 1) 1 1 0 (0) := ⟨rfl, rfl⟩
theorem c214_2 : q_cat 214 2 (.invokevirtual 132) 3 162 0 (0) := ⟨rfl, rfl⟩
theorem c214_5 : q_cat 214 5 (.aload_n 0) 1 0 0 (0) := ⟨rfl, rfl⟩
theorem c214_6 : q_cat 214 6 (.getfield 26) 3 8 2 (3) := ⟨rfl, rfl⟩
theorem c214_9 : q_cat 214 9 (.iload_n 1) 1 1 0 (0) := ⟨rfl, rfl⟩
theorem c214_10 : q_cat 214 10 (.invokevirtual 135) 3 125 0 (0) := ⟨rfl, rfl⟩
theorem c214_13 : q_cat 214 13 (.iload_n 2) 1 2 0 (0) := ⟨rfl, rfl⟩
theorem c214_14 : q_cat 214 14 (.invokevirtual 364) 3 57 0 (0) := ⟨rfl, rfl⟩
theorem c214_17 : q_cat 214 17 (.ireturn) 1 0 0 (0) := ⟨rfl, rfl⟩
theorem k214 {Γ : q_Γ} (hG : q_GG Γ) {h : q_F} (hZ : q_Bz h) {v1 : Int} {v2 : Int} (hz2 : v2 = 0 ∨ v2 = 1) :
    q_M Γ q_K 155 214 [(2, Int.ofNat 0), (0, v1), (0, v2)] h (fun t w h' => (t = 1 ∧ (∃ z, w = ((0, z) : q_V)) ∧ h' = h) ∨ (t = 3 ∧ h' = h)) := by
  have hT6 := q_hT6
  obtain ⟨fT6_0, fT6_1, fT6_2, fT6_3, fT6_4, fT6_5, fT6_6, fT6_7, fT6_8, fT6_9, fT6_10⟩ := q_fT hT6
  have hT15 := q_hT15
  obtain ⟨fT15_0, fT15_1, fT15_2, fT15_3, fT15_4, fT15_5, fT15_6, fT15_7, fT15_8, fT15_9, fT15_10⟩ := q_fT hT15
  have hT24 := q_hT24
  obtain ⟨fT24_0, fT24_1, fT24_2, fT24_3, fT24_4, fT24_5, fT24_6, fT24_7, fT24_8, fT24_9, fT24_10⟩ := q_fT hT24
  obtain ⟨gP0, gP1, gP2, gP3⟩ := q_fG q_hP
  refine q_M.of (by decide) (Nat.le_of_ble_eq_true rfl) hG ?_
  refine r_aload_n c214_0 rfl rfl ?_
  refine r_iload_n c214_1 rfl rfl ?_
  refine r_vcG c214_2 (by first | assumption | omega) (by decide) (by first | assumption | rfl) rfl rfl rfl (k162 hG hZ) ?_
  intro t1 w1 g1 p1
  rcases p1 with ⟨rfl, rfl⟩ | ⟨rfl, rfl⟩
  · skip
    refine Or.inl ⟨rfl, ?_⟩
    refine r_aload_n c214_5 rfl rfl ?_
    refine r_getr c214_6 (by first | assumption | omega) (by decide) (by first | assumption | rfl) rfl rfl ?_
    refine r_iload_n c214_9 rfl rfl ?_
    refine r_vcG c214_10 (by first | assumption | omega) (by decide) (by first | assumption | rfl) rfl rfl rfl (k125 hG hZ (by first | assumption | exact q_hC (by assumption) | exact q_h1 (by assumption) | exact q_h3 (by assumption) | exact q_h5 (by assumption) | exact q_hG (by assumption) | exact q_hP | exact q_hB1 | exact q_hB2 | exact q_hT6 | exact q_hT15 | exact q_hT24)) ?_
    intro t2 w2 g2 p2
    obtain ⟨rfl, ⟨r2, rfl, ha2, hr2⟩, rfl⟩ := p2
    obtain ⟨fr20, fr21, fr22, fr23⟩ := q_fA ha2
    refine Or.inr (Or.inl ⟨rfl, ?_⟩)
    refine r_iload_n c214_13 rfl rfl ?_
    refine r_vcG c214_14 (by first | assumption | omega) (by decide) (by first | assumption | rfl) rfl rfl rfl (k57 hG hZ (by first | assumption | exact q_hC (by assumption) | exact q_h1 (by assumption) | exact q_h3 (by assumption) | exact q_h5 (by assumption) | exact q_hG (by assumption) | exact q_hP | exact q_hB1 | exact q_hB2 | exact q_hT6 | exact q_hT15 | exact q_hT24) (by first | assumption | decide | omega)) ?_
    intro t3 w3 g3 p3
    obtain ⟨rfl, ⟨z3, rfl⟩, rfl⟩ := p3
    refine Or.inr (Or.inl ⟨rfl, ?_⟩)
    exact r_iret c214_17 ⟨rfl, rfl, rfl⟩ (Or.inl ⟨rfl, ⟨_, rfl⟩, rfl⟩)
  · refine Or.inr (Or.inr ⟨1, rfl, ?_⟩)
    exact Or.inr ⟨rfl, (Or.inr (⟨rfl, rfl⟩))⟩
theorem c155_0 : q_cat 155 0 (.aload_n 0) 1 0 0 (0) := ⟨rfl, rfl⟩
theorem c155_1 : q_cat 155 1 (.iload_n 1) 1 1 0 (0) := ⟨rfl, rfl⟩
theorem c155_2 : q_cat 155 2 (.invokevirtual 132) 3 162 0 (0) := ⟨rfl, rfl⟩
theorem c155_5 : q_cat 155 5 (.iload_n 2) 1 2 0 (0) := ⟨rfl, rfl⟩
theorem c155_6 : q_cat 155 6 (.ifCond .lt 8) 3 14 0 (0) := ⟨rfl, rfl⟩
theorem c155_9 : q_cat 155 9 (.iload_n 2) 1 2 0 (0) := ⟨rfl, rfl⟩
theorem c155_10 : q_cat 155 10 (.iconst 5) 1 0 0 (0) := ⟨rfl, rfl⟩
theorem c155_11 : q_cat 155 11 (.if_icmp .le 13) 3 24 0 (0) := ⟨rfl, rfl⟩
theorem c155_14 : q_cat 155 14 (.new 125) 3 0 130 (127) := ⟨rfl, rfl⟩
theorem c155_17 : q_cat 155 17 (.dup) 1 0 0 (0) := ⟨rfl, rfl⟩
theorem c155_24 : q_cat 155 24 (.aload_n 0) 1 0 0 (0) := ⟨rfl, rfl⟩
theorem c155_25 : q_cat 155 25 (.getfield 26) 3 8 2 (3) := ⟨rfl, rfl⟩
theorem c155_28 : q_cat 155 28 (.iload_n 1) 1 1 0 (0) := ⟨rfl, rfl⟩
theorem c155_29 : q_cat 155 29 (.invokevirtual 135) 3 125 0 (0) := ⟨rfl, rfl⟩
theorem c155_32 : q_cat 155 32 (.getfield 368) 3 1 14 (3) := ⟨rfl, rfl⟩
theorem c155_35 : q_cat 155 35 (.iload_n 2) 1 2 0 (0) := ⟨rfl, rfl⟩
theorem c155_36 : q_cat 155 36 (.invokevirtual 372) 3 44 0 (0) := ⟨rfl, rfl⟩
theorem c155_39 : q_cat 155 39 (.ireturn) 1 0 0 (0) := ⟨rfl, rfl⟩
theorem k155 {Γ : q_Γ} (hG : q_GG Γ) {h : q_F} (hZ : q_Bz h) {v1 : Int} {v2 : Int}  :
    q_M Γ q_K 155 155 [(2, Int.ofNat 0), (0, v1), (0, v2)] h (fun t w h' => (t = 1 ∧ (∃ z, w = ((0, z) : q_V)) ∧ h' = h) ∨ (t = 2 ∧ h' = h) ∨ (t = 3 ∧ h' = h)) := by
  have hT6 := q_hT6
  obtain ⟨fT6_0, fT6_1, fT6_2, fT6_3, fT6_4, fT6_5, fT6_6, fT6_7, fT6_8, fT6_9, fT6_10⟩ := q_fT hT6
  have hT15 := q_hT15
  obtain ⟨fT15_0, fT15_1, fT15_2, fT15_3, fT15_4, fT15_5, fT15_6, fT15_7, fT15_8, fT15_9, fT15_10⟩ := q_fT hT15
  have hT24 := q_hT24
  obtain ⟨fT24_0, fT24_1, fT24_2, fT24_3, fT24_4, fT24_5, fT24_6, fT24_7, fT24_8, fT24_9, fT24_10⟩ := q_fT hT24
  obtain ⟨gP0, gP1, gP2, gP3⟩ := q_fG q_hP
  refine q_M.of (by decide) (Nat.le_of_ble_eq_true rfl) hG ?_
  refine r_aload_n c155_0 rfl rfl ?_
  refine r_iload_n c155_1 rfl rfl ?_
  refine r_vcG c155_2 (by first | assumption | omega) (by decide) (by first | assumption | rfl) rfl rfl rfl (k162 hG hZ) ?_
  intro t1 w1 g1 p1
  rcases p1 with ⟨rfl, rfl⟩ | ⟨rfl, rfl⟩
  · skip
    refine Or.inl ⟨rfl, ?_⟩
    refine r_iload_n c155_5 rfl rfl ?_
    refine r_if_lt c155_6 rfl (by first | exact q_w32_id (by omega) (by omega) | exact q_w32w _ | exact rfl) ?_ ?_
    · intro b2
      exact r_thr (y := 129) c155_14 rfl (Or.inr (Or.inl ⟨rfl, rfl⟩))
    · intro b2
      refine r_iload_n c155_9 rfl rfl ?_
      refine r_iconst c155_10 rfl ?_
      refine r_ic_le c155_11 rfl (by first | exact q_w32_id (by omega) (by omega) | exact q_w32w _ | exact rfl) (show q_w32 (5) = 5 from rfl) ?_ ?_
      · intro b3
        refine r_aload_n c155_24 rfl rfl ?_
        refine r_getr c155_25 (by first | assumption | omega) (by decide) (by first | assumption | rfl) rfl rfl ?_
        refine r_iload_n c155_28 rfl rfl ?_
        refine r_vcG c155_29 (by first | assumption | omega) (by decide) (by first | assumption | rfl) rfl rfl rfl (k125 hG hZ (by first | assumption | exact q_hC (by assumption) | exact q_h1 (by assumption) | exact q_h3 (by assumption) | exact q_h5 (by assumption) | exact q_hG (by assumption) | exact q_hP | exact q_hB1 | exact q_hB2 | exact q_hT6 | exact q_hT15 | exact q_hT24)) ?_
        intro t4 w4 g4 p4
        obtain ⟨rfl, ⟨r4, rfl, ha4, hr4⟩, rfl⟩ := p4
        obtain ⟨fr40, fr41, fr42, fr43⟩ := q_fA ha4
        refine Or.inr (Or.inl ⟨rfl, ?_⟩)
        refine r_getr c155_32 (by first | assumption | omega) (by decide) (by first | assumption | rfl) rfl rfl ?_
        refine r_iload_n c155_35 rfl rfl ?_
        refine r_vcG c155_36 (by first | assumption | omega) (by decide) (by first | assumption | rfl) rfl rfl rfl (k44 hG hZ (by first | assumption | exact q_hC (by assumption) | exact q_h1 (by assumption) | exact q_h3 (by assumption) | exact q_h5 (by assumption) | exact q_hG (by assumption) | exact q_hP | exact q_hB1 | exact q_hB2 | exact q_hT6 | exact q_hT15 | exact q_hT24)) ?_
        intro t5 w5 g5 p5
        obtain ⟨rfl, ⟨z5, rfl⟩, rfl⟩ := p5
        refine Or.inr (Or.inl ⟨rfl, ?_⟩)
        exact r_iret c155_39 ⟨rfl, rfl, rfl⟩ (Or.inl ⟨rfl, ⟨_, rfl⟩, rfl⟩)
      · intro b3
        exact r_thr (y := 129) c155_14 rfl (Or.inr (Or.inl ⟨rfl, rfl⟩))
  · refine Or.inr (Or.inr ⟨1, rfl, ?_⟩)
    exact Or.inr ⟨rfl, (Or.inr (Or.inr (⟨rfl, rfl⟩)))⟩
theorem c197_0 : q_cat 197 0 (.aload_n 0) 1 0 0 (0) := ⟨rfl, rfl⟩
theorem c197_1 : q_cat 197 1 (.getfield 26) 3 8 2 (3) := ⟨rfl, rfl⟩
theorem c197_4 : q_cat 197 4 (.getfield 114) 3 6 3 (3) := ⟨rfl, rfl⟩
theorem c197_7 : q_cat 197 7 (.astore_n 1) 1 1 0 (0) := ⟨rfl, rfl⟩
theorem c197_8 : q_cat 197 8 (.aload_n 0) 1 0 0 (0) := ⟨rfl, rfl⟩
theorem c197_9 : q_cat 197 9 (.getfield 57) 3 8 8 (3) := ⟨rfl, rfl⟩
theorem c197_12 : q_cat 197 12 (.iconst 0) 1 0 0 (0) := ⟨rfl, rfl⟩
theorem c197_13 : q_cat 197 13 (.putfield 60) 3 2 1 (0) := ⟨rfl, rfl⟩
theorem c197_16 : q_cat 197 16 (.aload_n 1) 1 1 0 (0) := ⟨rfl, rfl⟩
theorem c197_17 : q_cat 197 17 (.getfield 117) 3 7 1 (0) := ⟨rfl, rfl⟩
theorem c197_20 : q_cat 197 20 (.ifCond .ne 12) 3 32 0 (0) := ⟨rfl, rfl⟩
theorem c197_23 : q_cat 197 23 (.aload_n 0) 1 0 0 (0) := ⟨rfl, rfl⟩
theorem c197_24 : q_cat 197 24 (.getfield 57) 3 8 8 (3) := ⟨rfl, rfl⟩
theorem c197_27 : q_cat 197 27 (.bipush 46) 2 0 0 (0) := ⟨rfl, rfl⟩
theorem c197_29 : q_cat 197 29 (.invokevirtual 392) 3 60 0 (0) := ⟨rfl, rfl⟩
theorem c197_32 : q_cat 197 32 (.iconst 0) 1 0 0 (0) := ⟨rfl, rfl⟩
theorem c197_33 : q_cat 197 33 (.istore_n 2) 1 2 0 (0) := ⟨rfl, rfl⟩
theorem c197_34 : q_cat 197 34 (.iload_n 2) 1 2 0 (0) := ⟨rfl, rfl⟩
theorem c197_35 : q_cat 197 35 (.aload_n 1) 1 1 0 (0) := ⟨rfl, rfl⟩
theorem c197_36 : q_cat 197 36 (.getfield 117) 3 7 1 (0) := ⟨rfl, rfl⟩
theorem c197_39 : q_cat 197 39 (.if_icmp .ge 79) 3 118 0 (0) := ⟨rfl, rfl⟩
theorem c197_42 : q_cat 197 42 (.iload_n 2) 1 2 0 (0) := ⟨rfl, rfl⟩
theorem c197_43 : q_cat 197 43 (.ifCond .le 12) 3 55 0 (0) := ⟨rfl, rfl⟩
theorem c197_46 : q_cat 197 46 (.aload_n 0) 1 0 0 (0) := ⟨rfl, rfl⟩
theorem c197_47 : q_cat 197 47 (.getfield 57) 3 8 8 (3) := ⟨rfl, rfl⟩
theorem c197_50 : q_cat 197 50 (.bipush 32) 2 0 0 (0) := ⟨rfl, rfl⟩
theorem c197_52 : q_cat 197 52 (.invokevirtual 392) 3 60 0 (0) := ⟨rfl, rfl⟩
theorem c197_55 : q_cat 197 55 (.aload_n 0) 1 0 0 (0) := ⟨rfl, rfl⟩
theorem c197_56 : q_cat 197 56 (.getfield 57) 3 8 8 (3) := ⟨rfl, rfl⟩
theorem c197_59 : q_cat 197 59 (.aload_n 1) 1 1 0 (0) := ⟨rfl, rfl⟩
theorem c197_60 : q_cat 197 60 (.iload_n 2) 1 2 0 (0) := ⟨rfl, rfl⟩
theorem c197_61 : q_cat 197 61 (.iconst 0) 1 0 0 (0) := ⟨rfl, rfl⟩
theorem c197_62 : q_cat 197 62 (.invokevirtual 244) 3 148 0 (0) := ⟨rfl, rfl⟩
theorem c197_65 : q_cat 197 65 (.invokevirtual 395) 3 61 0 (0) := ⟨rfl, rfl⟩
theorem c197_68 : q_cat 197 68 (.aload_n 0) 1 0 0 (0) := ⟨rfl, rfl⟩
theorem c197_69 : q_cat 197 69 (.getfield 57) 3 8 8 (3) := ⟨rfl, rfl⟩
theorem c197_72 : q_cat 197 72 (.bipush 44) 2 0 0 (0) := ⟨rfl, rfl⟩
theorem c197_74 : q_cat 197 74 (.invokevirtual 392) 3 60 0 (0) := ⟨rfl, rfl⟩
theorem c197_77 : q_cat 197 77 (.aload_n 0) 1 0 0 (0) := ⟨rfl, rfl⟩
theorem c197_78 : q_cat 197 78 (.getfield 57) 3 8 8 (3) := ⟨rfl, rfl⟩
theorem c197_81 : q_cat 197 81 (.aload_n 1) 1 1 0 (0) := ⟨rfl, rfl⟩
theorem c197_82 : q_cat 197 82 (.iload_n 2) 1 2 0 (0) := ⟨rfl, rfl⟩
theorem c197_83 : q_cat 197 83 (.iconst 1) 1 0 0 (0) := ⟨rfl, rfl⟩
theorem c197_84 : q_cat 197 84 (.invokevirtual 244) 3 148 0 (0) := ⟨rfl, rfl⟩
theorem c197_87 : q_cat 197 87 (.invokevirtual 395) 3 61 0 (0) := ⟨rfl, rfl⟩
theorem c197_90 : q_cat 197 90 (.aload_n 0) 1 0 0 (0) := ⟨rfl, rfl⟩
theorem c197_91 : q_cat 197 91 (.getfield 57) 3 8 8 (3) := ⟨rfl, rfl⟩
theorem c197_94 : q_cat 197 94 (.bipush 44) 2 0 0 (0) := ⟨rfl, rfl⟩
theorem c197_96 : q_cat 197 96 (.invokevirtual 392) 3 60 0 (0) := ⟨rfl, rfl⟩
theorem c197_99 : q_cat 197 99 (.aload_n 0) 1 0 0 (0) := ⟨rfl, rfl⟩
theorem c197_100 : q_cat 197 100 (.getfield 57) 3 8 8 (3) := ⟨rfl, rfl⟩
theorem c197_103 : q_cat 197 103 (.aload_n 1) 1 1 0 (0) := ⟨rfl, rfl⟩
theorem c197_104 : q_cat 197 104 (.iload_n 2) 1 2 0 (0) := ⟨rfl, rfl⟩
theorem c197_105 : q_cat 197 105 (.iconst 2) 1 0 0 (0) := ⟨rfl, rfl⟩
theorem c197_106 : q_cat 197 106 (.invokevirtual 244) 3 148 0 (0) := ⟨rfl, rfl⟩
theorem c197_109 : q_cat 197 109 (.invokevirtual 395) 3 61 0 (0) := ⟨rfl, rfl⟩
theorem c197_112 : q_cat 197 112 (.iinc 2 1) 3 2 0 (0) := ⟨rfl, rfl⟩
theorem c197_115 : q_cat 197 115 (.goto (-81)) 3 34 0 (0) := ⟨rfl, rfl⟩
theorem c197_118 : q_cat 197 118 (.aload_n 0) 1 0 0 (0) := ⟨rfl, rfl⟩
theorem c197_119 : q_cat 197 119 (.getfield 57) 3 8 8 (3) := ⟨rfl, rfl⟩
theorem c197_122 : q_cat 197 122 (.getfield 60) 3 2 1 (0) := ⟨rfl, rfl⟩
theorem c197_125 : q_cat 197 125 (.ireturn) 1 0 0 (0) := ⟨rfl, rfl⟩
theorem l197_34 {Γ : q_Γ} (hG : q_GG Γ) {h0 : q_F} (hZ : q_Bz h0)  
    (hx118 : ∀ {u2 : Int} {h : q_F}, q_Fr (fun k => k = 0 ∨ (6 ≤ k ∧ k ≤ 138)) h0 h → q_R Γ q_K 155 197 (fun t w h' => (t = 1 ∧ (∃ z, w = ((0, z) : q_V)) ∧ q_Fr (fun k => k = 0 ∨ (6 ≤ k ∧ k ≤ 138)) h0 h')) (118, [(2, (0, u2)), (1, (2, Int.ofNat (6 + 7))), (0, (2, Int.ofNat 0))], [], q_hp q_K 155 h, [], 0, 0))
    : ∀ (m : Nat) {u2 : Int} {h : q_F}, (-2147483648 ≤ u2 ∧ u2 < 2147483648) → q_Fr (fun k => k = 0 ∨ (6 ≤ k ∧ k ≤ 138)) h0 h → 2147483648 - u2 < (m : Int) → q_R Γ q_K 155 197 (fun t w h' => (t = 1 ∧ (∃ z, w = ((0, z) : q_V)) ∧ q_Fr (fun k => k = 0 ∨ (6 ≤ k ∧ k ≤ 138)) h0 h')) (34, [(2, (0, u2)), (1, (2, Int.ofNat (6 + 7))), (0, (2, Int.ofNat 0))], [], q_hp q_K 155 h, [], 0, 0)   := by
  have hT6 := q_hT6
  obtain ⟨fT6_0, fT6_1, fT6_2, fT6_3, fT6_4, fT6_5, fT6_6, fT6_7, fT6_8, fT6_9, fT6_10⟩ := q_fT hT6
  have hT15 := q_hT15
  obtain ⟨fT15_0, fT15_1, fT15_2, fT15_3, fT15_4, fT15_5, fT15_6, fT15_7, fT15_8, fT15_9, fT15_10⟩ := q_fT hT15
  have hT24 := q_hT24
  obtain ⟨fT24_0, fT24_1, fT24_2, fT24_3, fT24_4, fT24_5, fT24_6, fT24_7, fT24_8, fT24_9, fT24_10⟩ := q_fT hT24
  obtain ⟨gP0, gP1, gP2, gP3⟩ := q_fG q_hP
  intro m
  induction m with
  | zero =>
    intro u2 h hinv hf hmu
    exact absurd hmu (by omega)
  | succ m ih =>
    intro u2 h hinv hf hmu
    refine r_iload_n c197_34 rfl rfl ?_
    refine r_aload_n c197_35 rfl rfl ?_
    refine r_geti c197_36 (by first | assumption | omega) (by decide) (by first | assumption | rfl) rfl rfl ?_
    refine r_ic_ge c197_39 rfl (by first | exact q_w32_id (by omega) (by omega) | exact q_w32w _ | exact rfl) (by first | exact q_w32_id (by omega) (by omega) | exact q_w32w _ | exact rfl) ?_ ?_
    · intro b2
      refine q_R.wk (ks := [2, 1, 0]) (lo' := [(2, _), (1, _), (0, _)]) rfl ?_
      exact hx118 (by repeat (first | exact q_Fr.rf | refine q_Fr.ud ?_ (by omega) (by first | assumption | rfl) rfl | refine q_Fr.udz ?_ (by omega) (by first | assumption | decide | omega) | refine q_Fr.tr ?_ (by assumption) (by intro k9 hk9; omega)))
    · intro b2
      refine r_iload_n c197_42 rfl rfl ?_
      refine r_if_le c197_43 rfl (by first | exact q_w32_id (by omega) (by omega) | exact q_w32w _ | exact rfl) ?_ ?_
      · intro b3
        refine r_aload_n c197_55 rfl rfl ?_
        refine r_getr c197_56 (by first | assumption | omega) (by decide) (by first | assumption | rfl) rfl rfl ?_
        refine r_aload_n c197_59 rfl rfl ?_
        refine r_iload_n c197_60 rfl rfl ?_
        refine r_iconst c197_61 rfl ?_
        refine r_vcG c197_62 (by first | assumption | omega) (by decide) (by first | assumption | rfl) rfl rfl rfl (k148 hG (q_Fr.bz (S := fun k => k = 0 ∨ (6 ≤ k ∧ k ≤ 138)) hZ (by repeat (first | exact q_Fr.rf | refine q_Fr.ud ?_ (by omega) (by first | assumption | rfl) rfl | refine q_Fr.udz ?_ (by omega) (by first | assumption | decide | omega) | refine q_Fr.tr ?_ (by assumption) (by intro k9 hk9; omega)))) (by first | assumption | exact q_hC (by assumption) | exact q_h1 (by assumption) | exact q_h3 (by assumption) | exact q_h5 (by assumption) | exact q_hG (by assumption) | exact q_hP | exact q_hB1 | exact q_hB2 | exact q_hT6 | exact q_hT15 | exact q_hT24)) ?_
        intro t4 w4 g4 p4
        obtain ⟨rfl, ⟨z4, rfl⟩, rfl⟩ := p4
        refine Or.inr (Or.inl ⟨rfl, ?_⟩)
        refine r_vcG c197_65 (by first | assumption | omega) (by decide) (by first | assumption | rfl) rfl rfl rfl (k61 hG (q_Fr.bz (S := fun k => k = 0 ∨ (6 ≤ k ∧ k ≤ 138)) hZ (by repeat (first | exact q_Fr.rf | refine q_Fr.ud ?_ (by omega) (by first | assumption | rfl) rfl | refine q_Fr.udz ?_ (by omega) (by first | assumption | decide | omega) | refine q_Fr.tr ?_ (by assumption) (by intro k9 hk9; omega)))) (by first | assumption | exact q_hC (by assumption) | exact q_h1 (by assumption) | exact q_h3 (by assumption) | exact q_h5 (by assumption) | exact q_hG (by assumption) | exact q_hP | exact q_hB1 | exact q_hB2 | exact q_hT6 | exact q_hT15 | exact q_hT24)) ?_
        intro t5 w5 g5 p5
        obtain ⟨rfl, e5⟩ := p5
        refine Or.inl ⟨rfl, ?_⟩
        refine r_aload_n c197_68 rfl rfl ?_
        refine r_getr c197_69 (by first | assumption | omega) (by decide) (by first | assumption | rfl) rfl rfl ?_
        refine r_bipush c197_72 rfl ?_
        refine r_vcG c197_74 (by first | assumption | omega) (by decide) (by first | assumption | rfl) rfl rfl rfl (k60 hG (q_Fr.bz (S := fun k => k = 0 ∨ (6 ≤ k ∧ k ≤ 138)) hZ (by repeat (first | exact q_Fr.rf | refine q_Fr.ud ?_ (by omega) (by first | assumption | rfl) rfl | refine q_Fr.udz ?_ (by omega) (by first | assumption | decide | omega) | refine q_Fr.tr ?_ (by assumption) (by intro k9 hk9; omega)))) (by first | assumption | exact q_hC (by assumption) | exact q_h1 (by assumption) | exact q_h3 (by assumption) | exact q_h5 (by assumption) | exact q_hG (by assumption) | exact q_hP | exact q_hB1 | exact q_hB2 | exact q_hT6 | exact q_hT15 | exact q_hT24)) ?_
        intro t6 w6 g6 p6
        obtain ⟨rfl, e6⟩ := p6
        refine Or.inl ⟨rfl, ?_⟩
        refine r_aload_n c197_77 rfl rfl ?_
        refine r_getr c197_78 (by first | assumption | omega) (by decide) (by first | assumption | rfl) rfl rfl ?_
        refine r_aload_n c197_81 rfl rfl ?_
        refine r_iload_n c197_82 rfl rfl ?_
        refine r_iconst c197_83 rfl ?_
        refine r_vcG c197_84 (by first | assumption | omega) (by decide) (by first | assumption | rfl) rfl rfl rfl (k148 hG (q_Fr.bz (S := fun k => k = 0 ∨ (6 ≤ k ∧ k ≤ 138)) hZ (by repeat (first | exact q_Fr.rf | refine q_Fr.ud ?_ (by omega) (by first | assumption | rfl) rfl | refine q_Fr.udz ?_ (by omega) (by first | assumption | decide | omega) | refine q_Fr.tr ?_ (by assumption) (by intro k9 hk9; omega)))) (by first | assumption | exact q_hC (by assumption) | exact q_h1 (by assumption) | exact q_h3 (by assumption) | exact q_h5 (by assumption) | exact q_hG (by assumption) | exact q_hP | exact q_hB1 | exact q_hB2 | exact q_hT6 | exact q_hT15 | exact q_hT24)) ?_
        intro t7 w7 g7 p7
        obtain ⟨rfl, ⟨z7, rfl⟩, rfl⟩ := p7
        refine Or.inr (Or.inl ⟨rfl, ?_⟩)
        refine r_vcG c197_87 (by first | assumption | omega) (by decide) (by first | assumption | rfl) rfl rfl rfl (k61 hG (q_Fr.bz (S := fun k => k = 0 ∨ (6 ≤ k ∧ k ≤ 138)) hZ (by repeat (first | exact q_Fr.rf | refine q_Fr.ud ?_ (by omega) (by first | assumption | rfl) rfl | refine q_Fr.udz ?_ (by omega) (by first | assumption | decide | omega) | refine q_Fr.tr ?_ (by assumption) (by intro k9 hk9; omega)))) (by first | assumption | exact q_hC (by assumption) | exact q_h1 (by assumption) | exact q_h3 (by assumption) | exact q_h5 (by assumption) | exact q_hG (by assumption) | exact q_hP | exact q_hB1 | exact q_hB2 | exact q_hT6 | exact q_hT15 | exact q_hT24)) ?_
        intro t8 w8 g8 p8
        obtain ⟨rfl, e8⟩ := p8
        refine Or.inl ⟨rfl, ?_⟩
        refine r_aload_n c197_90 rfl rfl ?_
        refine r_getr c197_91 (by first | assumption | omega) (by decide) (by first | assumption | rfl) rfl rfl ?_
        refine r_bipush c197_94 rfl ?_
        refine r_vcG c197_96 (by first | assumption | omega) (by decide) (by first | assumption | rfl) rfl rfl rfl (k60 hG (q_Fr.bz (S := fun k => k = 0 ∨ (6 ≤ k ∧ k ≤ 138)) hZ (by repeat (first | exact q_Fr.rf | refine q_Fr.ud ?_ (by omega) (by first | assumption | rfl) rfl | refine q_Fr.udz ?_ (by omega) (by first | assumption | decide | omega) | refine q_Fr.tr ?_ (by assumption) (by intro k9 hk9; omega)))) (by first | assumption | exact q_hC (by assumption) | exact q_h1 (by assumption) | exact q_h3 (by assumption) | exact q_h5 (by assumption) | exact q_hG (by assumption) | exact q_hP | exact q_hB1 | exact q_hB2 | exact q_hT6 | exact q_hT15 | exact q_hT24)) ?_
        intro t9 w9 g9 p9
        obtain ⟨rfl, e9⟩ := p9
        refine Or.inl ⟨rfl, ?_⟩
        refine r_aload_n c197_99 rfl rfl ?_
        refine r_getr c197_100 (by first | assumption | omega) (by decide) (by first | assumption | rfl) rfl rfl ?_
        refine r_aload_n c197_103 rfl rfl ?_
        refine r_iload_n c197_104 rfl rfl ?_
        refine r_iconst c197_105 rfl ?_
        refine r_vcG c197_106 (by first | assumption | omega) (by decide) (by first | assumption | rfl) rfl rfl rfl (k148 hG (q_Fr.bz (S := fun k => k = 0 ∨ (6 ≤ k ∧ k ≤ 138)) hZ (by repeat (first | exact q_Fr.rf | refine q_Fr.ud ?_ (by omega) (by first | assumption | rfl) rfl | refine q_Fr.udz ?_ (by omega) (by first | assumption | decide | omega) | refine q_Fr.tr ?_ (by assumption) (by intro k9 hk9; omega)))) (by first | assumption | exact q_hC (by assumption) | exact q_h1 (by assumption) | exact q_h3 (by assumption) | exact q_h5 (by assumption) | exact q_hG (by assumption) | exact q_hP | exact q_hB1 | exact q_hB2 | exact q_hT6 | exact q_hT15 | exact q_hT24)) ?_
        intro t10 w10 g10 p10
        obtain ⟨rfl, ⟨z10, rfl⟩, rfl⟩ := p10
        refine Or.inr (Or.inl ⟨rfl, ?_⟩)
        refine r_vcG c197_109 (by first | assumption | omega) (by decide) (by first | assumption | rfl) rfl rfl rfl (k61 hG (q_Fr.bz (S := fun k => k = 0 ∨ (6 ≤ k ∧ k ≤ 138)) hZ (by repeat (first | exact q_Fr.rf | refine q_Fr.ud ?_ (by omega) (by first | assumption | rfl) rfl | refine q_Fr.udz ?_ (by omega) (by first | assumption | decide | omega) | refine q_Fr.tr ?_ (by assumption) (by intro k9 hk9; omega)))) (by first | assumption | exact q_hC (by assumption) | exact q_h1 (by assumption) | exact q_h3 (by assumption) | exact q_h5 (by assumption) | exact q_hG (by assumption) | exact q_hP | exact q_hB1 | exact q_hB2 | exact q_hT6 | exact q_hT15 | exact q_hT24)) ?_
        intro t11 w11 g11 p11
        obtain ⟨rfl, e11⟩ := p11
        refine Or.inl ⟨rfl, ?_⟩
        refine r_iinc c197_112 rfl (by first | exact q_w32_id (by omega) (by omega) | exact q_w32w _ | exact rfl) (lo' := [(2, _), (1, _), (0, _)]) rfl rfl rfl ?_
        refine r_goto c197_115 ?_
        refine q_R.wk (ks := [2, 1, 0]) (lo' := [(2, _), (1, _), (0, _)]) rfl ?_
        exact ih (by first | omega | exact ⟨q_rg1 _, q_rg2 _⟩) (by repeat (first | exact q_Fr.rf | refine q_Fr.ud ?_ (by omega) (by first | assumption | rfl) rfl | refine q_Fr.udz ?_ (by omega) (by first | assumption | decide | omega) | refine q_Fr.tr ?_ (by assumption) (by intro k9 hk9; omega))) (by omega)
      · intro b3
        refine r_aload_n c197_46 rfl rfl ?_
        refine r_getr c197_47 (by first | assumption | omega) (by decide) (by first | assumption | rfl) rfl rfl ?_
        refine r_bipush c197_50 rfl ?_
        refine r_vcG c197_52 (by first | assumption | omega) (by decide) (by first | assumption | rfl) rfl rfl rfl (k60 hG (q_Fr.bz (S := fun k => k = 0 ∨ (6 ≤ k ∧ k ≤ 138)) hZ (by repeat (first | exact q_Fr.rf | refine q_Fr.ud ?_ (by omega) (by first | assumption | rfl) rfl | refine q_Fr.udz ?_ (by omega) (by first | assumption | decide | omega) | refine q_Fr.tr ?_ (by assumption) (by intro k9 hk9; omega)))) (by first | assumption | exact q_hC (by assumption) | exact q_h1 (by assumption) | exact q_h3 (by assumption) | exact q_h5 (by assumption) | exact q_hG (by assumption) | exact q_hP | exact q_hB1 | exact q_hB2 | exact q_hT6 | exact q_hT15 | exact q_hT24)) ?_
        intro t12 w12 g12 p12
        obtain ⟨rfl, e12⟩ := p12
        refine Or.inl ⟨rfl, ?_⟩
        refine r_aload_n c197_55 rfl rfl ?_
        refine r_getr c197_56 (by first | assumption | omega) (by decide) (by first | assumption | rfl) rfl rfl ?_
        refine r_aload_n c197_59 rfl rfl ?_
        refine r_iload_n c197_60 rfl rfl ?_
        refine r_iconst c197_61 rfl ?_
        refine r_vcG c197_62 (by first | assumption | omega) (by decide) (by first | assumption | rfl) rfl rfl rfl (k148 hG (q_Fr.bz (S := fun k => k = 0 ∨ (6 ≤ k ∧ k ≤ 138)) hZ (by repeat (first | exact q_Fr.rf | refine q_Fr.ud ?_ (by omega) (by first | assumption | rfl) rfl | refine q_Fr.udz ?_ (by omega) (by first | assumption | decide | omega) | refine q_Fr.tr ?_ (by assumption) (by intro k9 hk9; omega)))) (by first | assumption | exact q_hC (by assumption) | exact q_h1 (by assumption) | exact q_h3 (by assumption) | exact q_h5 (by assumption) | exact q_hG (by assumption) | exact q_hP | exact q_hB1 | exact q_hB2 | exact q_hT6 | exact q_hT15 | exact q_hT24)) ?_
        intro t13 w13 g13 p13
        obtain ⟨rfl, ⟨z13, rfl⟩, rfl⟩ := p13
        refine Or.inr (Or.inl ⟨rfl, ?_⟩)
        refine r_vcG c197_65 (by first | assumption | omega) (by decide) (by first | assumption | rfl) rfl rfl rfl (k61 hG (q_Fr.bz (S := fun k => k = 0 ∨ (6 ≤ k ∧ k ≤ 138)) hZ (by repeat (first | exact q_Fr.rf | refine q_Fr.ud ?_ (by omega) (by first | assumption | rfl) rfl | refine q_Fr.udz ?_ (by omega) (by first | assumption | decide | omega) | refine q_Fr.tr ?_ (by assumption) (by intro k9 hk9; omega)))) (by first | assumption | exact q_hC (by assumption) | exact q_h1 (by assumption) | exact q_h3 (by assumption) | exact q_h5 (by assumption) | exact q_hG (by assumption) | exact q_hP | exact q_hB1 | exact q_hB2 | exact q_hT6 | exact q_hT15 | exact q_hT24)) ?_
        intro t14 w14 g14 p14
        obtain ⟨rfl, e14⟩ := p14
        refine Or.inl ⟨rfl, ?_⟩
        refine r_aload_n c197_68 rfl rfl ?_
        refine r_getr c197_69 (by first | assumption | omega) (by decide) (by first | assumption | rfl) rfl rfl ?_
        refine r_bipush c197_72 rfl ?_
        refine r_vcG c197_74 (by first | assumption | omega) (by decide) (by first | assumption | rfl) rfl rfl rfl (k60 hG (q_Fr.bz (S := fun k => k = 0 ∨ (6 ≤ k ∧ k ≤ 138)) hZ (by repeat (first | exact q_Fr.rf | refine q_Fr.ud ?_ (by omega) (by first | assumption | rfl) rfl | refine q_Fr.udz ?_ (by omega) (by first | assumption | decide | omega) | refine q_Fr.tr ?_ (by assumption) (by intro k9 hk9; omega)))) (by first | assumption | exact q_hC (by assumption) | exact q_h1 (by assumption) | exact q_h3 (by assumption) | exact q_h5 (by assumption) | exact q_hG (by assumption) | exact q_hP | exact q_hB1 | exact q_hB2 | exact q_hT6 | exact q_hT15 | exact q_hT24)) ?_
        intro t15 w15 g15 p15
        obtain ⟨rfl, e15⟩ := p15
        refine Or.inl ⟨rfl, ?_⟩
        refine r_aload_n c197_77 rfl rfl ?_
        refine r_getr c197_78 (by first | assumption | omega) (by decide) (by first | assumption | rfl) rfl rfl ?_
        refine r_aload_n c197_81 rfl rfl ?_
        refine r_iload_n c197_82 rfl rfl ?_
        refine r_iconst c197_83 rfl ?_
        refine r_vcG c197_84 (by first | assumption | omega) (by decide) (by first | assumption | rfl) rfl rfl rfl (k148 hG (q_Fr.bz (S := fun k => k = 0 ∨ (6 ≤ k ∧ k ≤ 138)) hZ (by repeat (first | exact q_Fr.rf | refine q_Fr.ud ?_ (by omega) (by first | assumption | rfl) rfl | refine q_Fr.udz ?_ (by omega) (by first | assumption | decide | omega) | refine q_Fr.tr ?_ (by assumption) (by intro k9 hk9; omega)))) (by first | assumption | exact q_hC (by assumption) | exact q_h1 (by assumption) | exact q_h3 (by assumption) | exact q_h5 (by assumption) | exact q_hG (by assumption) | exact q_hP | exact q_hB1 | exact q_hB2 | exact q_hT6 | exact q_hT15 | exact q_hT24)) ?_
        intro t16 w16 g16 p16
        obtain ⟨rfl, ⟨z16, rfl⟩, rfl⟩ := p16
        refine Or.inr (Or.inl ⟨rfl, ?_⟩)
        refine r_vcG c197_87 (by first | assumption | omega) (by decide) (by first | assumption | rfl) rfl rfl rfl (k61 hG (q_Fr.bz (S := fun k => k = 0 ∨ (6 ≤ k ∧ k ≤ 138)) hZ (by repeat (first | exact q_Fr.rf | refine q_Fr.ud ?_ (by omega) (by first | assumption | rfl) rfl | refine q_Fr.udz ?_ (by omega) (by first | assumption | decide | omega) | refine q_Fr.tr ?_ (by assumption) (by intro k9 hk9; omega)))) (by first | assumption | exact q_hC (by assumption) | exact q_h1 (by assumption) | exact q_h3 (by assumption) | exact q_h5 (by assumption) | exact q_hG (by assumption) | exact q_hP | exact q_hB1 | exact q_hB2 | exact q_hT6 | exact q_hT15 | exact q_hT24)) ?_
        intro t17 w17 g17 p17
        obtain ⟨rfl, e17⟩ := p17
        refine Or.inl ⟨rfl, ?_⟩
        refine r_aload_n c197_90 rfl rfl ?_
        refine r_getr c197_91 (by first | assumption | omega) (by decide) (by first | assumption | rfl) rfl rfl ?_
        refine r_bipush c197_94 rfl ?_
        refine r_vcG c197_96 (by first | assumption | omega) (by decide) (by first | assumption | rfl) rfl rfl rfl (k60 hG (q_Fr.bz (S := fun k => k = 0 ∨ (6 ≤ k ∧ k ≤ 138)) hZ (by repeat (first | exact q_Fr.rf | refine q_Fr.ud ?_ (by omega) (by first | assumption | rfl) rfl | refine q_Fr.udz ?_ (by omega) (by first | assumption | decide | omega) | refine q_Fr.tr ?_ (by assumption) (by intro k9 hk9; omega)))) (by first | assumption | exact q_hC (by assumption) | exact q_h1 (by assumption) | exact q_h3 (by assumption) | exact q_h5 (by assumption) | exact q_hG (by assumption) | exact q_hP | exact q_hB1 | exact q_hB2 | exact q_hT6 | exact q_hT15 | exact q_hT24)) ?_
        intro t18 w18 g18 p18
        obtain ⟨rfl, e18⟩ := p18
        refine Or.inl ⟨rfl, ?_⟩
        refine r_aload_n c197_99 rfl rfl ?_
        refine r_getr c197_100 (by first | assumption | omega) (by decide) (by first | assumption | rfl) rfl rfl ?_
        refine r_aload_n c197_103 rfl rfl ?_
        refine r_iload_n c197_104 rfl rfl ?_
        refine r_iconst c197_105 rfl ?_
        refine r_vcG c197_106 (by first | assumption | omega) (by decide) (by first | assumption | rfl) rfl rfl rfl (k148 hG (q_Fr.bz (S := fun k => k = 0 ∨ (6 ≤ k ∧ k ≤ 138)) hZ (by repeat (first | exact q_Fr.rf | refine q_Fr.ud ?_ (by omega) (by first | assumption | rfl) rfl | refine q_Fr.udz ?_ (by omega) (by first | assumption | decide | omega) | refine q_Fr.tr ?_ (by assumption) (by intro k9 hk9; omega)))) (by first | assumption | exact q_hC (by assumption) | exact q_h1 (by assumption) | exact q_h3 (by assumption) | exact q_h5 (by assumption) | exact q_hG (by assumption) | exact q_hP | exact q_hB1 | exact q_hB2 | exact q_hT6 | exact q_hT15 | exact q_hT24)) ?_
        intro t19 w19 g19 p19
        obtain ⟨rfl, ⟨z19, rfl⟩, rfl⟩ := p19
        refine Or.inr (Or.inl ⟨rfl, ?_⟩)
        refine r_vcG c197_109 (by first | assumption | omega) (by decide) (by first | assumption | rfl) rfl rfl rfl (k61 hG (q_Fr.bz (S := fun k => k = 0 ∨ (6 ≤ k ∧ k ≤ 138)) hZ (by repeat (first | exact q_Fr.rf | refine q_Fr.ud ?_ (by omega) (by first | assumption | rfl) rfl | refine q_Fr.udz ?_ (by omega) (by first | assumption | decide | omega) | refine q_Fr.tr ?_ (by assumption) (by intro k9 hk9; omega)))) (by first | assumption | exact q_hC (by assumption) | exact q_h1 (by assumption) | exact q_h3 (by assumption) | exact q_h5 (by assumption) | exact q_hG (by assumption) | exact q_hP | exact q_hB1 | exact q_hB2 | exact q_hT6 | exact q_hT15 | exact q_hT24)) ?_
        intro t20 w20 g20 p20
        obtain ⟨rfl, e20⟩ := p20
        refine Or.inl ⟨rfl, ?_⟩
        refine r_iinc c197_112 rfl (by first | exact q_w32_id (by omega) (by omega) | exact q_w32w _ | exact rfl) (lo' := [(2, _), (1, _), (0, _)]) rfl rfl rfl ?_
        refine r_goto c197_115 ?_
        refine q_R.wk (ks := [2, 1, 0]) (lo' := [(2, _), (1, _), (0, _)]) rfl ?_
        exact ih (by first | omega | exact ⟨q_rg1 _, q_rg2 _⟩) (by repeat (first | exact q_Fr.rf | refine q_Fr.ud ?_ (by omega) (by first | assumption | rfl) rfl | refine q_Fr.udz ?_ (by omega) (by first | assumption | decide | omega) | refine q_Fr.tr ?_ (by assumption) (by intro k9 hk9; omega))) (by omega)

theorem k197 {Γ : q_Γ} (hG : q_GG Γ) {h : q_F} (hZ : q_Bz h)   :
    q_M Γ q_K 155 197 [(2, Int.ofNat 0)] h (fun t w h' => (t = 1 ∧ (∃ z, w = ((0, z) : q_V)) ∧ q_Fr (fun k => k = 0 ∨ (6 ≤ k ∧ k ≤ 138)) h h')) := by
  have hT6 := q_hT6
  obtain ⟨fT6_0, fT6_1, fT6_2, fT6_3, fT6_4, fT6_5, fT6_6, fT6_7, fT6_8, fT6_9, fT6_10⟩ := q_fT hT6
  have hT15 := q_hT15
  obtain ⟨fT15_0, fT15_1, fT15_2, fT15_3, fT15_4, fT15_5, fT15_6, fT15_7, fT15_8, fT15_9, fT15_10⟩ := q_fT hT15
  have hT24 := q_hT24
  obtain ⟨fT24_0, fT24_1, fT24_2, fT24_3, fT24_4, fT24_5, fT24_6, fT24_7, fT24_8, fT24_9, fT24_10⟩ := q_fT hT24
  obtain ⟨gP0, gP1, gP2, gP3⟩ := q_fG q_hP
  refine q_M.of (by decide) (Nat.le_of_ble_eq_true rfl) hG ?_
  refine r_aload_n c197_0 rfl rfl ?_
  refine r_getr c197_1 (by first | assumption | omega) (by decide) (by first | assumption | rfl) rfl rfl ?_
  refine r_getr c197_4 (by first | assumption | omega) (by decide) (by first | assumption | rfl) rfl rfl ?_
  refine r_astore_n c197_7 (lo' := [(1, _), (0, _)]) rfl rfl rfl ?_
  refine r_aload_n c197_8 rfl rfl ?_
  refine r_getr c197_9 (by first | assumption | omega) (by decide) (by first | assumption | rfl) rfl rfl ?_
  refine r_iconst c197_12 rfl ?_
  refine r_puti c197_13 (by first | assumption | omega) (by decide) (by first | assumption | rfl) rfl rfl rfl ?_
  refine r_aload_n c197_16 rfl rfl ?_
  refine r_geti c197_17 (by first | assumption | omega) (by decide) (by first | assumption | rfl) rfl rfl ?_
  refine r_if_ne c197_20 rfl (by first | exact q_w32_id (by omega) (by omega) | exact q_w32w _ | exact rfl) ?_ ?_
  · intro b1
    refine r_iconst c197_32 rfl ?_
    refine r_istore_n c197_33 (lo' := [(2, _), (1, _), (0, _)]) rfl rfl rfl ?_
    refine q_R.wk (ks := [2, 1, 0]) (lo' := [(2, _), (1, _), (0, _)]) rfl ?_
    refine l197_34 hG hZ  ?_ 4294967298 (by first | omega | exact ⟨q_rg1 _, q_rg2 _⟩) (by repeat (first | exact q_Fr.rf | refine q_Fr.ud ?_ (by omega) (by first | assumption | rfl) rfl | refine q_Fr.udz ?_ (by omega) (by first | assumption | decide | omega) | refine q_Fr.tr ?_ (by assumption) (by intro k9 hk9; omega))) (q_mu (by first | omega | exact ⟨q_rg1 _, q_rg2 _⟩))
    · intro u2_2 g2 f2
      refine r_aload_n c197_118 rfl rfl ?_
      refine r_getr c197_119 (by first | assumption | omega) (by decide) (by first | assumption | rfl) rfl rfl ?_
      refine r_geti c197_122 (by first | assumption | omega) (by decide) (by first | assumption | rfl) rfl rfl ?_
      exact r_iret c197_125 ⟨rfl, rfl, rfl⟩ ⟨rfl, ⟨_, rfl⟩, (by repeat (first | exact q_Fr.rf | refine q_Fr.ud ?_ (by omega) (by first | assumption | rfl) rfl | refine q_Fr.udz ?_ (by omega) (by first | assumption | decide | omega) | refine q_Fr.tr ?_ (by assumption) (by intro k9 hk9; omega)))⟩
  · intro b1
    refine r_aload_n c197_23 rfl rfl ?_
    refine r_getr c197_24 (by first | assumption | omega) (by decide) (by first | assumption | rfl) rfl rfl ?_
    refine r_bipush c197_27 rfl ?_
    refine r_vcG c197_29 (by first | assumption | omega) (by decide) (by first | assumption | rfl) rfl rfl rfl (k60 hG (q_Fr.bz (S := fun k => k = 0 ∨ (6 ≤ k ∧ k ≤ 138)) hZ (by repeat (first | exact q_Fr.rf | refine q_Fr.ud ?_ (by omega) (by first | assumption | rfl) rfl | refine q_Fr.udz ?_ (by omega) (by first | assumption | decide | omega) | refine q_Fr.tr ?_ (by assumption) (by intro k9 hk9; omega)))) (by first | assumption | exact q_hC (by assumption) | exact q_h1 (by assumption) | exact q_h3 (by assumption) | exact q_h5 (by assumption) | exact q_hG (by assumption) | exact q_hP | exact q_hB1 | exact q_hB2 | exact q_hT6 | exact q_hT15 | exact q_hT24)) ?_
    intro t3 w3 g3 p3
    obtain ⟨rfl, e3⟩ := p3
    refine Or.inl ⟨rfl, ?_⟩
    refine r_iconst c197_32 rfl ?_
    refine r_istore_n c197_33 (lo' := [(2, _), (1, _), (0, _)]) rfl rfl rfl ?_
    refine q_R.wk (ks := [2, 1, 0]) (lo' := [(2, _), (1, _), (0, _)]) rfl ?_
    refine l197_34 hG hZ  ?_ 4294967298 (by first | omega | exact ⟨q_rg1 _, q_rg2 _⟩) (by repeat (first | exact q_Fr.rf | refine q_Fr.ud ?_ (by omega) (by first | assumption | rfl) rfl | refine q_Fr.udz ?_ (by omega) (by first | assumption | decide | omega) | refine q_Fr.tr ?_ (by assumption) (by intro k9 hk9; omega))) (q_mu (by first | omega | exact ⟨q_rg1 _, q_rg2 _⟩))
    · intro u2_4 g4 f4
      refine r_aload_n c197_118 rfl rfl ?_
      refine r_getr c197_119 (by first | assumption | omega) (by decide) (by first | assumption | rfl) rfl rfl ?_
      refine r_geti c197_122 (by first | assumption | omega) (by decide) (by first | assumption | rfl) rfl rfl ?_
      exact r_iret c197_125 ⟨rfl, rfl, rfl⟩ ⟨rfl, ⟨_, rfl⟩, (by repeat (first | exact q_Fr.rf | refine q_Fr.ud ?_ (by omega) (by first | assumption | rfl) rfl | refine q_Fr.udz ?_ (by omega) (by first | assumption | decide | omega) | refine q_Fr.tr ?_ (by assumption) (by intro k9 hk9; omega)))⟩
theorem c194_0 : q_cat 194 0 (.aload_n 0) 1 0 0 (0) := ⟨rfl, rfl⟩
theorem c194_1 : q_cat 194 1 (.getfield 57) 3 8 8 (3) := ⟨rfl, rfl⟩
theorem c194_4 : q_cat 194 4 (.iload_n 1) 1 1 0 (0) := ⟨rfl, rfl⟩
theorem c194_5 : q_cat 194 5 (.invokevirtual 398) 3 63 0 (0) := ⟨rfl, rfl⟩
theorem c194_8 : q_cat 194 8 (.ireturn) 1 0 0 (0) := ⟨rfl, rfl⟩
theorem k194 {Γ : q_Γ} (hG : q_GG Γ) {h : q_F} (hZ : q_Bz h) {v1 : Int}  :
    q_M Γ q_K 155 194 [(2, Int.ofNat 0), (0, v1)] h (fun t w h' => (t = 1 ∧ (∃ z, w = ((0, z) : q_V)) ∧ h' = h)) := by
  have hT6 := q_hT6
  obtain ⟨fT6_0, fT6_1, fT6_2, fT6_3, fT6_4, fT6_5, fT6_6, fT6_7, fT6_8, fT6_9, fT6_10⟩ := q_fT hT6
  have hT15 := q_hT15
  obtain ⟨fT15_0, fT15_1, fT15_2, fT15_3, fT15_4, fT15_5, fT15_6, fT15_7, fT15_8, fT15_9, fT15_10⟩ := q_fT hT15
  have hT24 := q_hT24
  obtain ⟨fT24_0, fT24_1, fT24_2, fT24_3, fT24_4, fT24_5, fT24_6, fT24_7, fT24_8, fT24_9, fT24_10⟩ := q_fT hT24
  obtain ⟨gP0, gP1, gP2, gP3⟩ := q_fG q_hP
  refine q_M.of (by decide) (Nat.le_of_ble_eq_true rfl) hG ?_
  refine r_aload_n c194_0 rfl rfl ?_
  refine r_getr c194_1 (by first | assumption | omega) (by decide) (by first | assumption | rfl) rfl rfl ?_
  refine r_iload_n c194_4 rfl rfl ?_
  refine r_vcG c194_5 (by first | assumption | omega) (by decide) (by first | assumption | rfl) rfl rfl rfl (k63 hG hZ (by first | assumption | exact q_hC (by assumption) | exact q_h1 (by assumption) | exact q_h3 (by assumption) | exact q_h5 (by assumption) | exact q_hG (by assumption) | exact q_hP | exact q_hB1 | exact q_hB2 | exact q_hT6 | exact q_hT15 | exact q_hT24)) ?_
  intro t1 w1 g1 p1
  obtain ⟨rfl, ⟨z1, rfl⟩, rfl⟩ := p1
  refine Or.inr (Or.inl ⟨rfl, ?_⟩)
  exact r_iret c194_8 ⟨rfl, rfl, rfl⟩ ⟨rfl, ⟨_, rfl⟩, rfl⟩
theorem c228_0 : q_cat 228 0 (.aload_n 0) 1 0 0 (0) := ⟨rfl, rfl⟩
theorem c228_1 : q_cat 228 1 (.getfield 39) 3 8 5 (3) := ⟨rfl, rfl⟩
theorem c228_4 : q_cat 228 4 (.getfield 124) 3 3 1 (0) := ⟨rfl, rfl⟩
theorem c228_7 : q_cat 228 7 (.ifCond .ne 5) 3 12 0 (0) := ⟨rfl, rfl⟩
theorem c228_10 : q_cat 228 10 (.iconst (-1)) 1 0 0 (0) := ⟨rfl, rfl⟩
theorem c228_11 : q_cat 228 11 (.ireturn) 1 0 0 (0) := ⟨rfl, rfl⟩
theorem c228_12 : q_cat 228 12 (.aload_n 0) 1 0 0 (0) := ⟨rfl, rfl⟩
theorem c228_13 : q_cat 228 13 (.getfield 39) 3 8 5 (3) := ⟨rfl, rfl⟩
theorem c228_16 : q_cat 228 16 (.aload_n 0) 1 0 0 (0) := ⟨rfl, rfl⟩
theorem c228_17 : q_cat 228 17 (.getfield 26) 3 8 2 (3) := ⟨rfl, rfl⟩
theorem c228_20 : q_cat 228 20 (.invokevirtual 401) 3 69 0 (0) := ⟨rfl, rfl⟩
theorem c228_23 : q_cat 228 23 (.aload_n 0) 1 0 0 (0) := ⟨rfl, rfl⟩
theorem c228_24 : q_cat 228 24 (.getfield 39) 3 8 5 (3) := ⟨rfl, rfl⟩
theorem c228_27 : q_cat 228 27 (.getfield 124) 3 3 1 (0) := ⟨rfl, rfl⟩
theorem c228_30 : q_cat 228 30 (.ireturn) 1 0 0 (0) := ⟨rfl, rfl⟩
theorem k228 {Γ : q_Γ} (hG : q_GG Γ) {h : q_F} (hZ : q_Bz h)   :
    q_M Γ q_K 155 228 [(2, Int.ofNat 0)] h (fun t w h' => (t = 1 ∧ (∃ z, w = ((0, z) : q_V)) ∧ q_Fr (fun k => k = 0 ∨ (6 ≤ k ∧ k ≤ 138)) h h')) := by
  have hT6 := q_hT6
  obtain ⟨fT6_0, fT6_1, fT6_2, fT6_3, fT6_4, fT6_5, fT6_6, fT6_7, fT6_8, fT6_9, fT6_10⟩ := q_fT hT6
  have hT15 := q_hT15
  obtain ⟨fT15_0, fT15_1, fT15_2, fT15_3, fT15_4, fT15_5, fT15_6, fT15_7, fT15_8, fT15_9, fT15_10⟩ := q_fT hT15
  have hT24 := q_hT24
  obtain ⟨fT24_0, fT24_1, fT24_2, fT24_3, fT24_4, fT24_5, fT24_6, fT24_7, fT24_8, fT24_9, fT24_10⟩ := q_fT hT24
  obtain ⟨gP0, gP1, gP2, gP3⟩ := q_fG q_hP
  refine q_M.of (by decide) (Nat.le_of_ble_eq_true rfl) hG ?_
  refine r_aload_n c228_0 rfl rfl ?_
  refine r_getr c228_1 (by first | assumption | omega) (by decide) (by first | assumption | rfl) rfl rfl ?_
  refine r_geti c228_4 (by first | assumption | omega) (by decide) (by first | assumption | rfl) rfl rfl ?_
  refine r_if_ne c228_7 rfl (by first | exact q_w32_id (by omega) (by omega) | exact q_w32w _ | exact rfl) ?_ ?_
  · intro b1
    refine r_aload_n c228_12 rfl rfl ?_
    refine r_getr c228_13 (by first | assumption | omega) (by decide) (by first | assumption | rfl) rfl rfl ?_
    refine r_aload_n c228_16 rfl rfl ?_
    refine r_getr c228_17 (by first | assumption | omega) (by decide) (by first | assumption | rfl) rfl rfl ?_
    refine r_vcG c228_20 (by first | assumption | omega) (by decide) (by first | assumption | rfl) rfl rfl rfl (k69 hG (q_Fr.bz (S := fun k => k = 0 ∨ (6 ≤ k ∧ k ≤ 138)) hZ (by repeat (first | exact q_Fr.rf | refine q_Fr.ud ?_ (by omega) (by first | assumption | rfl) rfl | refine q_Fr.udz ?_ (by omega) (by first | assumption | decide | omega) | refine q_Fr.tr ?_ (by assumption) (by intro k9 hk9; omega)))) (by first | assumption | exact q_hC (by assumption) | exact q_h1 (by assumption) | exact q_h3 (by assumption) | exact q_h5 (by assumption) | exact q_hG (by assumption) | exact q_hP | exact q_hB1 | exact q_hB2 | exact q_hT6 | exact q_hT15 | exact q_hT24)) ?_
    intro t2 w2 g2 p2
    obtain ⟨rfl, e2⟩ := p2
    refine Or.inl ⟨rfl, ?_⟩
    refine r_aload_n c228_23 rfl rfl ?_
    refine r_getr c228_24 (by first | assumption | omega) (by decide) (by first | assumption | rfl) rfl rfl ?_
    refine r_geti c228_27 (by first | assumption | omega) (by decide) (by first | assumption | rfl) rfl rfl ?_
    exact r_iret c228_30 ⟨rfl, rfl, rfl⟩ ⟨rfl, ⟨_, rfl⟩, (by repeat (first | exact q_Fr.rf | refine q_Fr.ud ?_ (by omega) (by first | assumption | rfl) rfl | refine q_Fr.udz ?_ (by omega) (by first | assumption | decide | omega) | refine q_Fr.tr ?_ (by assumption) (by intro k9 hk9; omega)))⟩
  · intro b1
    refine r_iconst c228_10 rfl ?_
    exact r_iret c228_11 ⟨rfl, rfl, rfl⟩ ⟨rfl, ⟨_, rfl⟩, (by repeat (first | exact q_Fr.rf | refine q_Fr.ud ?_ (by omega) (by first | assumption | rfl) rfl | refine q_Fr.udz ?_ (by omega) (by first | assumption | decide | omega) | refine q_Fr.tr ?_ (by assumption) (by intro k9 hk9; omega)))⟩
theorem c209_0 : q_cat 209 0 (.aload_n 0) 1 0 0 (0) := ⟨rfl, rfl⟩
theorem c209_1 : q_cat 209 1 (.getfield 30) 3 8 3 (3) := ⟨rfl, rfl⟩
theorem c209_4 : q_cat 209 4 (.aload_n 0) 1 0 0 (0) := ⟨rfl, rfl⟩
theorem c209_5 : q_cat 209 5 (.getfield 26) 3 8 2 (3) := ⟨rfl, rfl⟩
theorem c209_8 : q_cat 209 8 (.invokevirtual 358) 3 127 0 (0) := ⟨rfl, rfl⟩
theorem c209_11 : q_cat 209 11 (.aload_n 0) 1 0 0 (0) := ⟨rfl, rfl⟩
theorem c209_12 : q_cat 209 12 (.iconst 1) 1 0 0 (0) := ⟨rfl, rfl⟩
theorem c209_13 : q_cat 209 13 (.putfield 82) 3 8 9 (1) := ⟨rfl, rfl⟩
theorem c209_16 : q_cat 209 16 (.aload_n 0) 1 0 0 (0) := ⟨rfl, rfl⟩
theorem c209_17 : q_cat 209 17 (.getfield 26) 3 8 2 (3) := ⟨rfl, rfl⟩
theorem c209_20 : q_cat 209 20 (.getfield 114) 3 6 3 (3) := ⟨rfl, rfl⟩
theorem c209_23 : q_cat 209 23 (.getfield 117) 3 7 1 (0) := ⟨rfl, rfl⟩
theorem c209_26 : q_cat 209 26 (.ireturn) 1 0 0 (0) := ⟨rfl, rfl⟩
theorem k209 {Γ : q_Γ} (hG : q_GG Γ) {h : q_F} (hZ : q_Bz h)   :
    q_M Γ q_K 155 209 [(2, Int.ofNat 0)] h (fun t w h' => (t = 1 ∧ (∃ z, w = ((0, z) : q_V)) ∧ q_Fr (fun k => k = 0 ∨ (6 ≤ k ∧ k ≤ 138)) h h')) := by
  have hT6 := q_hT6
  obtain ⟨fT6_0, fT6_1, fT6_2, fT6_3, fT6_4, fT6_5, fT6_6, fT6_7, fT6_8, fT6_9, fT6_10⟩ := q_fT hT6
  have hT15 := q_hT15
  obtain ⟨fT15_0, fT15_1, fT15_2, fT15_3, fT15_4, fT15_5, fT15_6, fT15_7, fT15_8, fT15_9, fT15_10⟩ := q_fT hT15
  have hT24 := q_hT24
  obtain ⟨fT24_0, fT24_1, fT24_2, fT24_3, fT24_4, fT24_5, fT24_6, fT24_7, fT24_8, fT24_9, fT24_10⟩ := q_fT hT24
  obtain ⟨gP0, gP1, gP2, gP3⟩ := q_fG q_hP
  refine q_M.of (by decide) (Nat.le_of_ble_eq_true rfl) hG ?_
  refine r_aload_n c209_0 rfl rfl ?_
  refine r_getr c209_1 (by first | assumption | omega) (by decide) (by first | assumption | rfl) rfl rfl ?_
  refine r_aload_n c209_4 rfl rfl ?_
  refine r_getr c209_5 (by first | assumption | omega) (by decide) (by first | assumption | rfl) rfl rfl ?_
  refine r_vcG c209_8 (by first | assumption | omega) (by decide) (by first | assumption | rfl) rfl rfl rfl (k127 hG (q_Fr.bz (S := fun k => k = 0 ∨ (6 ≤ k ∧ k ≤ 138)) hZ (by repeat (first | exact q_Fr.rf | refine q_Fr.ud ?_ (by omega) (by first | assumption | rfl) rfl | refine q_Fr.udz ?_ (by omega) (by first | assumption | decide | omega) | refine q_Fr.tr ?_ (by assumption) (by intro k9 hk9; omega)))) (by first | assumption | exact q_hC (by assumption) | exact q_h1 (by assumption) | exact q_h3 (by assumption) | exact q_h5 (by assumption) | exact q_hG (by assumption) | exact q_hP | exact q_hB1 | exact q_hB2 | exact q_hT6 | exact q_hT15 | exact q_hT24) (by first | assumption | exact q_hC (by assumption) | exact q_h1 (by assumption) | exact q_h3 (by assumption) | exact q_h5 (by assumption) | exact q_hG (by assumption) | exact q_hP | exact q_hB1 | exact q_hB2 | exact q_hT6 | exact q_hT15 | exact q_hT24)) ?_
  intro t1 w1 g1 p1
  obtain ⟨rfl, e1⟩ := p1
  refine Or.inl ⟨rfl, ?_⟩
  refine r_aload_n c209_11 rfl rfl ?_
  refine r_iconst c209_12 rfl ?_
  refine r_puti c209_13 (by first | assumption | omega) (by decide) (by first | assumption | rfl) rfl rfl rfl ?_
  refine r_aload_n c209_16 rfl rfl ?_
  refine r_getr c209_17 (by first | assumption | omega) (by decide) (by first | assumption | rfl) rfl rfl ?_
  refine r_getr c209_20 (by first | assumption | omega) (by decide) (by first | assumption | rfl) rfl rfl ?_
  refine r_geti c209_23 (by first | assumption | omega) (by decide) (by first | assumption | rfl) rfl rfl ?_
  exact r_iret c209_26 ⟨rfl, rfl, rfl⟩ ⟨rfl, ⟨_, rfl⟩, (by repeat (first | exact q_Fr.rf | refine q_Fr.ud ?_ (by omega) (by first | assumption | rfl) rfl | refine q_Fr.udz ?_ (by omega) (by first | assumption | decide | omega) | refine q_Fr.tr ?_ (by assumption) (by intro k9 hk9; omega)))⟩
theorem c206_0 : q_cat 206 0 (.aload_n 0) 1 0 0 (0) := ⟨rfl, rfl⟩
theorem c206_1 : q_cat 206 1 (.getfield 82) 3 8 9 (1) := ⟨rfl, rfl⟩
theorem c206_4 : q_cat 206 4 (.ifCond .ne 14) 3 18 0 (0) := ⟨rfl, rfl⟩
theorem c206_7 : q_cat 206 7 (.new 404) 3 2 409 (406) := ⟨rfl, rfl⟩
theorem c206_10 : q_cat 206 10 (.dup) 1 0 0 (0) := ⟨rfl, rfl⟩
theorem c206_11 : q_cat 206 11 (.ldc_w 406) 3 0 0 (0) := ⟨rfl, rfl⟩
theorem c206_18 : q_cat 206 18 (.aload_n 0) 1 0 0 (0) := ⟨rfl, rfl⟩
theorem c206_19 : q_cat 206 19 (.getfield 26) 3 8 2 (3) := ⟨rfl, rfl⟩
theorem c206_22 : q_cat 206 22 (.aload_n 0) 1 0 0 (0) := ⟨rfl, rfl⟩
theorem c206_23 : q_cat 206 23 (.getfield 30) 3 8 3 (3) := ⟨rfl, rfl⟩
theorem c206_26 : q_cat 206 26 (.invokevirtual 358) 3 127 0 (0) := ⟨rfl, rfl⟩
theorem c206_29 : q_cat 206 29 (.aload_n 0) 1 0 0 (0) := ⟨rfl, rfl⟩
theorem c206_30 : q_cat 206 30 (.getfield 39) 3 8 5 (3) := ⟨rfl, rfl⟩
theorem c206_33 : q_cat 206 33 (.invokevirtual 79) 3 65 0 (0) := ⟨rfl, rfl⟩
theorem c206_36 : q_cat 206 36 (.aload_n 0) 1 0 0 (0) := ⟨rfl, rfl⟩
theorem c206_37 : q_cat 206 37 (.getfield 26) 3 8 2 (3) := ⟨rfl, rfl⟩
theorem c206_40 : q_cat 206 40 (.getfield 114) 3 6 3 (3) := ⟨rfl, rfl⟩
theorem c206_43 : q_cat 206 43 (.getfield 117) 3 7 1 (0) := ⟨rfl, rfl⟩
theorem c206_46 : q_cat 206 46 (.ireturn) 1 0 0 (0) := ⟨rfl, rfl⟩
theorem k206 {Γ : q_Γ} (hG : q_GG Γ) {h : q_F} (hZ : q_Bz h)   :
    q_M Γ q_K 155 206 [(2, Int.ofNat 0)] h (fun t w h' => (t = 1 ∧ (∃ z, w = ((0, z) : q_V)) ∧ q_Fr (fun k => k = 0 ∨ (6 ≤ k ∧ k ≤ 138)) h h') ∨ (t = 4 ∧ q_Fr (fun k => k = 0 ∨ (6 ≤ k ∧ k ≤ 138)) h h')) := by
  have hT6 := q_hT6
  obtain ⟨fT6_0, fT6_1, fT6_2, fT6_3, fT6_4, fT6_5, fT6_6, fT6_7, fT6_8, fT6_9, fT6_10⟩ := q_fT hT6
  have hT15 := q_hT15
  obtain ⟨fT15_0, fT15_1, fT15_2, fT15_3, fT15_4, fT15_5, fT15_6, fT15_7, fT15_8, fT15_9, fT15_10⟩ := q_fT hT15
  have hT24 := q_hT24
  obtain ⟨fT24_0, fT24_1, fT24_2, fT24_3, fT24_4, fT24_5, fT24_6, fT24_7, fT24_8, fT24_9, fT24_10⟩ := q_fT hT24
  obtain ⟨gP0, gP1, gP2, gP3⟩ := q_fG q_hP
  refine q_M.of (by decide) (Nat.le_of_ble_eq_true rfl) hG ?_
  refine r_aload_n c206_0 rfl rfl ?_
  refine r_getz (q_Fr.bz (S := fun k => k = 0 ∨ (6 ≤ k ∧ k ≤ 138)) hZ (by repeat (first | exact q_Fr.rf | refine q_Fr.ud ?_ (by omega) (by first | assumption | rfl) rfl | refine q_Fr.udz ?_ (by omega) (by first | assumption | decide | omega) | refine q_Fr.tr ?_ (by assumption) (by intro k9 hk9; omega)))) c206_1 (by first | assumption | omega) (by decide) (by first | assumption | rfl) rfl rfl rfl ?_
  intro z1
  refine r_if_ne c206_4 rfl (by first | exact q_w32_id (by omega) (by omega) | exact q_w32w _ | exact rfl) ?_ ?_
  · intro b2
    refine r_aload_n c206_18 rfl rfl ?_
    refine r_getr c206_19 (by first | assumption | omega) (by decide) (by first | assumption | rfl) rfl rfl ?_
    refine r_aload_n c206_22 rfl rfl ?_
    refine r_getr c206_23 (by first | assumption | omega) (by decide) (by first | assumption | rfl) rfl rfl ?_
    refine r_vcG c206_26 (by first | assumption | omega) (by decide) (by first | assumption | rfl) rfl rfl rfl (k127 hG (q_Fr.bz (S := fun k => k = 0 ∨ (6 ≤ k ∧ k ≤ 138)) hZ (by repeat (first | exact q_Fr.rf | refine q_Fr.ud ?_ (by omega) (by first | assumption | rfl) rfl | refine q_Fr.udz ?_ (by omega) (by first | assumption | decide | omega) | refine q_Fr.tr ?_ (by assumption) (by intro k9 hk9; omega)))) (by first | assumption | exact q_hC (by assumption) | exact q_h1 (by assumption) | exact q_h3 (by assumption) | exact q_h5 (by assumption) | exact q_hG (by assumption) | exact q_hP | exact q_hB1 | exact q_hB2 | exact q_hT6 | exact q_hT15 | exact q_hT24) (by first | assumption | exact q_hC (by assumption) | exact q_h1 (by assumption) | exact q_h3 (by assumption) | exact q_h5 (by assumption) | exact q_hG (by assumption) | exact q_hP | exact q_hB1 | exact q_hB2 | exact q_hT6 | exact q_hT15 | exact q_hT24)) ?_
    intro t3 w3 g3 p3
    obtain ⟨rfl, e3⟩ := p3
    refine Or.inl ⟨rfl, ?_⟩
    refine r_aload_n c206_29 rfl rfl ?_
    refine r_getr c206_30 (by first | assumption | omega) (by decide) (by first | assumption | rfl) rfl rfl ?_
    refine r_vcG c206_33 (by first | assumption | omega) (by decide) (by first | assumption | rfl) rfl rfl rfl (k65 hG (q_Fr.bz (S := fun k => k = 0 ∨ (6 ≤ k ∧ k ≤ 138)) hZ (by repeat (first | exact q_Fr.rf | refine q_Fr.ud ?_ (by omega) (by first | assumption | rfl) rfl | refine q_Fr.udz ?_ (by omega) (by first | assumption | decide | omega) | refine q_Fr.tr ?_ (by assumption) (by intro k9 hk9; omega))))) ?_
    intro t4 w4 g4 p4
    obtain ⟨rfl, e4⟩ := p4
    refine Or.inl ⟨rfl, ?_⟩
    refine r_aload_n c206_36 rfl rfl ?_
    refine r_getr c206_37 (by first | assumption | omega) (by decide) (by first | assumption | rfl) rfl rfl ?_
    refine r_getr c206_40 (by first | assumption | omega) (by decide) (by first | assumption | rfl) rfl rfl ?_
    refine r_geti c206_43 (by first | assumption | omega) (by decide) (by first | assumption | rfl) rfl rfl ?_
    exact r_iret c206_46 ⟨rfl, rfl, rfl⟩ (Or.inl ⟨rfl, ⟨_, rfl⟩, (by repeat (first | exact q_Fr.rf | refine q_Fr.ud ?_ (by omega) (by first | assumption | rfl) rfl | refine q_Fr.udz ?_ (by omega) (by first | assumption | decide | omega) | refine q_Fr.tr ?_ (by assumption) (by intro k9 hk9; omega)))⟩)
  · intro b2
    exact r_thr (y := 408) c206_7 rfl (Or.inr (⟨rfl, (by repeat (first | exact q_Fr.rf | refine q_Fr.ud ?_ (by omega) (by first | assumption | rfl) rfl | refine q_Fr.udz ?_ (by omega) (by first | assumption | decide | omega) | refine q_Fr.tr ?_ (by assumption) (by intro k9 hk9; omega)))⟩))
theorem c187_0 : q_cat 187 0 (.aload_n 0) 1 0 0 (0) := ⟨rfl, rfl⟩
theorem c187_1 : q_cat 187 1 (.getfield 19) 3 8 1 (3) := ⟨rfl, rfl⟩
theorem c187_4 : q_cat 187 4 (.aload_n 0) 1 0 0 (0) := ⟨rfl, rfl⟩
theorem c187_5 : q_cat 187 5 (.getfield 10) 3 8 0 (3) := ⟨rfl, rfl⟩
theorem c187_8 : q_cat 187 8 (.invokevirtual 68) 3 117 0 (0) := ⟨rfl, rfl⟩
theorem c187_11 : q_cat 187 11 (.aload_n 0) 1 0 0 (0) := ⟨rfl, rfl⟩
theorem c187_12 : q_cat 187 12 (.getfield 10) 3 8 0 (3) := ⟨rfl, rfl⟩
theorem c187_15 : q_cat 187 15 (.iconst 0) 1 0 0 (0) := ⟨rfl, rfl⟩
theorem c187_16 : q_cat 187 16 (.putfield 60) 3 2 1 (0) := ⟨rfl, rfl⟩
theorem c187_19 : q_cat 187 19 (.aload_n 0) 1 0 0 (0) := ⟨rfl, rfl⟩
theorem c187_20 : q_cat 187 20 (.getfield 19) 3 8 1 (3) := ⟨rfl, rfl⟩
theorem c187_23 : q_cat 187 23 (.getfield 72) 3 5 4 (0) := ⟨rfl, rfl⟩
theorem c187_26 : q_cat 187 26 (.ifCond .eq 5) 3 31 0 (0) := ⟨rfl, rfl⟩
theorem c187_29 : q_cat 187 29 (.iconst (-1)) 1 0 0 (0) := ⟨rfl, rfl⟩
theorem c187_30 : q_cat 187 30 (.ireturn) 1 0 0 (0) := ⟨rfl, rfl⟩
theorem c187_31 : q_cat 187 31 (.aload_n 0) 1 0 0 (0) := ⟨rfl, rfl⟩
theorem c187_32 : q_cat 187 32 (.getfield 26) 3 8 2 (3) := ⟨rfl, rfl⟩
theorem c187_35 : q_cat 187 35 (.aload_n 0) 1 0 0 (0) := ⟨rfl, rfl⟩
theorem c187_36 : q_cat 187 36 (.getfield 19) 3 8 1 (3) := ⟨rfl, rfl⟩
theorem c187_39 : q_cat 187 39 (.invokevirtual 75) 3 139 0 (0) := ⟨rfl, rfl⟩
theorem c187_42 : q_cat 187 42 (.aload_n 0) 1 0 0 (0) := ⟨rfl, rfl⟩
theorem c187_43 : q_cat 187 43 (.getfield 39) 3 8 5 (3) := ⟨rfl, rfl⟩
theorem c187_46 : q_cat 187 46 (.invokevirtual 79) 3 65 0 (0) := ⟨rfl, rfl⟩
theorem c187_49 : q_cat 187 49 (.aload_n 0) 1 0 0 (0) := ⟨rfl, rfl⟩
theorem c187_50 : q_cat 187 50 (.getfield 57) 3 8 8 (3) := ⟨rfl, rfl⟩
theorem c187_53 : q_cat 187 53 (.iconst 0) 1 0 0 (0) := ⟨rfl, rfl⟩
theorem c187_54 : q_cat 187 54 (.putfield 60) 3 2 1 (0) := ⟨rfl, rfl⟩
theorem c187_57 : q_cat 187 57 (.aload_n 0) 1 0 0 (0) := ⟨rfl, rfl⟩
theorem c187_58 : q_cat 187 58 (.iconst 0) 1 0 0 (0) := ⟨rfl, rfl⟩
theorem c187_59 : q_cat 187 59 (.putfield 82) 3 8 9 (1) := ⟨rfl, rfl⟩
theorem c187_62 : q_cat 187 62 (.aload_n 0) 1 0 0 (0) := ⟨rfl, rfl⟩
theorem c187_63 : q_cat 187 63 (.getfield 26) 3 8 2 (3) := ⟨rfl, rfl⟩
theorem c187_66 : q_cat 187 66 (.getfield 86) 3 6 0 (3) := ⟨rfl, rfl⟩
theorem c187_69 : q_cat 187 69 (.getfield 90) 3 1 0 (0) := ⟨rfl, rfl⟩
theorem c187_72 : q_cat 187 72 (.aload_n 0) 1 0 0 (0) := ⟨rfl, rfl⟩
theorem c187_73 : q_cat 187 73 (.getfield 26) 3 8 2 (3) := ⟨rfl, rfl⟩
theorem c187_76 : q_cat 187 76 (.getfield 93) 3 6 1 (3) := ⟨rfl, rfl⟩
theorem c187_79 : q_cat 187 79 (.getfield 90) 3 1 0 (0) := ⟨rfl, rfl⟩
theorem c187_82 : q_cat 187 82 (.iadd) 1 0 0 (0) := ⟨rfl, rfl⟩
theorem c187_83 : q_cat 187 83 (.aload_n 0) 1 0 0 (0) := ⟨rfl, rfl⟩
theorem c187_84 : q_cat 187 84 (.getfield 26) 3 8 2 (3) := ⟨rfl, rfl⟩
theorem c187_87 : q_cat 187 87 (.getfield 96) 3 6 2 (3) := ⟨rfl, rfl⟩
theorem c187_90 : q_cat 187 90 (.getfield 90) 3 1 0 (0) := ⟨rfl, rfl⟩
theorem c187_93 : q_cat 187 93 (.iadd) 1 0 0 (0) := ⟨rfl, rfl⟩
theorem c187_94 : q_cat 187 94 (.ireturn) 1 0 0 (0) := ⟨rfl, rfl⟩
theorem k187 {Γ : q_Γ} (hG : q_GG Γ) {h : q_F} (hZ : q_Bz h)   :
    q_M Γ q_K 155 187 [(2, Int.ofNat 0)] h (fun t w h' => (t = 1 ∧ (∃ z, w = ((0, z) : q_V)) ∧ q_Fr (fun k => k ≤ 138) h h')) := by
  have hT6 := q_hT6
  obtain ⟨fT6_0, fT6_1, fT6_2, fT6_3, fT6_4, fT6_5, fT6_6, fT6_7, fT6_8, fT6_9, fT6_10⟩ := q_fT hT6
  have hT15 := q_hT15
  obtain ⟨fT15_0, fT15_1, fT15_2, fT15_3, fT15_4, fT15_5, fT15_6, fT15_7, fT15_8, fT15_9, fT15_10⟩ := q_fT hT15
  have hT24 := q_hT24
  obtain ⟨fT24_0, fT24_1, fT24_2, fT24_3, fT24_4, fT24_5, fT24_6, fT24_7, fT24_8, fT24_9, fT24_10⟩ := q_fT hT24
  obtain ⟨gP0, gP1, gP2, gP3⟩ := q_fG q_hP
  refine q_M.of (by decide) (Nat.le_of_ble_eq_true rfl) hG ?_
  refine r_aload_n c187_0 rfl rfl ?_
  refine r_getr c187_1 (by first | assumption | omega) (by decide) (by first | assumption | rfl) rfl rfl ?_
  refine r_aload_n c187_4 rfl rfl ?_
  refine r_getr c187_5 (by first | assumption | omega) (by decide) (by first | assumption | rfl) rfl rfl ?_
  refine r_vcG c187_8 (by first | assumption | omega) (by decide) (by first | assumption | rfl) rfl rfl rfl (k117 hG (q_Fr.bz (S := fun k => k ≤ 138) hZ (by repeat (first | exact q_Fr.rf | refine q_Fr.ud ?_ (by omega) (by first | assumption | rfl) rfl | refine q_Fr.udz ?_ (by omega) (by first | assumption | decide | omega) | refine q_Fr.tr ?_ (by assumption) (by intro k9 hk9; omega)))) (by first | assumption | exact q_hC (by assumption) | exact q_h1 (by assumption) | exact q_h3 (by assumption) | exact q_h5 (by assumption) | exact q_hG (by assumption) | exact q_hP | exact q_hB1 | exact q_hB2 | exact q_hT6 | exact q_hT15 | exact q_hT24)) ?_
  intro t1 w1 g1 p1
  obtain ⟨rfl, e1⟩ := p1
  refine Or.inl ⟨rfl, ?_⟩
  refine r_aload_n c187_11 rfl rfl ?_
  refine r_getr c187_12 (by first | assumption | omega) (by decide) (by first | assumption | rfl) rfl rfl ?_
  refine r_iconst c187_15 rfl ?_
  refine r_puti c187_16 (by first | assumption | omega) (by decide) (by first | assumption | rfl) rfl rfl rfl ?_
  refine r_aload_n c187_19 rfl rfl ?_
  refine r_getr c187_20 (by first | assumption | omega) (by decide) (by first | assumption | rfl) rfl rfl ?_
  refine r_geti c187_23 (by first | assumption | omega) (by decide) (by first | assumption | rfl) rfl rfl ?_
  refine r_if_eq c187_26 rfl (by first | exact q_w32_id (by omega) (by omega) | exact q_w32w _ | exact rfl) ?_ ?_
  · intro b2
    refine r_aload_n c187_31 rfl rfl ?_
    refine r_getr c187_32 (by first | assumption | omega) (by decide) (by first | assumption | rfl) rfl rfl ?_
    refine r_aload_n c187_35 rfl rfl ?_
    refine r_getr c187_36 (by first | assumption | omega) (by decide) (by first | assumption | rfl) rfl rfl ?_
    refine r_vcG c187_39 (by first | assumption | omega) (by decide) (by first | assumption | rfl) rfl rfl rfl (k139 hG (q_Fr.bz (S := fun k => k ≤ 138) hZ (by repeat (first | exact q_Fr.rf | refine q_Fr.ud ?_ (by omega) (by first | assumption | rfl) rfl | refine q_Fr.udz ?_ (by omega) (by first | assumption | decide | omega) | refine q_Fr.tr ?_ (by assumption) (by intro k9 hk9; omega)))) (by first | assumption | exact q_hC (by assumption) | exact q_h1 (by assumption) | exact q_h3 (by assumption) | exact q_h5 (by assumption) | exact q_hG (by assumption) | exact q_hP | exact q_hB1 | exact q_hB2 | exact q_hT6 | exact q_hT15 | exact q_hT24)) ?_
    intro t3 w3 g3 p3
    obtain ⟨rfl, e3⟩ := p3
    refine Or.inl ⟨rfl, ?_⟩
    refine r_aload_n c187_42 rfl rfl ?_
    refine r_getr c187_43 (by first | assumption | omega) (by decide) (by first | assumption | rfl) rfl rfl ?_
    refine r_vcG c187_46 (by first | assumption | omega) (by decide) (by first | assumption | rfl) rfl rfl rfl (k65 hG (q_Fr.bz (S := fun k => k ≤ 138) hZ (by repeat (first | exact q_Fr.rf | refine q_Fr.ud ?_ (by omega) (by first | assumption | rfl) rfl | refine q_Fr.udz ?_ (by omega) (by first | assumption | decide | omega) | refine q_Fr.tr ?_ (by assumption) (by intro k9 hk9; omega))))) ?_
    intro t4 w4 g4 p4
    obtain ⟨rfl, e4⟩ := p4
    refine Or.inl ⟨rfl, ?_⟩
    refine r_aload_n c187_49 rfl rfl ?_
    refine r_getr c187_50 (by first | assumption | omega) (by decide) (by first | assumption | rfl) rfl rfl ?_
    refine r_iconst c187_53 rfl ?_
    refine r_puti c187_54 (by first | assumption | omega) (by decide) (by first | assumption | rfl) rfl rfl rfl ?_
    refine r_aload_n c187_57 rfl rfl ?_
    refine r_iconst c187_58 rfl ?_
    refine r_puti c187_59 (by first | assumption | omega) (by decide) (by first | assumption | rfl) rfl rfl rfl ?_
    refine r_aload_n c187_62 rfl rfl ?_
    refine r_getr c187_63 (by first | assumption | omega) (by decide) (by first | assumption | rfl) rfl rfl ?_
    refine r_getr c187_66 (by first | assumption | omega) (by decide) (by first | assumption | rfl) rfl rfl ?_
    refine r_geti c187_69 (by first | assumption | omega) (by decide) (by first | assumption | rfl) rfl rfl ?_
    refine r_aload_n c187_72 rfl rfl ?_
    refine r_getr c187_73 (by first | assumption | omega) (by decide) (by first | assumption | rfl) rfl rfl ?_
    refine r_getr c187_76 (by first | assumption | omega) (by decide) (by first | assumption | rfl) rfl rfl ?_
    refine r_geti c187_79 (by first | assumption | omega) (by decide) (by first | assumption | rfl) rfl rfl ?_
    refine r_iadd c187_82 (by first | exact q_w32_id (by omega) (by omega) | exact q_w32w _ | exact rfl) rfl ?_
    refine r_aload_n c187_83 rfl rfl ?_
    refine r_getr c187_84 (by first | assumption | omega) (by decide) (by first | assumption | rfl) rfl rfl ?_
    refine r_getr c187_87 (by first | assumption | omega) (by decide) (by first | assumption | rfl) rfl rfl ?_
    refine r_geti c187_90 (by first | assumption | omega) (by decide) (by first | assumption | rfl) rfl rfl ?_
    refine r_iadd c187_93 (by first | exact q_w32_id (by omega) (by omega) | exact q_w32w _ | exact rfl) rfl ?_
    exact r_iret c187_94 ⟨rfl, rfl, rfl⟩ ⟨rfl, ⟨_, rfl⟩, (by repeat (first | exact q_Fr.rf | refine q_Fr.ud ?_ (by omega) (by first | assumption | rfl) rfl | refine q_Fr.udz ?_ (by omega) (by first | assumption | decide | omega) | refine q_Fr.tr ?_ (by assumption) (by intro k9 hk9; omega)))⟩
  · intro b2
    refine r_iconst c187_29 rfl ?_
    exact r_iret c187_30 ⟨rfl, rfl, rfl⟩ ⟨rfl, ⟨_, rfl⟩, (by repeat (first | exact q_Fr.rf | refine q_Fr.ud ?_ (by omega) (by first | assumption | rfl) rfl | refine q_Fr.udz ?_ (by omega) (by first | assumption | decide | omega) | refine q_Fr.tr ?_ (by assumption) (by intro k9 hk9; omega)))⟩
