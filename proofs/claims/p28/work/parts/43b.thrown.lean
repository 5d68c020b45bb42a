/-! Part 43b: what the reference has thrown last. -/
theorem c368_0 : q_cat 368 0 (.aload_n 0) 1 0 0 (0) := ⟨rfl, rfl⟩
theorem c368_1 : q_cat 368 1 (.getfield 60) 3 9 7 (0) := ⟨rfl, rfl⟩
theorem c368_4 : q_cat 368 4 (.ireturn) 1 0 0 (0) := ⟨rfl, rfl⟩
noncomputable def fn368  (h : q_F) : Option (Int) :=
  some (h 139 7)
theorem wn368 {Γ : q_Γ} (hG : q_GG Γ)   {h : q_F} (hA : q_Al 0 155 h) {r : Int} (hf : fn368  h = some r) :
    q_M Γ q_K 155 368 [(2, Int.ofNat 139)] h (q_PP 0 0 r h) := by
  unfold fn368 at hf
  refine q_M.of (by decide) (Nat.le_of_ble_eq_true rfl) hG ?_
  refine r_aload_n c368_0 rfl rfl ?_
  refine r_geti c368_1 (by decide) (by decide) rfl rfl rfl ?_
  cases q_so hf
  exact r_iret c368_4 ⟨rfl, rfl, rfl⟩ ⟨rfl, rfl, rfl, (q_al0 hA rfl (Nat.zero_le _) (by decide))⟩
