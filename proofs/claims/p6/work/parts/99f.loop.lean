/-! Part 99f: the law's loop. -/
theorem y_loop {Γ : q_Γ} (hG : q_GG Γ) (hL : Γ.2.2.2.1 ≤ 3072) : ∀ (m i : Nat) (h : q_F) (cl sl : Nat), Γ.2.2.2.1 ≤ i + 6 * m + 5 → i ≤ Γ.2.2.2.1 → q_Al 0 155 h → t_J h → h 1 1 = h 139 14 → cl ≤ 700 + i → sl ≤ 20000 + 6 * i → q_R Γ q_K 155 368 y_P (28, y_lo i, [], q_hp q_K 155 h, [], cl, sl) := by
  intro m
  induction m with
  | zero =>
    intro i h cl sl hm hi hA J E hc hs
    refine r_iload c368_28 rfl rfl ?_
    refine r_aload9 c368_30 rfl rfl ?_
    refine r_alen9 c368_31 (by decide) rfl rfl ?_
    refine r_bipush c368_32 rfl ?_
    refine r_isub c368_34 (q_w32_id (by show _ ≤ (Γ.2.2.2.1 : Int) - 6; omega) (by show (Γ.2.2.2.1 : Int) - 6 < _; omega)) rfl ?_
    refine r_ic_gt c368_35 rfl (q_w32_id (by omega) (by omega)) (q_w32_id (by show _ ≤ (Γ.2.2.2.1 : Int) - 6; omega) (by show (Γ.2.2.2.1 : Int) - 6 < _; omega)) (fun _ => ?_) (fun h9 => ?_)
    · refine r_iconst c368_2195 rfl ?_
      exact r_zret c368_2196 ⟨rfl, y_ble1 (by omega), y_ble2 (by omega)⟩ (Or.inr rfl) ⟨rfl, rfl⟩
    · have h8 : (i : Int) ≤ (Γ.2.2.2.1 : Int) - 6 := h9.1
      omega
  | succ m ih =>
    intro i h cl sl hm hi hA J E hc hs
    refine r_iload c368_28 rfl rfl ?_
    refine r_aload9 c368_30 rfl rfl ?_
    refine r_alen9 c368_31 (by decide) rfl rfl ?_
    refine r_bipush c368_32 rfl ?_
    refine r_isub c368_34 (q_w32_id (by show _ ≤ (Γ.2.2.2.1 : Int) - 6; omega) (by show (Γ.2.2.2.1 : Int) - 6 < _; omega)) rfl ?_
    refine r_ic_gt c368_35 rfl (q_w32_id (by omega) (by omega)) (q_w32_id (by show _ ≤ (Γ.2.2.2.1 : Int) - 6; omega) (by show (Γ.2.2.2.1 : Int) - 6 < _; omega)) (fun _ => ?_) (fun h9 => ?_)
    · refine r_iconst c368_2195 rfl ?_
      exact r_zret c368_2196 ⟨rfl, y_ble1 (by omega), y_ble2 (by omega)⟩ (Or.inr rfl) ⟨rfl, rfl⟩
    · have h8 : (i : Int) ≤ (Γ.2.2.2.1 : Int) - 6 := h9.1
      refine r_aload9 c368_38 rfl rfl ?_
      refine r_iload c368_39 rfl rfl ?_
      refine r_sald c368_41 rfl (q_w32_id (by omega) (by omega)) (by omega) (by omega) rfl ?_
      refine r_bipush c368_42 rfl ?_
      refine r_iand c368_44 rfl rfl ?_
      have z9 := y_and63 (Γ.1 (Int.toNat (i : Int)))
      have kk : y_K Γ i cl sl := by
        intro h' cl' sl' hA' J' c1 s1
        refine r_iinc c368_2189 rfl (r := ((i + 6 : Nat) : Int)) (by rw [q_w32_id (by omega) (by omega)]; omega) (lo' := y_lo (i + 6)) rfl rfl rfl ?_
        refine r_goto c368_2192 ?_
        exact ih (i + 6) h' cl' sl' (by omega) (by omega) hA' J'.1 J'.2 (by omega) (by omega)
      refine r_tsw c368_45 (q_w32_id (by omega) (by omega)) rfl rfl (td := 2189) rfl rfl (fun _ => kk _ _ _ hA ⟨J, E⟩ (by omega) (by omega)) (fun a0 a1 => ?_)
      exact y_sw hG (by omega) hL hA J E (by omega) (by omega) kk rfl rfl rfl rfl _ a0 a1
