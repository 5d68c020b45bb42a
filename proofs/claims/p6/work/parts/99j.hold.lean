/-! Part 99j: what holds between two calls holds of the first heap. -/
theorem y_N_b (k : Nat) : 0 ≤ y_N k ∧ y_N k ≤ 1000 := by unfold y_N; split <;> omega
theorem y_w0_b (j : Nat) : 0 ≤ y_w0 j ∧ y_w0 j ≤ 1000 := by
  unfold y_w0 m_new
  have h := y_N_b (6 * ((j - 8) % 3) + (j - 8) / 3)
  repeat' split
  all_goals first | omega | exact h | (show (0 : Int) ≤ 0 ∧ (0 : Int) ≤ 1000; omega)
theorem y_ax_b (j : Nat) : 0 ≤ y_ax j ∧ y_ax j ≤ 1000 := by unfold y_ax; split <;> omega
theorem y_t_b (r j : Nat) : 0 ≤ y_t r j ∧ y_t r j ≤ 1000 := by
  have h := y_ax_b j
  unfold y_t
  repeat' split
  all_goals first | omega | exact h
theorem y_h0_b (k j : Nat) : -1 ≤ y_h0 k j ∧ y_h0 k j ≤ 1000 := by
  have h1 := y_w0_b j
  have h2 := y_t_b ((k - 6) % 9) j
  have h3 := y_t_b ((k - 35) % 9) j
  unfold y_h0
  repeat' split
  all_goals omega
theorem y_k_A : ∀ k, k < 155 → (q_K k).1 = 2 → k = 2 ∨ k = 138 := by decide +kernel
theorem y_k_B : ∀ k, k < 155 → ((q_K k).1 = 0 → (q_K k).2.2.all (fun d => Nat.ble d.1 2) = true) := by decide +kernel
theorem y_k_C : ∀ k, k < 155 → ∀ j, j < 12 → q_zf (q_K k) j = true → y_h0 k j = 0 ∨ y_h0 k j = 1 := by decide +kernel
theorem y_zf {L : q_Ly} {j : Nat} (h : q_zf L j = true) : L.1 = 0 ∧ j < 12 := by
  unfold q_zf at h
  obtain ⟨h1, h⟩ := q_and_i h
  refine ⟨q_bq h1, ?_⟩
  have key : ∀ m, m < 12 → Nat.beq j m = true → j < 12 := fun m hm h => by rw [q_bq h]; exact hm
  cases c1 : Nat.beq L.2.1 1 with
  | true =>
    rw [c1] at h
    rcases q_or_i h with h | h
    · exact key 10 (by omega) h
    · exact key 11 (by omega) h
  | false =>
    rw [c1] at h
    cases c2 : Nat.beq L.2.1 6 with
    | true =>
      rw [c2] at h
      rcases q_or_i h with h | h
      · exact key 5 (by omega) h
      · exact key 6 (by omega) h
    | false =>
      rw [c2] at h
      cases c3 : Nat.beq L.2.1 8 with
      | true => rw [c3] at h; exact key 9 (by omega) h
      | false =>
        rw [c3] at h
        obtain ⟨-, h⟩ := q_and_i h
        exact key 6 (by omega) h
theorem y_Al : q_Al 0 155 y_h0 := by
  intro k j _ hk
  have hb := y_h0_b k j
  have e : ∀ ty, q_tyL (q_K k) j = ty → q_in ty (y_h0 k j) := by
    intro ty hty
    unfold q_tyL at hty
    have z2 := y_k_A k hk
    have z0 := y_k_B k hk
    have zc := y_k_C k hk
    split at hty
    · rename_i e0
      cases cz : q_zf (q_K k) j with
      | true =>
        rw [cz] at hty
        have hty : 3 = ty := hty
        subst hty
        exact zc j (y_zf cz).2 cz
      | false =>
        rw [cz] at hty
        have hty : (match (q_K k).2.2[j]? with | some d => d.1 | none => 9) = ty := hty
        cases cd : (q_K k).2.2[j]? with
        | none => rw [cd] at hty; subst hty; trivial
        | some d =>
          rw [cd] at hty
          have hty : d.1 = ty := hty
          have h2 := Nat.le_of_ble_eq_true (List.all_eq_true.mp (z0 e0) d (List.mem_of_getElem? cd))
          subst hty
          obtain ⟨d1, d2⟩ := d
          have h2 : d1 ≤ 2 := h2
          show q_in d1 _
          match d1, h2 with
          | 0, _ => exact ⟨by omega, by omega⟩
          | 1, _ => exact ⟨by omega, by omega⟩
          | 2, _ => trivial
    · subst hty; exact ⟨by omega, by omega⟩
    · rename_i e2
      subst hty
      have e9 : y_h0 k j = 0 := by
        rcases z2 e2 with rfl | rfl
        · unfold y_h0; rw [if_neg (by omega), if_neg (by omega), if_neg (by omega), if_neg (by omega), if_neg (by omega)]
        · unfold y_h0; rw [if_neg (by omega), if_neg (by omega), if_neg (by omega), if_neg (by omega), if_neg (by omega)]
      rw [e9]; exact ⟨by omega, by omega⟩
    · subst hty; exact ⟨by omega, by omega⟩
    · subst hty; trivial
  exact e _ rfl
theorem y_nr : ∀ a, a < 3 → ∀ i, i < 6 → m_nr i (y_N (6 * a + i)) := by
  intro a _ i hi
  have e : (6 * a + i) % 6 = i := by omega
  unfold y_N
  rw [e]
  match i, hi with
  | 0, _ => exact ⟨fun _ => by decide, fun h => absurd h (by decide), fun h => absurd h (by decide), fun h => absurd h (by decide), fun h => absurd h (by decide), fun h => absurd h (by decide)⟩
  | 1, _ => exact ⟨fun h => absurd h (by decide), fun _ => by decide, fun h => absurd h (by decide), fun h => absurd h (by decide), fun h => absurd h (by decide), fun h => absurd h (by decide)⟩
  | 2, _ => exact ⟨fun h => absurd h (by decide), fun h => absurd h (by decide), fun _ => by decide, fun h => absurd h (by decide), fun h => absurd h (by decide), fun h => absurd h (by decide)⟩
  | 3, _ => exact ⟨fun h => absurd h (by decide), fun h => absurd h (by decide), fun h => absurd h (by decide), fun _ => by decide, fun h => absurd h (by decide), fun h => absurd h (by decide)⟩
  | 4, _ => exact ⟨fun h => absurd h (by decide), fun h => absurd h (by decide), fun h => absurd h (by decide), fun h => absurd h (by decide), fun _ => by decide, fun h => absurd h (by decide)⟩
  | 5, _ => exact ⟨fun h => absurd h (by decide), fun h => absurd h (by decide), fun h => absurd h (by decide), fun h => absurd h (by decide), fun h => absurd h (by decide), fun _ => by decide⟩
def y_S0 : m_St := m_mkS y_w0 0 (fun _ _ => 0) 0 (fun _ => 0)
theorem y_mI : m_I y_S0 := by
  refine ⟨m_RI_new (st := 100) (cp := 0) (dt := 0) (N := y_N) (B := fun _ => 0) (by omega) (Or.inl rfl) (Or.inl rfl) y_nr (fun a ha => ⟨Int.le_refl 0, ?_⟩), ⟨Nat.zero_le _, fun k hk => absurd hk (Nat.not_lt_zero k)⟩, Or.inl rfl, fun h9 => absurd rfl h9⟩
  exact (y_N_b (6 * a)).1
theorem y_tb1 : ∀ a, a < 3 → (∀ j, j < 14 → y_h0 (6 + 1 + 2 * a) j = y_w0 (c_f j + a)) ∧ ∀ j, j < 7 → y_h0 (6 + 1 + 2 * a + 1) j = q_w32 (y_w0 (c_g j + a)) := by decide +kernel
theorem y_cI : c_I y_h0 y_S0 := by
  refine ⟨⟨y_tb1, ?_, ?_, ?_⟩, ⟨rfl, by decide, by decide, fun k hk => absurd hk (Nat.not_lt_zero k)⟩, rfl, fun h9 => absurd rfl h9⟩
  · exact ⟨by decide +kernel, by decide +kernel, by decide +kernel, by decide +kernel, by decide +kernel, by decide +kernel, by decide +kernel⟩
  · decide +kernel
  · decide +kernel
theorem y_rI : r_I y_h0 y_S0 := ⟨by funext j; unfold y_h0; rw [if_pos rfl]; rfl, ⟨rfl, fun k hk => absurd hk (Nat.not_lt_zero k)⟩, rfl, fun h9 => absurd rfl h9⟩
theorem y_J0 : t_J y_h0 := ⟨y_S0, ⟨y_mI, y_cI⟩, ⟨y_mI, y_rI⟩, s_text0 (by decide) (by decide), ⟨by decide, by decide⟩, by decide, by decide⟩
theorem y_E0 : y_h0 1 1 = y_h0 139 14 := by decide
