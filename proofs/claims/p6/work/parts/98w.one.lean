/-! Part 98w: the whole text is read alike. -/
theorem s_text {B : Nat → Int} {n : Nat} : ∀ (d f1 f2 u p s : Nat) (c g : q_F), n - p ≤ d → d < f1 → d < f2 → u ≤ p → s_R B n p s c g → s_W s g → ∃ c' g' v, fn117_6 1 f1 u c = some (0, c') ∧ fn317_0 f2 g = some (v, g') ∧ ((v = 1 ∧ ∃ p' s', s_R B n p' s' c' g' ∧ s_W s' g') ∨ (v = 0 ∧ s_E c' g')) := by
  have stop : ∀ (f1 f2 u p s : Nat) (c g : q_F), 0 < f1 → 0 < f2 → s_b B n p = n → s_R B n p s c g → s_W s g → ∃ c' g' v, fn117_6 1 f1 u c = some (0, c') ∧ fn317_0 f2 g = some (v, g') ∧ ((v = 1 ∧ ∃ p' s', s_R B n p' s' c' g' ∧ s_W s' g') ∨ (v = 0 ∧ s_E c' g')) := by
    intro f1 f2 u p s c g h1 h2 hb R W
    obtain ⟨f1, rfl⟩ : ∃ f', f1 = f' + 1 := ⟨f1 - 1, by omega⟩
    obtain ⟨f2, rfl⟩ : ∃ f', f2 = f' + 1 := ⟨f2 - 1, by omega⟩
    have R0 := R
    obtain ⟨T, hp, RT, X, ⟨hc, hg⟩, ⟨hc5, hg18⟩, hs, cs, gs⟩ := R
    obtain ⟨T0, hn, t20, tz, T1⟩ := RT
    rw [fn117_6, fn317_0, if_pos (tz hb), if_pos hc, s_find T hp hn, Option.bind_some, hb, if_neg (show ¬ n < n by omega)]
    dsimp only
    rw [if_pos rfl]
    split
    · exact ⟨_, _, _, rfl, rfl, Or.inl ⟨rfl, p, s, R0, W⟩⟩
    · have nn : s_b B n n = n := s_run_no (fun h9 => by omega)
      refine ⟨_, _, _, rfl, rfl, Or.inl ⟨rfl, n, s, ⟨s_ct_3 T (by omega), q_ud_s _ _ _ _, ⟨T0, Nat.le_refl _, by rw [nn, ← hb]; exact t20, fun _ => tz hb, fun h9 => by rw [nn] at h9; omega⟩, s_X_k X ?_ ?_ ?_ rfl, ⟨?_, hg⟩, ⟨?_, hg18⟩, hs, ?_, gs⟩, W⟩⟩
      · funext j; rw [q_ud_n (by omega)]
      · funext j; rw [q_ud_n (by omega)]
      · rw [q_ud_n (by omega)]
      · rw [q_ud_n (by omega)]; exact hc
      · rw [q_ud_n (by omega)]; exact hc5
      · rw [q_ud_n (by omega)]; exact cs
  intro d
  induction d with
  | zero =>
    intro f1 f2 u p s c g hd h1 h2 hu R W
    have hn := R.2.2.1.2.1
    have ble := s_run_le (P := s_pb) (B := B) 600 p hn
    have bge := s_run_ge (P := s_pb) (B := B) (n := n) 600 p
    have eb : s_b B n p = s_run s_pb B n 600 p := rfl
    exact stop f1 f2 u p s c g (by omega) (by omega) (by omega) R W
  | succ d ih =>
    intro f1 f2 u p s c g hd h1 h2 hu R W
    have hn := R.2.2.1.2.1
    have ble := s_run_le (P := s_pb) (B := B) 600 p hn
    have bge := s_run_ge (P := s_pb) (B := B) (n := n) 600 p
    have eb : s_b B n p = s_run s_pb B n 600 p := rfl
    rw [← eb] at ble bge
    by_cases hb : s_b B n p = n
    · exact stop f1 f2 u p s c g (by omega) (by omega) hb R W
    · obtain ⟨f1, rfl⟩ : ∃ f', f1 = f' + 1 := ⟨f1 - 1, by omega⟩
      obtain ⟨f2, rfl⟩ : ∃ f', f2 = f' + 1 := ⟨f2 - 1, by omega⟩
      have t2 := R.1.2.1
      have nt : ¬ g 139 22 = 0 := by
        obtain ⟨w, dd, o⟩ := R.2.2.1.2.2.2.2 (by omega)
        cases e : s_pl (B (s_b B n p)) with
        | true => rw [(w e).1]; decide
        | false =>
          cases e2 : s_pd (B (s_b B n p)) with
          | true => rw [(dd e e2).1]; decide
          | false =>
            by_cases e9 : B (s_b B n p) = 59
            · rw [(o e e2).1 e9]; decide
            · rw [(o e e2).2.1 e9]; decide
      rw [fn117_6, if_neg (by omega), if_pos R.2.2.2.2.1.1, s_find R.1 R.2.1 hn, Option.bind_some, if_pos (show s_b B n p < n by omega), fn317_0, if_neg nt]
      dsimp only
      rw [if_neg (show ¬ (1 : Int) = 0 by decide), q_w32_id (by omega) (by omega), show (u : Int) + 1 = ((u + 1 : Nat) : Int) by omega]
      rcases s_stat R W (by omega) with ⟨c1, g1, p1, s1, a1, a2, a3, R1, W1⟩ | ⟨c1, g1, a1, a2, E⟩
      · obtain ⟨c2, b1, b2⟩ := s_semi R1
        rw [a1, b1, Option.bind_some, a2, Option.bind_some]
        dsimp only
        rw [if_neg (show ¬ (1 : Int) = 0 by decide)]
        rcases b2 with ⟨k3, g2, p2, d1, d2, R2, e140⟩ | ⟨k3, g2, d1, E⟩
        · rw [if_pos k3, d1, Option.bind_some]
          exact ih f1 f2 (u + 1) p2 s1 c2 g2 (by omega) (by omega) (by omega) (by omega) R2 ⟨by rw [e140]; exact W1.1, by rw [e140]; exact W1.2⟩
        · rw [if_neg k3, d1, Option.bind_some]
          obtain ⟨f1, rfl⟩ : ∃ f', f1 = f' + 1 := ⟨f1 - 1, by omega⟩
          have E0 := E
          obtain ⟨k, k0, k1, -⟩ := E
          rw [fn117_6]
          refine ⟨c2, g2, 0, ?_, rfl, Or.inr ⟨rfl, E0⟩⟩
          split
          · rfl
          · rw [if_neg (by rw [k1]; exact k0)]
      · rw [a1, Option.bind_some, a2, Option.bind_some]
        dsimp only
        rw [if_pos rfl]
        obtain ⟨f1, rfl⟩ : ∃ f', f1 = f' + 1 := ⟨f1 - 1, by omega⟩
        have E0 := E
        obtain ⟨k, k0, k1, -⟩ := E
        rw [fn117_6]
        refine ⟨c1, g1, 0, ?_, rfl, Or.inr ⟨rfl, E0⟩⟩
        split
        · rfl
        · rw [if_neg (by rw [k1]; exact k0)]
