/-! Part 79: jogging, running, undoing, saving on both sides. -/
noncomputable def m_jl (a : Nat) (d t : Int) : Nat → (Nat → Int) → Nat → Int
  | 0, w => w
  | n + 1, w => m_jl a d t n (m_u (m_step a d w).2 5 (q_w64 ((m_step a d w).2 5 + t)))
noncomputable def m_jog (a : Nat) (v : Int) (w : Nat → Int) : Nat → Int := m_u (m_jl a (m_sg v) (q_ldv 1000000 (w 0)) (m_abs v).toNat w) (41 + a) 0
theorem m_jl_fr {a : Nat} (ha : a < 3) (d t : Int) : ∀ (n : Nat) (w : Nat → Int), m_fr w (m_jl a d t n w) := by
  intro n
  induction n with
  | zero => intro w; exact m_fr_r
  | succ n ih => intro w; unfold m_jl; exact m_fr_t (m_fr_u (m_step_fr ha d w) (by unfold m_dy; omega)) (ih _)
theorem m_jl_a3 {a : Nat} {d t : Int} (ha : a < 3) (hd : d = 1 ∨ d = -1) : ∀ (n : Nat) (w : Nat → Int), m_a3 w → m_a3 (m_jl a d t n w) := by
  intro n
  induction n with
  | zero => intro w h; exact h
  | succ n ih => intro w h; unfold m_jl; exact ih _ (m_a3_u (m_step_a3 ha h hd) (by omega))
theorem m_jl_fy {a : Nat} {d t : Int} (ha : a < 3) : ∀ (n : Nat) (w : Nat → Int), ∀ j, j ≠ 5 → (j % 3 ≠ (2 + a) % 3 ∨ j < 26 ∨ 61 < j) → m_jl a d t n w j = w j := by
  intro n
  induction n with
  | zero => intro w j _ _; rfl
  | succ n ih =>
    intro w j h5 hj
    unfold m_jl
    rw [ih _ j h5 hj, m_u_n h5]; exact m_step_fx d w ha j hj
theorem m_jl_5 {a : Nat} {d t : Int} (ha : a < 3) : ∀ (n : Nat) (w : Nat → Int), q_r64 (w 5) → m_jl a d t n w 5 = q_w64 (w 5 + n * t) := by
  intro n
  induction n with
  | zero => intro w hr; unfold m_jl; rw [q_w64_r]; simp; simp; exact hr
  | succ n ih =>
    intro w hr
    unfold m_jl
    rw [ih _ (by rw [m_u_s]; exact q_wr64 _), m_u_s, m_step_5 a d w ha]
    have e : ((n + 1 : Nat) : Int) * t = (n : Int) * t + t := by rw [m_s1, Int.add_mul, Int.one_mul]
    rw [e]
    obtain ⟨h1, h2, k, h3⟩ := q_w64_s (w 5 + t)
    obtain ⟨a1, a2, k2, a3⟩ := q_w64_s (q_w64 (w 5 + t) + (n : Int) * t)
    obtain ⟨b1, b2, k3, b3⟩ := q_w64_s (w 5 + ((n : Int) * t + t))
    omega
theorem c_jl {o a : Nat} {d t v M : Int} (ha : a < 3) (hd : d = 1 ∨ d = -1) (hv : m_sg v = d) (hM : M ≤ 100) (T : Nat) : ∀ (n : Nat) (k : Int) (f : Nat) (h : q_F) (w : Nat → Int), 0 ≤ k → k + n = M → n < f → c_ax h o w a → m_ai w a →
    ∃ h', fn134_15 T o f v M k h = fn134_15 T o (f - n) v M M h' ∧ c_ax h' o (m_jl a d t n w) a ∧ c_fo o h h' := by
  intro n
  induction n with
  | zero =>
    intro k f h w hk hn hf hc hi
    exact ⟨h, by rw [show k = M by omega]; rfl, hc, c_fo_r⟩
  | succ n ih =>
    intro k f h w hk hn hf hc hi
    obtain ⟨f, rfl⟩ : ∃ f', f = f' + 1 := ⟨f - 1, by omega⟩
    obtain ⟨h1, g1, g2, g3⟩ := c_step (d := d) ha hc hi hd
    have g4 := m_step_ai (d := d) hi hd
    obtain ⟨h', k1, k2, k3⟩ := ih (k + 1) f h1 (m_u (m_step a d w).2 5 (q_w64 ((m_step a d w).2 5 + t))) (by omega) (by omega) (by omega) (c_un (by omega) ha g2) (m_ai_u g4 ha (by omega))
    refine ⟨h', ?_, k2, c_fo_t g3 k3⟩
    rw [show f + 1 - (n + 1) = f - n by omega, ← k1, fn134_15, if_neg (by omega), fn134_32, fn134_32]
    have : (if v ≤ 0 then (fn49 o (-1) h).bind fun x7 => fn134_15 T o f v M (q_w32 (k + 1)) x7.2 else (fn49 o 1 h).bind fun x7 => fn134_15 T o f v M (q_w32 (k + 1)) x7.2) = (fn49 o d h).bind fun x7 => fn134_15 T o f v M (q_w32 (k + 1)) x7.2 := by
      subst hv
      unfold m_sg at hd ⊢
      by_cases c1 : v ≤ 0
      · rw [if_pos c1, if_pos c1]
        by_cases c2 : 0 ≤ v
        · rw [if_pos c1, if_pos c2] at hd; omega
        · rw [if_neg c2]
      · rw [if_neg c1, if_neg c1]
    rw [this, g1, Option.bind_some, q_w32_id (by omega) (by omega)]
theorem c_jogA {h : q_F} {t a : Nat} {v : Int} {w : Nat → Int} (ha : a < 3) (hv : -100 ≤ v ∧ v ≤ 100 ∧ v ≠ 0) (hc : c_tb h t w) (ok : m_ok w) (hi : m_a3 w) (h5 : q_r64 (w 5)) :
    ∃ h', fn134 t a v h = some (0, h') ∧ c_tb h' t (m_jog a v w) ∧ c_ft t h h' := by
  have hd : m_sg v = 1 ∨ m_sg v = -1 := m_sg_r (by unfold m_sg; (repeat' split) <;> omega)
  have ab : m_abs v = ((m_abs v).toNat : Int) ∧ 0 ≤ m_abs v ∧ m_abs v ≤ 100 := by unfold m_abs; split <;> omega
  obtain ⟨h1, g1, g2, g3⟩ := c_jl (t := q_ldv 1000000 (w 0)) (M := m_abs v) ha hd rfl ab.2.2 t (m_abs v).toNat 0 q_fu h w (by omega) (by omega) (by have := q_fu_ge; omega) (hc.1 a ha) (m_a3_i hi ha)
  have f5 := m_jl_5 (d := m_sg v) (t := q_ldv 1000000 (w 0)) ha (m_abs v).toNat w h5
  have fy := m_jl_fy (d := m_sg v) (t := q_ldv 1000000 (w 0)) ha (m_abs v).toNat w
  have tb1 : c_tb h1 t (m_u (m_jl a (m_sg v) (q_ldv 1000000 (w 0)) (m_abs v).toNat w) 5 (w 5)) := by
    refine c_tb_ax ha hc g3 (c_un (by omega) ha g2) (fun j hj => ?_)
    by_cases e : j = 5
    · subst e; rw [m_u_s]
    · rw [m_u_n e]; exact fy j e (by omega)
  unfold m_jog
  generalize m_jl a (m_sg v) (q_ldv 1000000 (w 0)) (m_abs v).toNat w = r at g2 f5 fy tb1 ⊢
  have s1 := c_slow tb1 (by rw [m_u_n (by omega), fy 0 (by omega) (by omega)]; exact ok.1)
  rw [m_u_n (show 0 ≠ 5 by omega), fy 0 (by omega) (by omega)] at s1
  have et : h1 t 8 = w 5 := by have := tb1.2.1.2.2.2.2.1; rw [m_u_s] at this; exact this
  have g5 := c_tb_u (j := 8) (v := r 5) (by omega) tb1
  rw [show c_h 8 = 5 from rfl, m_u_u, m_u_id] at g5
  have g6 := c_tb_f (j := 11) (v := 0) ha (by omega) g5
  obtain ⟨f, ef⟩ : ∃ f, q_fu - (m_abs v).toNat = f + 1 := ⟨q_fu - (m_abs v).toNat - 1, by have := q_fu_ge; omega⟩
  refine ⟨_, ?_, g6, c_ft_t (c_ft_o g3 (by omega) (by omega)) (c_ft_u (c_ft_u c_ft_r (by omega) (by omega)) (by omega) (by omega))⟩
  have em : q_w64 (m_abs v * q_ldv 1000000 (w 0)) = (m_abs v).toNat * q_ldv 1000000 (w 0) := by
    have b := m_mulr (x := m_abs v) (l := q_ldv 1000000 (w 0)) (a := 100) (b := 1000000) (by omega) (by omega) s1.2.1 s1.2.2
    rw [q_w64_id (by omega) (by omega), ← ab.1]
  rw [fn134, c_abs (by omega) (by omega), q_axn_e ha, g1, ef, fn134_15, if_pos (by omega), s1.1, Option.bind_some, m_let, m_let, et, em, ← f5]
noncomputable def m_oJog (a v : Int) (S : m_St) : m_St := if 0 ≤ a ∧ a ≤ 2 then (if -100 ≤ v ∧ v ≤ 100 ∧ v ≠ 0 then (if S.w 4 = 0 then m_set (m_rem S) (m_jog a.toNat v S.w) else S) else S) else S
theorem m_RI_jog {w : Nat → Int} {a : Nat} {v : Int} (h : m_R0 w) (ha : a < 3) (h4 : w 4 = 0) (hv : v ≠ 0) : m_RI (m_jog a v w) := by
  have hd : m_sg v = 1 ∨ m_sg v = -1 := m_sg_r (by unfold m_sg; (repeat' split) <;> omega)
  refine ⟨m_R0_v (m_R0_fr h (m_jl_fr ha _ _ _ _) (m_jl_a3 ha hd _ _ h.2)) (m_pv_41 (by omega) (Or.inl rfl)) (by omega), m_nn_0 ?_⟩
  unfold m_jog
  rw [m_u_n (by omega), m_jl_fr ha _ _ _ _ 4 (by unfold m_dy; omega)]; exact h4
theorem m_I_jog {S : m_St} {a v : Int} (h : m_I S) : m_I (m_oJog a v S) := by
  unfold m_oJog; split
  · split
    · split
      · rename_i c1 c2 c3
        exact m_I_set (m_I_rem h) (m_RI_jog h.1.1 (by omega) c3 c2.2.2)
      · exact h
    · exact h
  · exact h
theorem c_jogC {h : q_F} {S : m_St} {a v : Int} (hI : c_I h S) (hm : m_I S) (h5 : q_r64 (S.w 5)) : c_E (fn184 a v h) h (m_oJog a v S) (fun k => k = 1 ∨ k = 2 ∨ k = 3 ∨ k = 4) := by
  unfold m_oJog fn184
  rw [c_axis, Option.bind_some]
  by_cases ca : 0 ≤ a ∧ a ≤ 2
  · rw [if_pos ca, if_pos ca]
    dsimp only
    rw [if_pos rfl, fn184_21]
    by_cases cv : -100 ≤ v ∧ v ≤ 100 ∧ v ≠ 0
    · rw [if_pos cv, if_neg (show ¬ v < -100 by omega), if_neg (show ¬ 100 < v by omega), if_neg cv.2.2, c_qEmpty hI hm, Option.bind_some]
      by_cases c4 : S.w 4 = 0
      · rw [if_pos c4, if_pos c4]
        dsimp only
        rw [if_pos rfl]
        obtain ⟨n, hn, rfl⟩ := m_ax_n ca
        obtain ⟨h1, a1, a2, a3⟩ := c_remember hI hm
        obtain ⟨h2, b1, b2, b3⟩ := c_jogA hn cv a2.1 (m_R0_ok hm.1.1) hm.1.1.2 h5
        rw [a1, Option.bind_some, b1, Option.bind_some]
        exact ⟨1, _, h2, rfl, Or.inl rfl, c_I_set a2 b3 b2, c_F_t (c_F_rem a3) (c_F_ft b3)⟩
      · rw [if_neg c4, if_neg c4]
        exact ⟨4, 0, h, rfl, Or.inr (Or.inr (Or.inr rfl)), hI, c_F_r⟩
    · rw [if_neg cv]
      refine ⟨2, 0, h, ?_, Or.inr (Or.inl rfl), hI, c_F_r⟩
      (repeat' split) <;> first | rfl | omega
  · rw [if_neg ca, if_neg ca]
    exact ⟨3, 0, h, rfl, Or.inr (Or.inr (Or.inl rfl)), hI, c_F_r⟩
theorem r_jl {a : Nat} {v : Int} (ha : a < 3) : ∀ (n f : Nat) (l : Int) (h : q_F), 0 ≤ l → l + n ≤ 100 → n < f → h 140 0 ≠ 0 → ∃ x, fn274_77 f a v l n h = some (x, m_sr h 140 (m_u (m_jl a (m_sg v) (q_ldv 1000000 (h 140 0)) n (h 140)) (41 + a) 0)) := by
  intro n
  induction n with
  | zero =>
    intro f l h hl hn hf h0
    obtain ⟨f, rfl⟩ : ∃ f', f = f' + 1 := ⟨f - 1, by omega⟩
    refine ⟨q_w32 (m_u (h 140) (41 + a) 0 (26 + a)), ?_⟩
    rw [fn274_77, if_pos (by omega), if_pos hl, fn274_146, q_w32_id (z := 41 + (a : Int)) (by omega) (by omega), if_pos (by omega), m_let, q_w32_id (z := 26 + (a : Int)) (by omega) (by omega), m_ud_sr, show (41 + (a : Int)).toNat = 41 + a by omega, fn303_i (by omega) (by omega), Option.bind_some, m_sr_s, show (26 + (a : Int)).toNat = 26 + a by omega]
    rfl
  | succ n ih =>
    intro f l h hl hn hf h0
    obtain ⟨f, rfl⟩ : ∃ f', f = f' + 1 := ⟨f - 1, by omega⟩
    rw [fn274_77, if_neg (by omega), fn333_m, Option.bind_some, fn340_m ha, Option.bind_some]
    dsimp only
    have e0 : (m_step a (m_sg v) (h 140)).2 0 = h 140 0 := m_step_fr ha _ _ 0 (by unfold m_dy; omega)
    have key : ∀ p, 0 ≤ p → p ≤ 1 → ∃ x, fn274_100 (fn274_77 f) a v ((n + 1 : Nat) : Int) p l (m_sr h 140 (m_step a (m_sg v) (h 140)).2) = some (x, m_sr h 140 (m_u (m_jl a (m_sg v) (q_ldv 1000000 (h 140 0)) (n + 1) (h 140)) (41 + a) 0)) := fun p p0 p1 => by
      obtain ⟨x, g⟩ := ih f (l + p) (m_sr h 140 (m_u (m_step a (m_sg v) (h 140)).2 5 (q_w64 ((m_step a (m_sg v) (h 140)).2 5 + q_ldv 1000000 (h 140 0))))) (by omega) (by omega) (by omega) (by rw [m_sr_s, m_u_n (by omega), e0]; exact h0)
      rw [m_sr_s, m_sr_sr, m_u_n (show 0 ≠ 5 by omega), e0] at g
      refine ⟨x, ?_⟩
      rw [fn274_100, fn335_m (by rw [m_sr_s, e0]; exact h0), Option.bind_some, m_let, m_ud_sr, m_sr_s, m_sr_sr, e0, q_w32_id (z := l + p) (by omega) (by omega), q_w32_id (by omega) (by omega), show ((n + 1 : Nat) : Int) + -1 = n by omega, g]
      rfl
    split
    · exact key 0 (by omega) (by omega)
    · exact key 1 (by omega) (by omega)
theorem r_jogC {h : q_F} {S : m_St} {a v : Int} (hI : r_I h S) (hm : m_I S) : r_W (fn274 a v h) h (m_oJog a v S) := by
  obtain ⟨h0, t1, t2⟩ := r_noAxis a h
  have hI0 := r_I_T hI t2
  unfold m_oJog fn274
  rw [t1, Option.bind_some]
  by_cases ca : 0 ≤ a ∧ a ≤ 2
  · rw [if_pos ca, if_pos ca]
    dsimp only
    rw [if_pos rfl, r_rng, Option.bind_some, fn274_27]
    by_cases cv : -100 ≤ v ∧ v ≤ 100 ∧ v ≠ 0
    · rw [if_pos (show -100 ≤ v ∧ v ≤ 100 by omega), if_neg (show ¬ (1 : Int) = 0 by decide), if_neg cv.2.2, if_pos cv, fn274_32]
      obtain ⟨h8, s1, s2⟩ := r_fails 0 2 h0
      have hI8 := r_I_T hI0 s2
      rw [s1, Option.bind_some, if_pos rfl]
      dsimp only
      have e84 : h8 140 4 = S.w 4 := by rw [hI8.1]
      by_cases c4 : S.w 4 = 0
      · rw [if_pos (e84.trans c4), if_pos c4, fn274_56]
        obtain ⟨h9, u1, u2⟩ := r_fails 0 3 h8
        have hT := r_T_t (r_T_t t2 s2) u2
        obtain ⟨n, hn, rfl⟩ := m_ax_n ca
        obtain ⟨h1, a1, a2, a3, a4⟩ := r_remember (r_I_T hI hT) hm.2.1.1
        have F := r_F_t (r_T_F hT) (r_F_rem a3 a4)
        have ew : h1 140 = S.w := a2.1
        have ab : m_abs v = ((m_abs v).toNat : Int) ∧ 0 ≤ m_abs v ∧ m_abs v ≤ 100 := by unfold m_abs; split <;> omega
        have ok := (m_R0_ok hm.1.1).1
        obtain ⟨x, g⟩ := r_jl (v := v) hn (m_abs v).toNat q_fu 0 h1 (by omega) (by omega) (by have := q_fu_ge; omega) (by rw [ew]; omega)
        rw [ew, ← ab.1] at g
        rw [u1, Option.bind_some, if_pos rfl, a1, Option.bind_some, fn236_i (by omega) (by omega), Option.bind_some]
        exact ⟨x, _, g, r_I_set a2, r_F_t F (r_F_sr (by omega))⟩
      · rw [if_neg (show ¬ h8 140 4 = 0 from fun h9 => c4 (e84.symm.trans h9)), if_neg c4, fn274_56]
        obtain ⟨h9, u1, u2⟩ := r_fails 1 3 h8
        have hT := r_T_t (r_T_t t2 s2) u2
        rw [u1, Option.bind_some, if_neg (show ¬ (1 : Int) = 0 by decide)]
        exact ⟨_, _, rfl, r_I_T hI hT, r_T_F hT⟩
    · rw [if_neg cv]
      have key : ∃ h', fn274_32 a v 1 h0 = some (0, h') ∧ r_T h h' := by
        rw [fn274_32]
        obtain ⟨h8, s1, s2⟩ := r_fails 1 2 h0
        exact ⟨h8, by rw [s1, Option.bind_some, if_neg (show ¬ (1 : Int) = 0 by decide)], r_T_t t2 s2⟩
      obtain ⟨h', k1, k2⟩ := key
      refine ⟨0, h', ?_, r_I_T hI k2, r_T_F k2⟩
      by_cases c2 : -100 ≤ v ∧ v ≤ 100
      · rw [if_pos c2, if_neg (show ¬ (1 : Int) = 0 by decide), if_pos (by omega)]; exact k1
      · rw [if_neg c2, if_pos rfl]; exact k1
  · rw [if_neg ca, if_neg ca]
    exact ⟨_, _, rfl, hI0, r_T_F t2⟩
