/-! Part 63: the class's tables beside the rows; seeking, homing, jogging. -/
theorem q_axn_e {t a : Nat} (ha : a < 3) : q_axn t (a : Int) = t + 1 + 2 * a := by
  unfold q_axn
  rcases m_c3 ha with rfl | rfl | rfl
  · rw [if_pos (by decide)]
  · rw [if_neg (by decide), if_pos (by decide)]
  · rw [if_neg (by omega), if_neg (by omega)]
def c_tb (h : q_F) (t : Nat) (w : Nat → Int) : Prop := (∀ a, a < 3 → c_ax h (t + 1 + 2 * a) w a) ∧ (h t 4 = w 0 ∧ h t 5 = w 1 ∧ h t 6 = w 2 ∧ h t 7 = w 3 ∧ h t 8 = w 5 ∧ h t 9 = w 6 ∧ h t 10 = w 7) ∧ h (t + 7) 1 = w 4 ∧ ∀ j, j < 3 * (w 4).toNat → h (t + 8) j = w (74 + j)
/-- only places of the axis a have changed -/
def m_fy (a : Nat) (w w' : Nat → Int) : Prop := ∀ j, (j % 3 ≠ (2 + a) % 3 ∨ j < 8 ∨ 74 ≤ j) → w' j = w j
theorem m_fy_x {a : Nat} {w w' : Nat → Int} (h : m_fx a w w') : m_fy a w w' := fun j hj => h j (by omega)
theorem m_fy_r {a : Nat} {w : Nat → Int} : m_fy a w w := fun _ _ => rfl
theorem m_fy_t {a : Nat} {w w1 w2 : Nat → Int} (h1 : m_fy a w w1) (h2 : m_fy a w1 w2) : m_fy a w w2 := fun j hj => (h2 j hj).trans (h1 j hj)
theorem m_fy_u {a j : Nat} {w w1 : Nat → Int} {v : Int} (h : m_fy a w w1) (hj : j % 3 = (2 + a) % 3 ∧ 8 ≤ j ∧ j < 74) : m_fy a w (m_u w1 j v) := fun k hk => by
  rw [m_u_n (by omega)]; exact h k hk
theorem c_ax_fy {h : q_F} {o a b : Nat} {w w' : Nat → Int} (ha : a < 3) (hb : b < 3) (hab : a ≠ b) (hc : c_ax h o w b) (hf : m_fy a w w') : c_ax h o w' b :=
  ⟨fun j hj => by have := c_f_m j hj; rw [hf _ (by omega)]; exact hc.1 j hj, fun j hj => by have := c_g_m j hj; rw [hf _ (by omega)]; exact hc.2 j hj⟩
theorem c_ax_h {h h' : q_F} {o a : Nat} {w : Nat → Int} (hc : c_ax h o w a) (h1 : h' o = h o) (h2 : h' (o + 1) = h (o + 1)) : c_ax h' o w a :=
  ⟨fun j hj => by rw [h1]; exact hc.1 j hj, fun j hj => by rw [h2]; exact hc.2 j hj⟩
theorem c_ax_w {h : q_F} {o a : Nat} {w w' : Nat → Int} (hc : c_ax h o w a) (he : ∀ j, 8 ≤ j → j < 74 → w' j = w j) (ha : a < 3) : c_ax h o w' a :=
  ⟨fun j hj => by have := c_f_m j hj; rw [he _ (by omega) (by omega)]; exact hc.1 j hj, fun j hj => by have := c_g_m j hj; rw [he _ (by omega) (by omega)]; exact hc.2 j hj⟩
/-- an axis of a table has changed -/
theorem c_tb_ax {h h' : q_F} {t a : Nat} {w w' : Nat → Int} (ha : a < 3) (hc : c_tb h t w) (hf : c_fo (t + 1 + 2 * a) h h') (hx : c_ax h' (t + 1 + 2 * a) w' a) (hw : m_fy a w w') : c_tb h' t w' := by
  obtain ⟨h1, ⟨h2, h3, h4, h5, h6, h7, h8⟩, h9, h10⟩ := hc
  refine ⟨fun b hb => ?_, ⟨?_, ?_, ?_, ?_, ?_, ?_, ?_⟩, ?_, fun j hj => ?_⟩
  · by_cases e : a = b
    · subst e; exact hx
    · exact c_ax_h (c_ax_fy ha hb e (h1 b hb) hw) (hf _ (by omega) (by omega)) (hf _ (by omega) (by omega))
  · rw [hf t (by omega) (by omega), hw 0 (by omega)]; exact h2
  · rw [hf t (by omega) (by omega), hw 1 (by omega)]; exact h3
  · rw [hf t (by omega) (by omega), hw 2 (by omega)]; exact h4
  · rw [hf t (by omega) (by omega), hw 3 (by omega)]; exact h5
  · rw [hf t (by omega) (by omega), hw 5 (by omega)]; exact h6
  · rw [hf t (by omega) (by omega), hw 6 (by omega)]; exact h7
  · rw [hf t (by omega) (by omega), hw 7 (by omega)]; exact h8
  · rw [hf (t + 7) (by omega) (by omega), hw 4 (by omega)]; exact h9
  · rw [hw 4 (by omega)] at hj
    rw [hf (t + 8) (by omega) (by omega), hw (74 + j) (by omega)]; exact h10 j hj
/-- only a table's cells have changed -/
def c_ft (t : Nat) (h h' : q_F) : Prop := ∀ k, k < t ∨ t + 8 < k → h' k = h k
theorem c_ft_r {t : Nat} {h : q_F} : c_ft t h h := fun _ _ => rfl
theorem c_ft_t {t : Nat} {h h1 h2 : q_F} (f : c_ft t h h1) (g : c_ft t h1 h2) : c_ft t h h2 := fun k hk => (g k hk).trans (f k hk)
theorem c_ft_o {t o : Nat} {h h' : q_F} (f : c_fo o h h') (h1 : t ≤ o) (h2 : o + 1 ≤ t + 8) : c_ft t h h' := fun k hk => f k (by omega) (by omega)
theorem c_ft_u {t k j : Nat} {v : Int} {h h' : q_F} (f : c_ft t h h') (h1 : t ≤ k) (h2 : k ≤ t + 8) : c_ft t h (q_ud h' k j v) := fun i hi => by
  funext j'; rw [q_ud_n (by omega), f i hi]
/-- fields of the table itself: 4 start, 5 compensation, 6 detection, 7 the alarm, 8 to 10 the times -/
def c_h (j : Nat) : Nat := [0, 0, 0, 0, 0, 1, 2, 3, 5, 6, 7].getD j 0
theorem c_tb_u {h : q_F} {t j : Nat} {w : Nat → Int} {v : Int} (hj : 4 ≤ j ∧ j ≤ 10) (hc : c_tb h t w) : c_tb (q_ud h t j v) t (m_u w (c_h j) v) := by
  obtain ⟨h1, ⟨h2, h3, h4, h5, h6, h7, h8⟩, h9, h10⟩ := hc
  have ax : ∀ i v, i < 8 → (∀ a, a < 3 → c_ax (q_ud h t j v) (t + 1 + 2 * a) (m_u w i v) a) := fun i v hi a ha =>
    c_ax_h (c_ax_w (h1 a ha) (fun k hk _ => m_u_n (by omega)) ha) (by funext k; rw [q_ud_n (by omega)]) (by funext k; rw [q_ud_n (by omega)])
  have e7 : q_ud h t j v (t + 7) 1 = h (t + 7) 1 := q_ud_n (by omega)
  have e8 : ∀ k, q_ud h t j v (t + 8) k = h (t + 8) k := fun k => q_ud_n (by omega)
  obtain rfl | rfl | rfl | rfl | rfl | rfl | rfl : j = 4 ∨ j = 5 ∨ j = 6 ∨ j = 7 ∨ j = 8 ∨ j = 9 ∨ j = 10 := by omega
  all_goals
    refine ⟨ax _ _ (by decide), ?_, ?_, fun k hk => ?_⟩
    · simp [q_ud, m_u, c_h, *]
    · rw [e7]; simp [m_u, c_h, *]
    · rw [m_u_n (show 4 ≠ _ by decide)] at hk
      rw [e8, m_u_n (show 74 + k ≠ _ by simp [c_h] <;> omega)]; exact h10 k hk
theorem c_reads {h : q_F} {o a : Nat} {w : Nat → Int} (hc : c_ax h o w a) (h53 : w (53 + a) = 0 ∨ w (53 + a) = 1) : fn54 o h = some (m_reads a w) := by
  have e9 : h o 9 = w (38 + a) := hc.1 9 (by omega)
  have e10 : h o 10 = w (53 + a) := hc.1 10 (by omega)
  unfold fn54 m_reads
  rw [e9, e10]
  by_cases c0 : w (38 + a) = 0
  · rw [if_pos c0]
    rcases h53 with e | e
    · rw [if_neg (by omega), e]
    · rw [if_pos (Or.inr ⟨c0, e⟩), e]
  · rw [if_neg c0]
    by_cases c2 : w (38 + a) = 2
    · rw [if_pos c2, if_pos (Or.inl c2)]
    · rw [if_neg c2, if_neg (by omega)]
theorem c_seek {o a : Nat} {c d t M : Int} (ha : a < 3) (hd : (c = 1 ∧ d = -1) ∨ (c = 0 ∧ d = 1)) (hM : M ≤ 5000) : ∀ (n : Nat) (k : Int) (f : Nat) (h : q_F) (w : Nat → Int), 0 ≤ k → k + n = M → n < f → c_ax h o w a → m_ai w a →
    ∃ h', fn55_14 o f c M k h = some (k + (m_skl a c d t n w).1, h') ∧ c_ax h' o (m_skl a c d t n w).2 a ∧ c_fo o h h' ∧ m_ai (m_skl a c d t n w).2 a := by
  intro n
  induction n with
  | zero =>
    intro k f h w hk hn hf hc hi
    obtain ⟨f, rfl⟩ : ∃ f', f = f' + 1 := ⟨f - 1, by omega⟩
    refine ⟨h, ?_, hc, c_fo_r, hi⟩
    rw [fn55_14, if_pos (by omega)]
    unfold m_skl; simp
  | succ n ih =>
    intro k f h w hk hn hf hc hi
    obtain ⟨f, rfl⟩ : ∃ f', f = f' + 1 := ⟨f - 1, by omega⟩
    unfold m_skl
    by_cases hr : m_reads a w = c
    · rw [if_pos hr]
      refine ⟨h, ?_, hc, c_fo_r, hi⟩
      rw [fn55_14, if_neg (by omega), c_reads hc hi.2.2.1, Option.bind_some, if_pos hr]
      simp
    · rw [if_neg hr]
      obtain ⟨h1, g1, g2, g3⟩ := c_step (d := d) ha hc hi (by omega)
      have g4 := m_step_ai (d := d) hi (by omega)
      obtain ⟨h', k1, k2, k3, k4⟩ := ih (k + 1) f h1 (m_u (m_step a d w).2 5 (q_w64 ((m_step a d w).2 5 + t))) (by omega) (by omega) (by omega) (c_un (by omega) ha g2) (m_ai_u g4 ha (by omega))
      refine ⟨h', ?_, k2, c_fo_t g3 k3, k4⟩
      rw [fn55_14, if_neg (by omega), c_reads hc hi.2.2.1, Option.bind_some, if_neg hr]
      rcases hd with ⟨rfl, rfl⟩ | ⟨rfl, rfl⟩
      · rw [if_neg (by decide), fn55_37, g1, Option.bind_some]
        dsimp only
        rw [q_w32_id (by omega) (by omega), k1]
        congr 2; omega
      · rw [if_pos rfl, fn55_37, g1, Option.bind_some]
        dsimp only
        rw [q_w32_id (by omega) (by omega), k1]
        congr 2; omega
/-- the time of a search -/
theorem m_step_5 (a : Nat) (d : Int) (w : Nat → Int) (ha : a < 3) : (m_step a d w).2 5 = w 5 := m_step_fx d w ha 5 (by omega)
theorem m_skl_5 {a : Nat} {c d t : Int} (ha : a < 3) : ∀ (n : Nat) (w : Nat → Int), q_r64 (w 5) → (m_skl a c d t n w).2 5 = q_w64 (w 5 + (m_skl a c d t n w).1 * t) := by
  intro n
  induction n with
  | zero => intro w hr; unfold m_skl; simp only; rw [q_w64_r]; simp; simp; exact hr
  | succ n ih =>
    intro w hr
    unfold m_skl
    split
    · simp only; rw [q_w64_r]; simp; simp; exact hr
    · simp only
      rw [ih _ (by rw [m_u_s]; exact q_wr64 _), m_u_s, m_step_5 a d w ha]
      obtain ⟨h1, h2, k, h3⟩ := q_w64_s (w 5 + t)
      generalize (m_skl a c d t n (m_u (m_step a d w).2 5 (q_w64 (w 5 + t)))).1 = N
      have e : ((N + 1 : Nat) : Int) * t = (N : Int) * t + t := by rw [m_s1, Int.add_mul, Int.one_mul]
      rw [e]
      obtain ⟨a1, a2, k2, a3⟩ := q_w64_s (q_w64 (w 5 + t) + (N : Int) * t)
      obtain ⟨b1, b2, k3, b3⟩ := q_w64_s (w 5 + ((N : Int) * t + t))
      omega
