/-! Part 66: the class's plan beside the model's: distances, leads, cruises, gains. -/
theorem c_ent {o N : Nat} {z : Int} {h : q_F} (h0 : 0 ≤ z) (h1 : z < N) : fn175 o N z h = some (h o z.toNat) := by
  rw [fn175, if_neg (by omega), if_neg (by omega), if_pos ⟨h0, h1⟩]
theorem c_ent_t (o N : Nat) (z : Int) (h : q_F) : ∃ r, fn175 o N z h = some r := by
  unfold fn175; (repeat' split) <;> first | exact ⟨_, rfl⟩ | (exfalso; omega)
theorem c_put {o N : Nat} {z v : Int} {h : q_F} (h0 : 0 ≤ z) (h1 : z < N) : fn174 o N z v h = some (0, q_ud h o z.toNat v) := by
  rw [fn174, if_neg (by omega), if_neg (by omega), if_pos ⟨h0, h1⟩, m_let]
theorem c_quo {a b : Int} {h : q_F} (hb : b ≠ 0) : fn201 a b h = some (q_idv a b) := by
  rw [fn201, if_neg hb, if_pos hb]
theorem c_abs {z : Int} (h0 : -2147483648 < z) (h1 : z < 2147483648) : qx_ab z = m_abs z := by
  unfold qx_ab m_abs; split
  · rfl
  · rw [q_w32_id (by omega) (by omega)]
/-- a table and a row of targets, as the row p says -/
def c_src (h : q_F) (t g : Nat) (p : Nat → Int) : Prop := (∀ a, a < 3 → h (t + 1 + 2 * a) 12 = p (47 + a) ∧ h (t + 1 + 2 * a) 8 = p (44 + a) ∧ h (t + 1 + 2 * a) 2 = p (14 + a) ∧ h (t + 1 + 2 * a) 3 = p (17 + a) ∧ h (t + 1 + 2 * a) 1 = p (11 + a)) ∧ h t 5 = p 1 ∧ h g 1 = p 4 ∧ ∀ j, j < 3 * (p 4).toNat → h (g + 1) j = p (74 + j)
theorem c_src_tb {h : q_F} {t : Nat} {w : Nat → Int} (hc : c_tb h t w) : c_src h t (t + 7) w :=
  ⟨fun a ha => ⟨(hc.1 a ha).1 12 (by omega), (hc.1 a ha).1 8 (by omega), (hc.1 a ha).1 2 (by omega), (hc.1 a ha).1 3 (by omega), (hc.1 a ha).1 1 (by omega)⟩, hc.2.1.2.1, hc.2.2.1, hc.2.2.2⟩
/-- only the plan's cells have changed -/
def c_fp (h h' : q_F) : Prop := ∀ k, k < 125 ∨ 134 < k → h' k = h k
theorem c_fp_r {h : q_F} : c_fp h h := fun _ _ => rfl
theorem c_fp_t {h h1 h2 : q_F} (f : c_fp h h1) (g : c_fp h1 h2) : c_fp h h2 := fun k hk => (g k hk).trans (f k hk)
theorem c_fp_u {k j : Nat} {v : Int} {h h' : q_F} (f : c_fp h h') (hk : 125 ≤ k ∧ k ≤ 134) : c_fp h (q_ud h' k j v) := fun i hi => by
  funext j'; rw [q_ud_n (by omega), f i hi]
theorem c_src_fp {h h' : q_F} {t g : Nat} {p : Nat → Int} (hs : c_src h t g p) (ht : t + 6 < 125) (hg : g + 1 < 125 ∨ 134 < g) (f : c_fp h h') : c_src h' t g p := by
  obtain ⟨h1, h2, h3, h4⟩ := hs
  refine ⟨fun a ha => ?_, ?_, ?_, fun j hj => ?_⟩
  · rw [f _ (by omega)]; exact h1 a ha
  · rw [f _ (by omega)]; exact h2
  · rw [f _ (by omega)]; exact h3
  · rw [f _ (by omega)]; exact h4 j hj
theorem c_get {h : q_F} {t g m a : Nat} {p : Nat → Int} (hs : c_src h t g p) (h4 : (p 4) ≤ 16) (hm : (m : Int) < p 4) (ha : a < 3) : fn148 g m a h = some (m_beg p (m + 1) a) := by
  rw [fn148, q_w32_id (z := (m : Int) * 3) (by omega) (by omega), q_w32_id (z := (m : Int) * 3 + a) (by omega) (by omega), c_ent (by omega) (by omega), Option.bind_some, show ((m : Int) * 3 + a).toNat = 3 * m + a by omega, hs.2.2.2 _ (by omega)]
  unfold m_beg
  rw [if_neg (by omega)]
  congr 2; omega
/-- the direction of an axis ahead of a move -/
noncomputable def m_dir (p : Nat → Int) (a : Nat) : Nat → Int
  | 0 => p (44 + a)
  | m + 1 => if m_d p m a = 0 then m_dir p a m else m_sg (m_d p m a)
noncomputable def m_tn (p : Nat → Int) (m a : Nat) : Int := if m_dir p a (m + 1) = m_dir p a m then 0 else 1
theorem c_dirOf {v l : Int} {h : q_F} : fn72 v l h = some (if v = 0 then l else m_sg v) := by
  unfold fn72 m_sg
  by_cases e : v = 0
  · rw [if_pos e, if_pos e]
  · rw [if_neg e, if_neg e]
    split
    · rw [if_neg (by omega)]
    · rfl
/-- what the measuring of an axis leaves -/
def c_me (h : q_F) (p : Nat → Int) (a n : Nat) : Prop := ∀ m, m < n → h 126 (3 * m + a) = m_beg p m a ∧ h 127 (3 * m + a) = m_d p m a ∧ h 128 (3 * m + a) = m_tn p m a
/-- only the three rows' places of the axis a have changed -/
def c_fm (a : Nat) (h h' : q_F) : Prop := ∀ k j, (k < 126 ∨ 128 < k ∨ j % 3 ≠ a) → h' k j = h k j
theorem c_fm_fp {a : Nat} {h h' : q_F} (f : c_fm a h h') : c_fp h h' := fun k hk => by funext j; exact f k j (by omega)
theorem c_meas {t g a : Nat} {p : Nat → Int} (hg : g + 1 < 125 ∨ 134 < g) (ht : t + 6 < 125) (ok : m_ok p) (ha : a < 3) (o : Nat) : ∀ (d m f : Nat) (h : q_F), m + d = (p 4).toNat → d < f → c_src h t g p → h 125 9 = p 4 → c_me h p a m → ∃ h', fn85_15 o g f a (m_beg p m a) (m_dir p a m) m h = some (0, h') ∧ c_me h' p a (p 4).toNat ∧ c_fm a h h' := by
  have h16 := ok.2.1
  intro d
  induction d with
  | zero =>
    intro m f h hm hf hs hn hme
    obtain ⟨f, rfl⟩ : ∃ f', f = f' + 1 := ⟨f - 1, by omega⟩
    rw [fn85_15, if_pos (by omega)]
    exact ⟨h, rfl, by rw [show (p 4).toNat = m by omega]; exact hme, fun _ _ _ => rfl⟩
  | succ d ih =>
    intro m f h hm hf hs hn hme
    obtain ⟨f, rfl⟩ : ∃ f', f = f' + 1 := ⟨f - 1, by omega⟩
    have hd := m_d_r ok (m := m) (by omega) ha
    have ed : q_w32 (m_beg p (m + 1) a - m_beg p m a) = m_d p m a := q_w32_id (by unfold m_d at hd; omega) (by unfold m_d at hd; omega)
    have ei : q_w32 (q_w32 ((m : Int) * 3) + a) = (m : Int) * 3 + a := by rw [q_w32_id (z := (m : Int) * 3) (by omega) (by omega), q_w32_id (by omega) (by omega)]
    have et : ((m : Int) * 3 + a).toNat = 3 * m + a := by omega
    rw [fn85_15, if_neg (by omega), c_get hs (by omega) (by omega) ha, Option.bind_some, ed, c_dirOf, Option.bind_some, ei, c_put (by omega) (by omega), Option.bind_some, et]
    dsimp only
    rw [c_put (by omega) (by omega), Option.bind_some, et]
    dsimp only
    have en : (if m_d p m a = 0 then m_dir p a m else m_sg (m_d p m a)) = m_dir p a (m + 1) := rfl
    rw [en]
    have key : ∀ v, v = m_tn p m a → ∃ h', fn85_93 o g (fn85_15 o g f) a m (m_dir p a (m + 1)) v ((m : Int) * 3 + a) (q_ud (q_ud h 126 (3 * m + a) (m_beg p m a)) 127 (3 * m + a) (m_d p m a)) = some (0, h') ∧ c_me h' p a (p 4).toNat ∧ c_fm a h h' := by
      intro v hv
      have fm : c_fm a h (q_ud (q_ud (q_ud h 126 (3 * m + a) (m_beg p m a)) 127 (3 * m + a) (m_d p m a)) 128 (3 * m + a) v) := fun k j hk => by
        rw [q_ud_n (by omega), q_ud_n (by omega), q_ud_n (by omega)]
      have hs' := c_src_fp hs ht hg (c_fm_fp fm)
      rw [fn85_93, c_put (by omega) (by omega), Option.bind_some, et]
      dsimp only
      rw [c_get hs' (by omega) (by omega) ha, Option.bind_some, q_w32_id (z := (m : Int) + 1) (by omega) (by omega), ← m_s1]
      obtain ⟨h', g1, g2, g3⟩ := ih (m + 1) f _ (by omega) (by omega) hs' (by rw [fm 125 9 (by omega)]; exact hn) (fun j hj => by
        by_cases e : j = m
        · subst e
          refine ⟨?_, ?_, ?_⟩
          · rw [q_ud_n (by omega), q_ud_n (by omega), q_ud_s]
          · rw [q_ud_n (by omega), q_ud_s]
          · rw [q_ud_s, hv]
        · obtain ⟨x1, x2, x3⟩ := hme j (by omega)
          refine ⟨?_, ?_, ?_⟩
          · rw [q_ud_n (by omega), q_ud_n (by omega), q_ud_n (by omega)]; exact x1
          · rw [q_ud_n (by omega), q_ud_n (by omega), q_ud_n (by omega)]; exact x2
          · rw [q_ud_n (by omega), q_ud_n (by omega), q_ud_n (by omega)]; exact x3)
      exact ⟨h', g1, g2, fun k j hk => (g3 k j hk).trans (fm k j hk)⟩
    unfold m_tn at key
    split
    · rename_i e; exact key _ (by rw [if_pos e])
    · rename_i e; exact key _ (by rw [if_neg e])
