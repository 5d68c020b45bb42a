/-! Part 98b: the reference's loadTable. -/
theorem r_begl : ∀ (d a f : Nat) (h : q_F), a + d = 3 → d < f → r_Q h → r_Y (h 140) → (∀ s : Nat, h 139 23 = (s : Int) → s / 8 % 2 = 1) → r_RS (fn315_16 f 1 a h) h := by
  intro d
  induction d with
  | zero =>
    intro a f h ha hf Q Y hb
    obtain ⟨f, rfl⟩ : ∃ f', f = f' + 1 := ⟨f - 1, by omega⟩
    rw [fn315_16, if_pos (by omega)]
    exact ⟨1, h, rfl, Q, r_L_r, Or.inr ⟨rfl, Y, fun s e z => by have := hb s e; omega⟩⟩
  | succ d ih =>
    intro a f h ha hf Q Y hb
    obtain ⟨f, rfl⟩ : ∃ f', f = f' + 1 := ⟨f - 1, by omega⟩
    have ha3 : a < 3 := by clear hb ih; omega
    rw [fn315_16, if_neg (by clear hb ih; omega), if_neg (by decide), q_w32_id (z := 8 + (a : Int)) (by clear hb ih; omega) (by clear hb ih; omega), if_pos (by clear hb ih; omega), q_w32_id (z := 26 + (a : Int)) (by clear hb ih; omega) (by clear hb ih; omega), show 26 + (a : Int) = ((26 + a : Nat) : Int) by clear hb ih; omega, show (8 + (a : Int)).toNat = 8 + a by clear hb ih; omega]
    obtain ⟨v, h', a1, a2, a3, a4⟩ := r_takes (p := 26 + a) (mn := 0) (mx := h 140 (8 + a)) Q (by clear hb ih; omega)
    have wk : q_w32 ((a : Int) + 1) = ((a + 1 : Nat) : Int) := by clear hb ih; rw [q_w32_id (by omega) (by omega), ← m_s1]
    have hf' : d < f := by clear hb ih; omega
    have hd' : a + 1 + d = 3 := by clear hb ih; omega
    rw [a1, Option.bind_some, wk]
    rcases a4 with rfl | ⟨rfl, e23, x, x1, x2, x3⟩
    · obtain ⟨f, rfl⟩ : ∃ f', f = f' + 1 := ⟨f - 1, by clear hb ih; omega⟩
      dsimp only
      refine r_RS_t a3 ⟨0, h', ?_, a2, r_L_r, Or.inl rfl⟩
      rw [fn315_16, if_pos rfl, ite_self]
    · have Y1 := r_Y_b Y ha3 ⟨x1, x2⟩
      rw [← x3] at Y1
      exact r_RS_t a3 (ih (a + 1) f h' hd' hf' a2 Y1 (fun s e => hb s (e23.symm.trans e)))
theorem r_readBegin {h : q_F} (Q : r_Q h) (hS : r_S h) : r_RS (fn315 h) h := by
  obtain ⟨s, s1, s2⟩ := Q.2.2.2
  obtain ⟨v, h1, a1, a2, a3, a4, a5⟩ := r_once (k := 3) (b := 8) (may := 1) Q (by omega) (m_shl 3 (by omega)).symm
  unfold fn315
  rw [a1, Option.bind_some]
  rcases a5 with rfl | ⟨rfl, may, a5⟩
  · dsimp only; rw [if_pos rfl]; exact r_RS_t a3 (r_RS_0 a2)
  · obtain ⟨t, t1, t2, -⟩ := a5 s s1 s2
    dsimp only
    rw [if_neg (show ¬ (1 : Int) = 0 by decide)]
    exact r_RS_t a3 (r_begl 3 0 q_fu h1 (by omega) (by have := q_fu_ge; omega) a2 (by rw [a4]; exact hS.1) (fun u e => by
      have h2 := t2 rfl
      have h3 : u = t := by omega
      rw [h3]; exact h2))
/-- a flag set, a statement begun -/
theorem r_flag {k j : Nat} {b : Int} {h : q_F} (Q : r_Q h) (hS : r_S h) (hk : k < 7 ∧ k ≠ 3) (hj : j = 1 ∨ j = 2) (hb : b = q_ishl 1 (k : Int)) : r_RS ((fn339 b 1 (q_ud h 140 j 1)).bind fun x => some (x.1, x.2)) h := by
  have Q1 : r_Q (q_ud h 140 j 1) := by
    obtain ⟨q1, q2, q3, s, s1, s2⟩ := Q
    exact ⟨by rw [q_ud_n (by omega)]; exact q1, by rw [q_ud_n (by omega), q_ud_n (by omega), q_ud_n (by omega)]; exact q2, by rw [q_ud_n (by omega), q_ud_n (by omega), q_ud_n (by omega)]; exact q3, s, s1, by rw [q_ud_n (by omega)]; exact s2⟩
  have L1 : r_L h (q_ud h 140 j 1) := ⟨fun k a b => by funext i; rw [q_ud_n (by omega)], fun i hi => by rw [q_ud_n (by omega)], by rw [q_ud_n (by omega)]; exact Int.le_refl _⟩
  have e140 : q_ud h 140 j 1 140 = m_u (h 140) j 1 := by rw [m_ud_sr, m_sr_s]
  obtain ⟨s, s1, s2⟩ := Q.2.2.2
  obtain ⟨v, h1, a1, a2, a3, a4, a5⟩ := r_once (k := k) (may := 1) Q1 hk.1 hb
  rw [a1, Option.bind_some]
  refine ⟨v, h1, rfl, a2, r_L_t L1 a3, ?_⟩
  rcases a5 with h9 | ⟨h9, -, a5⟩
  · exact Or.inl h9
  · obtain ⟨t, t1, -, t3⟩ := a5 s s1 (by rw [q_ud_n (by omega)]; exact s2)
    refine Or.inr ⟨h9, by rw [a4, e140]; exact r_Y_j hS.1 (Or.inr ⟨hj, rfl⟩), fun u e z => ?_⟩
    have : u = t := by omega
    subst this
    have zz := hS.2 s s2 (by have := t3 hk.2; omega)
    rw [a4, e140]
    intro c hc
    rw [m_u_n (by omega)]; exact zz c hc
theorem r_wordl2 {s : Int} {h : q_F} (Q : r_Q h) (hl : h 139 20 + qx_sl s ≤ h 139 19) : ∀ (d k f : Nat), (k : Int) + d = qx_sl s → d < f → ∃ v, fn273_23 s h f k = some v := by
  have sl := q_sl10 s
  obtain ⟨q1, q2, -⟩ := Q
  intro d
  induction d with
  | zero =>
    intro k f hd hf
    obtain ⟨f, rfl⟩ : ∃ f', f = f' + 1 := ⟨f - 1, by omega⟩
    exact ⟨1, by rw [fn273_23, if_pos (by omega)]⟩
  | succ d ih =>
    intro k f hd hf
    obtain ⟨f, rfl⟩ : ∃ f', f = f' + 1 := ⟨f - 1, by omega⟩
    rw [fn273_23, if_neg (by omega), q_w32_id (z := h 139 20 + (k : Int)) (by omega) (by omega), if_pos (by omega), if_pos (by omega)]
    split
    · rw [q_w32_id (by omega) (by omega), ← m_s1]; exact ih (k + 1) f (by omega) (by omega)
    · exact ⟨_, rfl⟩
theorem r_isWord {h : q_F} (s : Int) (Q : r_Q h) : ∃ v, fn273 s h = some v := by
  have sl := q_sl10 s
  have q1 := Q.1
  have q2 := Q.2.1
  unfold fn273
  split
  · rw [fn355, Option.bind_some, q_w32_id (by omega) (by omega)]
    split
    · exact r_wordl2 Q (by omega) (qx_sl s).toNat 0 q_fu (by omega) (by have := q_fu_ge; omega)
    · exact ⟨_, rfl⟩
  · exact ⟨_, rfl⟩
theorem r_statement {h : q_F} (Q : r_Q h) (hS : r_S h) : r_RS (fn316 h) h := by
  obtain ⟨v1, e1⟩ := r_isWord 3 Q
  obtain ⟨v2, e2⟩ := r_isWord 4 Q
  obtain ⟨v3, e3⟩ := r_isWord 5 Q
  obtain ⟨v4, e4⟩ := r_isWord 6 Q
  obtain ⟨v5, e5⟩ := r_isWord 7 Q
  obtain ⟨v6, e6⟩ := r_isWord 8 Q
  obtain ⟨v7, e7⟩ := r_isWord 9 Q
  unfold fn316
  rw [e1, Option.bind_some, e2, Option.bind_some, e3, Option.bind_some, e4, Option.bind_some, e5, Option.bind_some, e6, Option.bind_some, e7, Option.bind_some, m_let, m_let]
  split
  · split
    · split
      · split
        · split
          · split
            · split
              · obtain ⟨h', a, b, c⟩ := r_fail (c := 1) Q
                exact ⟨0, h', by rw [a, Option.bind_some], b, c, Or.inl rfl⟩
              · exact r_flag (k := 6) Q hS (by omega) (Or.inr rfl) (m_shl 6 (by omega)).symm
            · exact r_flag (k := 5) Q hS (by omega) (Or.inl rfl) (m_shl 5 (by omega)).symm
          · obtain ⟨s, s1, s2⟩ := Q.2.2.2
            obtain ⟨v, h1, a1, a2, a3, a4, a5⟩ := r_once (k := 4) (b := 16) (may := 1) Q (by omega) (m_shl 4 (by omega)).symm
            rw [a1, Option.bind_some]
            rcases a5 with rfl | ⟨rfl, may, a5⟩
            · dsimp only; rw [if_pos rfl]; exact r_RS_t a3 (r_RS_0 a2)
            · obtain ⟨t, t1, -, t3⟩ := a5 s s1 s2
              obtain ⟨x, h2, b1, b2, b3, b4⟩ := r_takes (p := 0) (mn := 1) (mx := 1000) a2 (by omega)
              have b1' : fn348 0 1 1000 h1 = some (x, h2) := b1
              dsimp only
              rw [if_neg (show ¬ (1 : Int) = 0 by decide), b1', Option.bind_some]
              rcases b4 with rfl | ⟨rfl, e23, y, y1, y2, y3⟩
              · dsimp only; rw [if_pos rfl]; exact r_RS_t (r_L_t a3 b3) (r_RS_0 b2)
              · dsimp only; rw [if_neg (show ¬ (1 : Int) = 0 by decide)]
                refine ⟨1, h2, rfl, b2, r_L_t a3 b3, Or.inr ⟨rfl, by rw [y3, a4]; exact r_Y_j hS.1 (Or.inl ⟨rfl, y1, y2⟩), fun u e z => ?_⟩⟩
                have : u = t := by omega
                subst this
                have zz := hS.2 s s2 (by have := t3 (by omega); omega)
                rw [y3, a4]
                intro c hc
                rw [m_u_n (by omega)]; exact zz c hc
        · exact r_RS_e (r_readBegin Q hS)
      · exact r_RS_e (r_readAxis (a := 2) (by omega) Q hS)
    · exact r_RS_e (r_readAxis (a := 1) (by omega) Q hS)
  · exact r_RS_e (r_readAxis (a := 0) (by omega) Q hS)
theorem r_text : ∀ (d f : Nat) (h : q_F), (h 139 14 - h 139 20).toNat ≤ d → d < f → r_Q h → r_S h → r_RS (fn317_0 f h) h := by
  intro d
  induction d with
  | zero =>
    intro f h hd hf Q hS
    obtain ⟨f, rfl⟩ : ∃ f', f = f' + 1 := ⟨f - 1, by omega⟩
    have q2 := Q.2.1
    rw [fn317_0]
    by_cases c : h 139 22 = 0
    · rw [if_pos c]; exact ⟨1, h, rfl, Q, r_L_r, Or.inr ⟨rfl, hS⟩⟩
    · have := Q.2.2.1 c; omega
  | succ d ih =>
    intro f h hd hf Q hS
    obtain ⟨f, rfl⟩ : ∃ f', f = f' + 1 := ⟨f - 1, by omega⟩
    have q2 := Q.2.1
    rw [fn317_0]
    by_cases c : h 139 22 = 0
    · rw [if_pos c]; exact ⟨1, h, rfl, Q, r_L_r, Or.inr ⟨rfl, hS⟩⟩
    · obtain ⟨v, h1, a1, a2, a3, a4⟩ := r_statement Q hS
      rw [if_neg c, a1, Option.bind_some]
      rcases a4 with rfl | ⟨rfl, S1⟩
      · dsimp only; rw [if_pos rfl]; exact r_RS_t a3 (r_RS_0 a2)
      · dsimp only
        rw [if_neg (show ¬ (1 : Int) = 0 by decide)]
        by_cases c3 : h1 139 22 = 3
        · obtain ⟨h2, b1, b2, b3, b4⟩ := r_adv a2
          have lt := a2.2.2.1 (by omega)
          have L2 := r_N_L a2 b3 b4
          have e14 : h2 139 14 = h 139 14 := (L2.2.1 14 (by omega)).trans (a3.2.1 14 (by omega))
          have mono := a3.2.2
          have e140 : h2 140 = h1 140 := b3.1 140 (by omega)
          have e23 : h2 139 23 = h1 139 23 := b3.2 23 (by omega) (by omega) (by omega) (by omega)
          rw [if_pos c3, b1, Option.bind_some]
          exact r_RS_t (r_L_t a3 L2) (ih f h2 (by rw [e14]; omega) (by omega) b2 ⟨by rw [e140]; exact S1.1, fun s e z => by rw [e140]; exact S1.2 s (e23.symm.trans e) z⟩)
        · obtain ⟨h2, b1, b2, b3⟩ := r_fail (c := 1) a2
          rw [if_neg c3, b1, Option.bind_some]
          exact r_RS_t (r_L_t a3 b3) (r_RS_0 b2)
-- the row cleared
def m_clr (n : Nat) : Nat → Int := fun j => if j = 0 then 100 else if 8 ≤ j ∧ j < 8 + n then 200 else if 14 ≤ j ∧ j < 14 + n then 1000 else if 17 ≤ j ∧ j < 17 + n then 100 else if 20 ≤ j ∧ j < 20 + n then 5 else if 23 ≤ j ∧ j < 23 + n then 2 else if 44 ≤ j ∧ j < 44 + n then 1 else 0
theorem r_clr2 : ∀ (d a f : Nat) (h : q_F), a + d = 3 → d < f → (∀ j, j < 122 → h 140 j = m_clr a j) → ∃ h', fn246_32 f a h = some (0, h') ∧ (∀ k, k ≠ 140 → h' k = h k) ∧ ∀ j, j < 122 → h' 140 j = m_clr 3 j := by
  intro d
  induction d with
  | zero =>
    intro a f h ha hf e
    obtain ⟨f, rfl⟩ : ∃ f', f = f' + 1 := ⟨f - 1, by omega⟩
    obtain rfl : a = 3 := by omega
    exact ⟨h, by rw [fn246_32, if_pos (by omega)], fun _ _ => rfl, e⟩
  | succ d ih =>
    intro a f h ha hf e
    obtain ⟨f, rfl⟩ : ∃ f', f = f' + 1 := ⟨f - 1, by omega⟩
    rw [fn246_32, if_neg (by omega), q_w32_id (z := 8 + (a : Int)) (by omega) (by omega), q_w32_id (z := 14 + (a : Int)) (by omega) (by omega), q_w32_id (z := 17 + (a : Int)) (by omega) (by omega), q_w32_id (z := 20 + (a : Int)) (by omega) (by omega), q_w32_id (z := 23 + (a : Int)) (by omega) (by omega), q_w32_id (z := 44 + (a : Int)) (by omega) (by omega), if_pos (by omega), m_let, if_pos (by omega), m_let, if_pos (by omega), m_let, if_pos (by omega), m_let, if_pos (by omega), m_let, if_pos (by omega), m_let, q_w32_id (z := (a : Int) + 1) (by omega) (by omega), ← m_s1]
    have key : ∀ X : q_F, (∀ k, k ≠ 140 → X k = h k) → (∀ j, j < 122 → X 140 j = m_clr (a + 1) j) → ∃ h', fn246_32 f ((a + 1 : Nat) : Int) X = some (0, h') ∧ (∀ k, k ≠ 140 → h' k = h k) ∧ ∀ j, j < 122 → h' 140 j = m_clr 3 j := fun X hk hX => by
      obtain ⟨h', a1, a2, a3⟩ := ih (a + 1) f X (by omega) (by omega) hX
      exact ⟨h', a1, fun k hk2 => (a2 k hk2).trans (hk k hk2), a3⟩
    refine key _ (fun k hk => ?_) (fun j hj => ?_)
    · funext j; rw [q_ud_n (by omega), q_ud_n (by omega), q_ud_n (by omega), q_ud_n (by omega), q_ud_n (by omega), q_ud_n (by omega)]
    · rw [show (8 + (a : Int)).toNat = 8 + a by omega, show (14 + (a : Int)).toNat = 14 + a by omega, show (17 + (a : Int)).toNat = 17 + a by omega, show (20 + (a : Int)).toNat = 20 + a by omega, show (23 + (a : Int)).toNat = 23 + a by omega, show (44 + (a : Int)).toNat = 44 + a by omega]
      simp only [m_ud_sr, m_sr_s, m_sr_sr]
      have ej := e j hj
      unfold m_u m_clr
      unfold m_clr at ej
      rw [ej]
      have : a = 0 ∨ a = 1 ∨ a = 2 := by omega
      (repeat' split) <;> first | rfl | omega
theorem r_clr1 : ∀ (d k f : Nat) (h : q_F), k + d = 122 → d < f → (∀ j, j < k → h 140 j = 0) → ∃ h', fn246_2 f k h = some (0, h') ∧ (∀ k, k ≠ 140 → h' k = h k) ∧ ∀ j, j < 122 → h' 140 j = m_clr 3 j := by
  intro d
  induction d with
  | zero =>
    intro k f h hk hf e
    obtain ⟨f, rfl⟩ : ∃ f', f = f' + 1 := ⟨f - 1, by omega⟩
    rw [fn246_2, if_pos (by omega), m_let]
    obtain ⟨h', a1, a2, a3⟩ := r_clr2 3 0 q_fu (q_ud h 140 0 100) (by omega) (by have := q_fu_ge; omega) (fun j hj => by
      unfold m_clr
      by_cases c : j = 0
      · subst c; rw [q_ud_s, if_pos rfl]
      · rw [q_ud_n (by omega), e j (by omega), if_neg c, if_neg (by omega), if_neg (by omega), if_neg (by omega), if_neg (by omega), if_neg (by omega), if_neg (by omega)])
    exact ⟨h', a1, fun k hk => by rw [a2 k hk]; funext j; rw [q_ud_n (by omega)], a3⟩
  | succ d ih =>
    intro k f h hk hf e
    obtain ⟨f, rfl⟩ : ∃ f', f = f' + 1 := ⟨f - 1, by omega⟩
    rw [fn246_2, if_neg (by omega), if_pos (by omega), m_let, Int.toNat_natCast, q_w32_id (by omega) (by omega), ← m_s1]
    obtain ⟨h', a1, a2, a3⟩ := ih (k + 1) f (q_ud h 140 k 0) (by omega) (by omega) (fun j hj => by
      by_cases c : j = k
      · subst c; exact q_ud_s _ _ _ _
      · rw [q_ud_n (by omega)]; exact e j (by omega))
    exact ⟨h', a1, fun k hk => by rw [a2 k hk]; funext j; rw [q_ud_n (by omega)], a3⟩
theorem r_clear (h : q_F) : ∃ h', fn246 h = some (0, h') ∧ (∀ k, k ≠ 140 → h' k = h k) ∧ ∀ j, j < 122 → h' 140 j = m_clr 3 j := r_clr1 122 0 q_fu h (by omega) (by have := q_fu_ge; omega) (fun j hj => absurd hj (Nat.not_lt_zero j))
theorem r_Y_c {w w' : Nat → Int} (Y : r_Y w) (e : ∀ j, j < 122 → w' j = w j) : r_Y w' := by
  obtain ⟨y0, y1, y2, y3, y4, y5, y6⟩ := Y
  refine ⟨by rw [e 0 (by omega)]; exact y0, by rw [e 1 (by omega)]; exact y1, by rw [e 2 (by omega)]; exact y2, fun a ha i hi => by rw [e _ (by omega)]; exact y3 a ha i hi, fun a ha => by rw [e _ (by omega), e _ (by omega)]; exact y4 a ha, fun a ha => by rw [e _ (by omega)]; exact y5 a ha, fun j hj => by rw [e _ (by omega)]; exact y6 j hj⟩
theorem r_Y_clr : r_Y (m_clr 3) ∧ r_Ze (m_clr 3) := by
  have D : ∀ a, a < 3 → ∀ i, i < 6 → m_clr 3 (8 + 3 * i + a) = [200, 0, 1000, 100, 5, 2].getD i 0 := by decide
  refine ⟨⟨by decide, by decide, by decide, fun a ha i hi => ?_, by decide, by decide, fun j hj => ?_⟩, ?_⟩
  · rw [D a ha i hi]
    obtain rfl | rfl | rfl | rfl | rfl | rfl : i = 0 ∨ i = 1 ∨ i = 2 ∨ i = 3 ∨ i = 4 ∨ i = 5 := by omega
    all_goals
      unfold m_nr
      refine ⟨?_, ?_, ?_, ?_, ?_, ?_⟩ <;> intro h9 <;> first | omega | (simp)
  · unfold m_clr
    rw [if_neg (by omega), if_neg (by omega), if_neg (by omega), if_neg (by omega), if_neg (by omega), if_neg (by omega), if_neg (by omega)]
  · unfold r_Ze; decide
-- the switches at first
def m_cls (w : Nat → Int) : Nat → Int := fun j => if 53 ≤ j ∧ j < 56 then (if w (20 + (j - 53)) < w (26 + (j - 53)) then 0 else 1) else w j
theorem r_RI_cls {w : Nat → Int} (Y : r_Y w) : m_RI (m_cls w) := by
  obtain ⟨y0, y1, y2, y3, y4, y5, y6⟩ := Y
  have R := m_RI_new (st := w 0) (cp := w 1) (dt := w 2) (N := fun k => w (8 + 3 * (k % 6) + k / 6)) (B := fun a => w (26 + a)) y0 y1 y2 (fun a ha i hi => by
    show m_nr i (w (8 + 3 * ((6 * a + i) % 6) + (6 * a + i) / 6))
    rw [show (6 * a + i) % 6 = i by omega, show (6 * a + i) / 6 = a by omega]; exact y3 a ha i hi) (fun a ha => by
    show 0 ≤ w (26 + a) ∧ w (26 + a) ≤ w (8 + 3 * ((6 * a) % 6) + (6 * a) / 6)
    rw [show (6 * a) % 6 = 0 by omega, show (6 * a) / 6 = a by omega]; exact y4 a ha)
  refine m_RI_c R fun j hj => ?_
  unfold m_cls m_new
  dsimp only
  by_cases c0 : j = 0
  · subst c0; rfl
  · by_cases c1 : j = 1
    · subst c1; rfl
    · by_cases c2 : j = 2
      · subst c2; rfl
      · rw [if_neg c0, if_neg c1, if_neg c2]
        by_cases c3 : 8 ≤ j ∧ j < 26
        · rw [if_neg (by omega), if_pos c3]; congr 1; omega
        · rw [if_neg c3]
          by_cases c4 : 26 ≤ j ∧ j < 29
          · rw [if_neg (by omega), if_pos c4]; congr 1; omega
          · rw [if_neg c4]
            by_cases c5 : 44 ≤ j ∧ j < 47
            · rw [if_neg (by omega), if_pos c5, show j = 44 + (j - 44) by omega]; exact y5 _ (by omega)
            · rw [if_neg c5]
              by_cases c6 : 53 ≤ j ∧ j < 56
              · have e20 : w (8 + 3 * ((6 * (j - 53) + 4) % 6) + (6 * (j - 53) + 4) / 6) = w (20 + (j - 53)) := by congr 1; omega
                rw [if_pos c6, if_pos c6]
                by_cases q : w (20 + (j - 53)) < w (26 + (j - 53))
                · rw [if_pos q, if_pos (by rw [e20]; exact q)]
                · rw [if_neg q, if_neg (by rw [e20]; exact q)]
              · rw [if_neg c6, if_neg c6]; exact y6 j (by omega)
theorem r_cls1 {h : q_F} {w : Nat → Int} {a f : Nat} (ha : a < 3) (e : ∀ j, j < 53 → h 140 j = w j) : fn247_2 (f + 1) a h = fn247_2 f ((a + 1 : Nat) : Int) (m_sr h 140 (m_u (h 140) (53 + a) (if w (20 + a) < w (26 + a) then 0 else 1))) := by
  have e1 := e (20 + a) (by omega)
  have e2 := e (26 + a) (by omega)
  have fin : ∀ p : Int, fn247_42 (fn247_2 f) a p (53 + (a : Int)) h = fn247_2 f ((a + 1 : Nat) : Int) (m_sr h 140 (m_u (h 140) (53 + a) p)) := fun p => by
    rw [fn247_42, if_pos (by omega), m_let, q_w32_id (z := (a : Int) + 1) (by omega) (by omega), show (53 + (a : Int)).toNat = 53 + a by omega, m_ud_sr, ← m_s1]
  rw [fn247_2, if_neg (by omega), q_w32_id (z := 26 + (a : Int)) (by omega) (by omega), q_w32_id (z := 20 + (a : Int)) (by omega) (by omega), q_w32_id (z := 53 + (a : Int)) (by omega) (by omega), if_pos (show 0 ≤ 26 + (a : Int) ∧ 26 + (a : Int) < 122 by omega), if_pos (show 0 ≤ 20 + (a : Int) ∧ 20 + (a : Int) < 122 by omega), show (26 + (a : Int)).toNat = 26 + a by omega, show (20 + (a : Int)).toNat = 20 + a by omega, fin, fin]
  by_cases q : w (20 + a) < w (26 + a)
  · rw [if_pos (by omega), if_pos q]
  · rw [if_neg (by omega), if_neg q]
theorem r_closes {h : q_F} {w : Nat → Int} (e : h 140 = w) : fn247 h = some (0, m_sr h 140 (m_cls w)) := by
  obtain ⟨n, en⟩ := m_fu3
  have g := r_cls1 (h := h) (w := w) (f := n + 1 + 1 + 1) (show 0 < 3 by omega) (fun j _ => by rw [e])
  rw [r_cls1 (w := w) (f := n + 1 + 1) (show 0 + 1 < 3 by omega) (fun j hj => by rw [m_sr_s, m_u_n (by omega), e]), r_cls1 (w := w) (f := n + 1) (show 0 + 1 + 1 < 3 by omega) (fun j hj => by rw [m_sr_s, m_sr_s, m_u_n (by omega), m_u_n (by omega), e])] at g
  simp only [m_sr_s, m_sr_sr] at g
  rw [fn247, en]
  refine g.trans ?_
  rw [fn247_2, if_pos (by omega), e]
  congr 3
  funext j
  unfold m_u m_cls
  by_cases c2 : j = 53 + (0 + 1 + 1)
  · subst c2; rfl
  · rw [if_neg c2]
    by_cases c1 : j = 53 + (0 + 1)
    · subst c1; rfl
    · rw [if_neg c1]
      by_cases c0 : j = 53 + 0
      · subst c0; rfl
      · rw [if_neg c0, if_neg (by omega)]
