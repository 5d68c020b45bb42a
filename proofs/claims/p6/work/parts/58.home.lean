/-! Part 58: the reference: what a run keeps; homing, jogging, remembering. -/
theorem m_mk_ok {p : Nat → Int} (okp : m_ok p) (nnp : m_nn p) {n : Nat} (hn : (n : Int) ≤ p 4) : ∀ (d m : Nat) (w : Nat → Int), m + d = n → m_ok w → w 4 = p 4 → w 0 = p 0 → (∀ j, 74 ≤ j → w j = p j) → (∀ a, a < 3 → w (47 + a) = m_beg p m a) → m_ok (m_mk p n d m w).2 ∧ m_nn (m_mk p n d m w).2 := by
  have h16 := okp.2.1
  intro d
  induction d with
  | zero =>
    intro m w hm ok h4 h0 ht hc
    unfold m_mk
    simp only
    have em : m = n := by omega
    subst em
    have f4 : m_fin m w 4 = w 4 - m := by unfold m_fin; rw [m_u_s]
    have fo : ∀ j, j ≠ 4 → j < 74 → m_fin m w j = w j := fun j hj hj2 => by
      unfold m_fin; rw [m_u_n hj]; unfold m_cp; rw [if_neg (by omega)]
    have ft : ∀ j, j < 3 * (w 4 - m).toNat → m_fin m w (74 + j) = p (74 + 3 * m + j) := fun j hj => by
      unfold m_fin; rw [m_u_n (by omega)]; unfold m_cp; rw [if_pos (by omega), ht _ (by omega)]; congr 1; omega
    refine ⟨⟨?_, ?_, fun a ha => ?_, fun j hj hj2 => ?_⟩, ?_⟩
    · rw [fo 0 (by omega) (by omega)]; exact ok.1
    · rw [f4]; omega
    · rw [fo _ (by omega) (by omega), fo _ (by omega) (by omega), fo _ (by omega) (by omega), fo _ (by omega) (by omega), fo _ (by omega) (by omega)]; exact ok.2.2.1 a ha
    · unfold m_fin; rw [m_u_n (by omega)]; unfold m_cp
      split
      · exact ok.2.2.2 _ (by omega) (by omega)
      · exact ok.2.2.2 j hj hj2
    · intro k hk
      rw [f4, h4] at hk
      have hv := nnp (m + k) (by omega)
      have hb : ∀ j a, j ≤ k + 1 → a < 3 → m_beg (m_fin m w) j a = m_beg p (m + j) a := by
        intro j a hj ha
        by_cases e : j = 0
        · subst e
          rw [Nat.add_zero, ← hc a ha]; unfold m_beg; rw [if_pos rfl, fo _ (by omega) (by omega)]
        · unfold m_beg; rw [if_neg e, if_neg (by omega), show 74 + 3 * (j - 1) + a = 74 + (3 * (j - 1) + a) by omega, ft _ (by omega)]; congr 1; omega
      have hd : ∀ a, a < 3 → m_d (m_fin m w) k a = m_d p (m + k) a := by
        intro a ha; unfold m_d; rw [hb _ _ (by omega) ha, hb _ _ (by omega) ha]; rfl
      unfold m_mv
      rw [hd 0 (by omega), hd 1 (by omega), hd 2 (by omega)]
      exact hv
  | succ d ih =>
    intro m w hm ok h4 h0 ht hc
    unfold m_mk
    have hf := m_mm_fr (p := p) (m := m) w
    have ok1 := m_fr_ok ok hf
    split
    · have ok2 : m_ok (m_u (m_mm p m w).2 3 3) := by
        obtain ⟨g0, g1, g2, g3⟩ := ok1
        refine ⟨by rw [m_u_n (by omega)]; exact g0, by rw [m_u_n (by omega)]; exact g1, fun a ha => ?_, fun j hj hj2 => by rw [m_u_n (by omega)]; exact g3 j hj hj2⟩
        rw [m_u_n (by omega), m_u_n (by omega), m_u_n (by omega), m_u_n (by omega), m_u_n (by omega)]; exact g2 a ha
      exact ⟨m_stops_ok ok2, m_stops_nn _⟩
    · have hco : ∀ j, j < 47 ∨ 49 < j → m_co m (m_mm p m w).2 j = (m_mm p m w).2 j := fun j hj => by
        unfold m_co; rw [m_u_n (by omega), m_u_n (by omega), m_u_n (by omega)]
      refine ih (m + 1) _ (by omega) (m_co_ok ok1 (by omega)) ?_ ?_ (fun j hj => ?_) (fun a ha => ?_)
      · rw [hco 4 (by omega), hf 4 (by unfold m_dy; omega)]; exact h4
      · rw [hco 0 (by omega), hf 0 (by unfold m_dy; omega)]; exact h0
      · rw [hco j (by omega), hf j (by unfold m_dy; omega)]; exact ht j hj
      · have e : m_beg p (m + 1) a = p (74 + 3 * m + a) := by unfold m_beg; rw [if_neg (by omega)]; rfl
        rw [e, ← ht _ (by omega), ← hf (74 + 3 * m + a) (by unfold m_dy; omega)]
        unfold m_co
        rcases m_c3 ha with rfl | rfl | rfl <;> simp [m_u]
theorem m_run_ok {w : Nat → Int} (ok : m_ok w) (nn : m_nn w) {n : Nat} (hn : (n : Int) ≤ w 4) : m_ok (m_run n w).2 ∧ m_nn (m_run n w).2 :=
  m_mk_ok ok nn hn n 0 w (by omega) ok rfl rfl (fun _ _ => rfl) (fun a ha => by unfold m_beg; rw [if_pos rfl])
-- homing
noncomputable def m_skl (a : Nat) (c d t : Int) : Nat → (Nat → Int) → Nat × (Nat → Int)
  | 0, w => (0, w)
  | n + 1, w => if m_reads a w = c then (0, w) else ((m_skl a c d t n (m_u (m_step a d w).2 5 (q_w64 ((m_step a d w).2 5 + t)))).1 + 1, (m_skl a c d t n (m_u (m_step a d w).2 5 (q_w64 ((m_step a d w).2 5 + t)))).2)
theorem m_skl_fr {a : Nat} (ha : a < 3) (c d t : Int) : ∀ (n : Nat) (w : Nat → Int), m_fr w (m_skl a c d t n w).2 := by
  intro n
  induction n with
  | zero => intro w; exact m_fr_r
  | succ n ih =>
    intro w
    unfold m_skl; split
    · exact m_fr_r
    · exact m_fr_t (m_fr_u (m_step_fr ha d w) (by unfold m_dy; omega)) (ih _)
theorem m_skl_n {a : Nat} (c d t : Int) : ∀ (n : Nat) (w : Nat → Int), (m_skl a c d t n w).1 ≤ n := by
  intro n
  induction n with
  | zero => intro w; exact Nat.le_refl _
  | succ n ih =>
    intro w
    unfold m_skl; split
    · exact Nat.zero_le _
    · exact Nat.succ_le_succ (ih _)
noncomputable def m_seek (a : Nat) (c d t : Int) (w : Nat → Int) : Int × (Nat → Int) :=
  let r := m_skl a c d t (w (8 + a) + w (11 + a) + 1).toNat w
  (if m_reads a r.2 = c then (r.1 : Int) else -1, r.2)
theorem fn327_27_m {a : Nat} {c d t M : Int} (ha : a < 3) (hM : M ≤ 5000) : ∀ (n : Nat) (k l : Int) (f : Nat) (h : q_F), 0 ≤ k → k + n = M → n < f → fn327_27 f a c d t M k l h = some (if m_reads a (m_skl a c d t n (h 140)).2 = c then k + (m_skl a c d t n (h 140)).1 else -1, m_sr h 140 (m_skl a c d t n (h 140)).2) := by
  intro n
  induction n with
  | zero =>
    intro k l f h hk hn hf
    obtain ⟨f, rfl⟩ : ∃ f', f = f' + 1 := ⟨f - 1, by omega⟩
    rw [fn327_27, fn318_m ha, Option.bind_some]
    unfold m_skl
    simp only
    rw [m_sr_id]
    by_cases hc : m_reads a (h 140) = c
    · rw [if_pos hc, if_pos hc, fn327_81, fn318_m ha, Option.bind_some, if_pos hc]
      congr 2; omega
    · rw [if_neg hc, if_neg hc, if_pos (by omega), fn327_81, fn318_m ha, Option.bind_some, if_neg hc]
  | succ n ih =>
    intro k l f h hk hn hf
    obtain ⟨f, rfl⟩ : ∃ f', f = f' + 1 := ⟨f - 1, by omega⟩
    rw [fn327_27, fn318_m ha, Option.bind_some]
    unfold m_skl
    by_cases hc : m_reads a (h 140) = c
    · rw [if_pos hc, if_pos hc]
      simp only
      rw [m_sr_id, if_pos hc, fn327_81, fn318_m ha, Option.bind_some, if_pos hc]
      congr 2; omega
    · rw [if_neg hc, if_neg hc, if_neg (by omega), fn340_m ha, Option.bind_some]
      simp only
      have e62 : ∀ z, fn327_62 (fn327_27 f) a c d t M k z (m_sr h 140 (m_step a d (h 140)).2) = some (if m_reads a (m_skl a c d t n (m_u (m_step a d (h 140)).2 5 (q_w64 ((m_step a d (h 140)).2 5 + t)))).2 = c then k + (((m_skl a c d t n (m_u (m_step a d (h 140)).2 5 (q_w64 ((m_step a d (h 140)).2 5 + t)))).1 + 1 : Nat) : Int) else -1, m_sr h 140 (m_skl a c d t n (m_u (m_step a d (h 140)).2 5 (q_w64 ((m_step a d (h 140)).2 5 + t)))).2) := by
        intro z
        rw [fn327_62, m_ud_sr, m_let, m_sr_s, m_sr_sr, q_w32_id (by omega) (by omega), ih (k + 1) z f _ (by omega) (by omega) (by omega), m_sr_s, m_sr_sr]
        congr 2
        split <;> omega
      split
      · split
        · exact e62 _
        · exact e62 _
      · exact e62 _
theorem fn327_m {a : Nat} {c d t : Int} {h : q_F} (ha : a < 3) (ok : m_ok (h 140)) : fn327 a c d t h = some ((m_seek a c d t (h 140)).1, m_sr h 140 (m_seek a c d t (h 140)).2) := by
  have o := ok.2.2.1 a ha
  rw [fn327, q_w32_id (z := 8 + (a : Int)) (by omega) (by omega), fn303_i (by omega) (by omega), Option.bind_some, q_w32_id (z := 11 + (a : Int)) (by omega) (by omega), fn303_i (by omega) (by omega), Option.bind_some, show (8 + (a : Int)).toNat = 8 + a by omega, show (11 + (a : Int)).toNat = 11 + a by omega, q_w32_id (z := h 140 (8 + a)) (by omega) (by omega), q_w32_id (z := h 140 (11 + a)) (by omega) (by omega), q_w32_id (z := h 140 (8 + a) + h 140 (11 + a)) (by omega) (by omega), q_w32_id (by omega) (by omega)]
  rw [fn327_27_m ha (by omega) (h 140 (8 + a) + h 140 (11 + a) + 1).toNat 0 0 q_fu h (by omega) (by omega) (by have := q_fu_ge; omega)]
  unfold m_seek
  simp only [Int.zero_add]
noncomputable def m_hf (a : Nat) (al : Int) (w : Nat → Int) : Nat → Int := m_u (m_u w 3 al) (68 + a) (q_w64 (w (68 + a) + 1))
noncomputable def m_ho (a : Nat) (w : Nat → Int) : Nat → Int := m_u (m_u (m_u (m_u w (41 + a) 1) (47 + a) 0) (50 + a) (w (26 + a))) (65 + a) (q_w64 (w (65 + a) + 1))
noncomputable def m_home (a : Nat) (w : Nat → Int) : Int × (Nat → Int) :=
  let w0 := m_u w (41 + a) 0
  let r := m_seek a 1 (-1) (q_ldv 1000000 (w 0)) w0
  if r.1 = -1 then (-1, m_hf a 1 r.2) else
    let s := m_seek a 0 1 (q_w64 (4 * q_ldv 1000000 (w 0))) r.2
    if s.1 = -1 then (-1, m_hf a 2 s.2) else (q_w32 (r.1 + s.1), m_ho a s.2)
theorem m_seek_fr {a : Nat} (ha : a < 3) (c d t : Int) (w : Nat → Int) : m_fr w (m_seek a c d t w).2 := m_skl_fr ha _ _ _ _ _
theorem m_u_ok {w : Nat → Int} {j : Nat} {v : Int} (ok : m_ok w) (hj : j = 1 ∨ j = 2 ∨ j = 3 ∨ (5 ≤ j ∧ j ≤ 7) ∨ (20 ≤ j ∧ j ≤ 46) ∨ (50 ≤ j ∧ j < 74)) : m_ok (m_u w j v) := by
  obtain ⟨g0, g1, g2, g3⟩ := ok
  refine ⟨by rw [m_u_n (by omega)]; exact g0, by rw [m_u_n (by omega)]; exact g1, fun a ha => ?_, fun j hj hj2 => by rw [m_u_n (by omega)]; exact g3 j hj hj2⟩
  rw [m_u_n (by omega), m_u_n (by omega), m_u_n (by omega), m_u_n (by omega), m_u_n (by omega)]; exact g2 a ha
theorem fn266_69_m {a : Nat} {al : Int} {h : q_F} (ha : a < 3) : fn266_69 a al 3 h = some (-1, m_sr h 140 (m_hf a al (h 140))) := by
  rw [fn266_69, if_pos (by omega), m_ud_sr, m_let, q_w32_id (by omega) (by omega), if_pos (by omega), if_pos (by omega), show (68 + (a : Int)).toNat = 68 + a by omega, m_ud_sr, m_let, m_sr_s, m_sr_sr, show (3 : Int).toNat = 3 from rfl, m_u_n (show 68 + a ≠ 3 by omega)]
  rfl
theorem fn266_46_m {a : Nat} {x y : Int} {h : q_F} (ha : a < 3) : fn266_46 a x y h = some (if y = -1 then (-1 : Int) else q_w32 (x + y), m_sr h 140 (if y = -1 then (if x = -1 then m_hf a 1 (h 140) else m_hf a 2 (h 140)) else m_ho a (h 140))) := by
  unfold fn266_46
  by_cases hy : y = -1
  · rw [if_pos hy, if_pos hy, if_pos hy]
    split
    · exact fn266_69_m ha
    · exact fn266_69_m ha
  · rw [if_neg hy, if_neg hy, if_neg hy, q_w32_id (z := 41 + (a : Int)) (by omega) (by omega), if_pos (by omega), m_ud_sr, m_let, q_w32_id (z := 47 + (a : Int)) (by omega) (by omega), if_pos (by omega), m_ud_sr, m_let, q_w32_id (z := 26 + (a : Int)) (by omega) (by omega), if_pos (by omega), q_w32_id (z := 50 + (a : Int)) (by omega) (by omega), if_pos (by omega), m_ud_sr, m_let, q_w32_id (z := 65 + (a : Int)) (by omega) (by omega), if_pos (by omega), if_pos (by omega), m_ud_sr, m_let]
    simp only [m_sr_s, m_sr_sr]
    rw [show (41 + (a : Int)).toNat = 41 + a by omega, show (47 + (a : Int)).toNat = 47 + a by omega, show (26 + (a : Int)).toNat = 26 + a by omega, show (50 + (a : Int)).toNat = 50 + a by omega, show (65 + (a : Int)).toNat = 65 + a by omega]
    rw [m_u_n (show 26 + a ≠ 47 + a by omega), m_u_n (show 26 + a ≠ 41 + a by omega), m_u_n (show 65 + a ≠ 50 + a by omega), m_u_n (show 65 + a ≠ 47 + a by omega), m_u_n (show 65 + a ≠ 41 + a by omega)]
    rfl
theorem fn266_m {a : Nat} {h : q_F} (ha : a < 3) (ok : m_ok (h 140)) : fn266 a h = some ((m_home a (h 140)).1, m_sr h 140 (m_home a (h 140)).2) := by
  have ok0 : m_ok (m_u (h 140) (41 + a) 0) := m_u_ok ok (by omega)
  have n0 : m_u (h 140) (41 + a) 0 0 = h 140 0 := m_u_n (by omega)
  have h0 := ok.1
  rw [fn266, q_w32_id (z := 41 + (a : Int)) (by omega) (by omega), if_pos (by omega), show (41 + (a : Int)).toNat = 41 + a by omega, m_ud_sr, m_let, fn335_m (by rw [m_sr_s, n0]; omega), Option.bind_some, fn327_m ha (by rw [m_sr_s]; exact ok0), Option.bind_some, m_sr_s, m_sr_sr, n0]
  unfold m_home
  simp only
  by_cases c1 : (m_seek a 1 (-1) (q_ldv 1000000 (h 140 0)) (m_u (h 140) (41 + a) 0)).1 = -1
  · rw [if_pos c1, if_pos c1, fn266_46_m ha, if_pos rfl, if_pos rfl, if_pos c1, m_sr_s, m_sr_sr]
  · have fr := m_seek_fr ha 1 (-1) (q_ldv 1000000 (h 140 0)) (m_u (h 140) (41 + a) 0)
    have ok1 := m_fr_ok ok0 fr
    have e0 := fr 0 (by unfold m_dy; omega)
    rw [n0] at e0
    rw [if_neg c1, if_neg c1, fn335_m (by rw [m_sr_s, e0]; omega), Option.bind_some, fn327_m ha (by rw [m_sr_s]; exact ok1), Option.bind_some, m_sr_s, m_sr_sr, e0, fn266_46_m ha]
    simp only [m_sr_s, m_sr_sr]
    split
    · simp only [if_neg c1]
    · rfl
