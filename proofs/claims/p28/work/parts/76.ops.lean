section -- [76.state]
/-! Part 76: what lies between two calls; changes remembered. -/
theorem m_irm {a b : Int} (h0 : 0 ≤ a) (h1 : a < 2147483648) (h2 : 0 < b) (h3 : b < 2147483648) : q_irm a b = a % b := by
  have e : (Int32.ofInt a / Int32.ofInt b).toInt = a / b := m_idv h0 h1 h2 h3
  have g0 : 0 ≤ a % b := Int.emod_nonneg a (by omega)
  have g1 : a % b ≤ a := by
    have h9 := Int.emod_def a b
    have k0 : 0 ≤ a / b := Int.ediv_nonneg h0 (by omega)
    have k1 : 0 ≤ b * (a / b) := Int.mul_nonneg (by omega) k0
    omega
  have g2 : a / b * b = a - a % b := by rw [Int.emod_def, Int.mul_comm]; omega
  unfold q_irm
  rw [Int32.toInt_sub, Int32.toInt_mul, e, q_w32_m, q_w32_m, q_w32_id (by omega) (by omega), q_w32_id (by omega) (by omega), g2]
  have b1 : (a - a % b).bmod (2 ^ 32) = a - a % b := Int.bmod_eq_of_le (by omega) (by omega)
  rw [b1]
  have b2 : (a - (a - a % b)).bmod (2 ^ 32) = a - (a - a % b) := Int.bmod_eq_of_le (by omega) (by omega)
  rw [b2]; omega
/-- what a place of a row may hold -/
def m_pv (j : Nat) (v : Int) : Prop := (j = 0 → 1 ≤ v ∧ v ≤ 1000) ∧ (j = 1 ∨ j = 2 ∨ (41 ≤ j ∧ j ≤ 43) → v = 0 ∨ v = 1) ∧ (j = 3 → 0 ≤ v ∧ v ≤ 3) ∧ (j = 4 → 0 ≤ v ∧ v ≤ 16) ∧ (38 ≤ j ∧ j ≤ 40 → 0 ≤ v ∧ v ≤ 2) ∧ (8 ≤ j ∧ j ≤ 10 → 1 ≤ v ∧ v ≤ 2000) ∧ (11 ≤ j ∧ j ≤ 13 → 0 ≤ v ∧ v ≤ 20) ∧ (14 ≤ j ∧ j ≤ 16 → 1 ≤ v ∧ v ≤ 5000) ∧ (17 ≤ j ∧ j ≤ 19 → 1 ≤ v ∧ v ≤ 500) ∧ ((47 ≤ j ∧ j ≤ 52) ∨ (74 ≤ j ∧ j < 122) → 0 ≤ v ∧ v ≤ 2000)
/-- what holds of a row, but for its moves -/
def m_R0 (w : Nat → Int) : Prop := (∀ j, j < 122 → m_pv j (w j)) ∧ m_a3 w
/-- what holds of a row between two calls -/
def m_RI (w : Nat → Int) : Prop := m_R0 w ∧ m_nn w
theorem m_R0_ok {w : Nat → Int} (h : m_R0 w) : m_ok w := by
  obtain ⟨h, -⟩ := h
  refine ⟨(h 0 (by omega)).1 rfl, (h 4 (by omega)).2.2.2.1 rfl, fun a ha => ?_, fun j h1 h2 => (h j h2).2.2.2.2.2.2.2.2.2 (Or.inr ⟨h1, h2⟩)⟩
  have a1 := (h (8 + a) (by omega)).2.2.2.2.2.1 (by omega)
  have a2 := (h (11 + a) (by omega)).2.2.2.2.2.2.1 (by omega)
  have a3 := (h (14 + a) (by omega)).2.2.2.2.2.2.2.1 (by omega)
  have a4 := (h (17 + a) (by omega)).2.2.2.2.2.2.2.2.1 (by omega)
  have a5 := (h (47 + a) (by omega)).2.2.2.2.2.2.2.2.2 (by omega)
  exact ⟨a1.1, a1.2, a2.1, a2.2, a3.1, a3.2, a4.1, a4.2, a5.1, a5.2⟩
theorem m_R0_fr {w w' : Nat → Int} (h : m_R0 w) (f : m_fr w w') (a3 : m_a3 w') : m_R0 w' := by
  refine ⟨fun j hj => ?_, a3⟩
  by_cases e : m_dy j
  · unfold m_dy at e
    unfold m_pv
    refine ⟨?_, ?_, ?_, ?_, ?_, ?_, ?_, ?_, ?_, ?_⟩ <;> intro h9 <;> omega
  · rw [f j e]; exact h.1 j hj
theorem m_R0_u {w : Nat → Int} {j : Nat} {v : Int} (h : m_R0 w) (hv : m_pv j v) (a3 : m_a3 (m_u w j v)) : m_R0 (m_u w j v) := by
  refine ⟨fun k hk => ?_, a3⟩
  by_cases e : k = j
  · subst e; rw [m_u_s]; exact hv
  · rw [m_u_n e]; exact h.1 k hk
theorem m_R0_v {w : Nat → Int} {j : Nat} {v : Int} (h : m_R0 w) (hv : m_pv j v) (hj : j < 8 ∨ 62 ≤ j ∨ (14 ≤ j ∧ j < 20) ∨ (35 ≤ j ∧ j < 44) ∨ (47 ≤ j ∧ j < 53)) : m_R0 (m_u w j v) := m_R0_u h hv (m_a3_u h.2 hj)
theorem m_R0_w {w : Nat → Int} {j : Nat} {v : Int} (h : m_R0 w) (hj : (5 ≤ j ∧ j ≤ 7) ∨ (35 ≤ j ∧ j ≤ 37) ∨ (62 ≤ j ∧ j < 74)) : m_R0 (m_u w j v) := m_R0_v h (by
    unfold m_pv
    refine ⟨?_, ?_, ?_, ?_, ?_, ?_, ?_, ?_, ?_, ?_⟩ <;> intro h9 <;> omega) (by omega)
theorem m_a3_c {w w' : Nat → Int} (h : m_a3 w) (e : ∀ j, j < 122 → w' j = w j) : m_a3 w' := m_a3_of fun a ha => by
  have g := m_a3_i h ha
  unfold m_ai
  rw [e (29 + a) (by omega), e (11 + a) (by omega), e (26 + a) (by omega), e (8 + a) (by omega), e (53 + a) (by omega), e (20 + a) (by omega), e (23 + a) (by omega), e (44 + a) (by omega), e (32 + a) (by omega), e (56 + a) (by omega), e (59 + a) (by omega)]
  exact g
theorem m_nn_c {w w' : Nat → Int} (h : m_nn w) (e : ∀ j, j < 122 → w' j = w j) (h4 : w 4 ≤ 16) : m_nn w' := by
  intro m hm
  rw [e 4 (by omega)] at hm
  have g := h m hm
  have b : ∀ k a, k ≤ 16 → a < 3 → m_beg w' k a = m_beg w k a := fun k a hk ha => by
    unfold m_beg; split
    · exact e _ (by omega)
    · exact e _ (by omega)
  have d : ∀ a, a < 3 → m_d w' m a = m_d w m a := fun a ha => by unfold m_d; rw [b _ a (by omega) ha, b _ a (by omega) ha]
  unfold m_mv
  rw [d 0 (by omega), d 1 (by omega), d 2 (by omega)]
  exact g
theorem m_R0_c {w w' : Nat → Int} (h : m_R0 w) (e : ∀ j, j < 122 → w' j = w j) : m_R0 w' := ⟨fun j hj => by rw [e j hj]; exact h.1 j hj, m_a3_c h.2 e⟩
theorem m_RI_c {w w' : Nat → Int} (h : m_RI w) (e : ∀ j, j < 122 → w' j = w j) : m_RI w' := ⟨m_R0_c h.1 e, m_nn_c h.2 e (m_R0_ok h.1).2.1.2⟩
theorem c_tb_c {h : q_F} {t : Nat} {w w' : Nat → Int} (hc : c_tb h t w) (h4 : w 4 ≤ 16) (e : ∀ j, j < 122 → w' j = w j) : c_tb h t w' :=
  c_tb_g7 hc (fun _ _ _ => rfl) (fun j hj _ => e j (by omega)) (by rw [e 4 (by omega)]; exact hc.2.2.1) (fun j hj => by
    rw [e 4 (by omega)] at hj
    rw [e _ (by omega)]; exact hc.2.2.2 j hj)
def m_St : Type := (Nat → Int) × Nat × (Nat → Nat → Int) × Int × (Nat → Int)
def m_St.w (S : m_St) : Nat → Int := S.1
def m_St.n (S : m_St) : Nat := S.2.1
def m_St.P (S : m_St) : Nat → Nat → Int := S.2.2.1
def m_St.sv (S : m_St) : Int := S.2.2.2.1
def m_St.ws (S : m_St) : Nat → Int := S.2.2.2.2
def m_mkS (w : Nat → Int) (n : Nat) (P : Nat → Nat → Int) (sv : Int) (ws : Nat → Int) : m_St := (w, n, P, sv, ws)
/-- the class between two calls -/
def c_I (h : q_F) (S : m_St) : Prop := c_tb h 6 S.w ∧ (h 33 1 = (S.n : Int) ∧ 0 ≤ h 33 2 ∧ h 33 2 < 10 ∧ ∀ k, k < S.n → c_tb h (35 + 9 * (((h 33 2).toNat + 10 - S.n + k) % 10)) (S.P k)) ∧ (h 0 9 = S.sv ∧ (S.sv ≠ 0 → c_tb h 15 S.ws))
/-- the reference between two calls -/
def r_I (h : q_F) (S : m_St) : Prop := h 140 = S.w ∧ (h 139 5 = (S.n : Int) ∧ ∀ k, k < S.n → ∀ j, j < 122 → h 144 (122 * k + j) = S.P k j) ∧ (h 139 6 = S.sv ∧ (S.sv ≠ 0 → ∀ j, j < 122 → h 143 j = S.ws j))
/-- all that lies between two calls is sound -/
def m_I (S : m_St) : Prop := m_RI S.w ∧ (S.n ≤ 10 ∧ ∀ k, k < S.n → m_RI (S.P k)) ∧ (S.sv = 0 ∨ S.sv = 1) ∧ (S.sv ≠ 0 → m_RI S.ws)
theorem c_I_k {h h' : q_F} {S : m_St} (hI : c_I h S) (hn : S.n ≤ 10) (e : ∀ k, (6 ≤ k ∧ k ≤ 23) ∨ (33 ≤ k ∧ k ≤ 124) → h' k = h k) (e9 : h' 0 9 = h 0 9) : c_I h' S := by
  obtain ⟨h1, ⟨h2, h3, h4, h5⟩, h6, h7⟩ := hI
  refine ⟨c_tb_k h1 fun k k1 k2 => e k (by omega), ⟨?_, ?_, ?_, fun k hk => ?_⟩, ?_, fun hs => c_tb_k (h7 hs) fun k k1 k2 => e k (by omega)⟩
  · rw [e 33 (by omega)]; exact h2
  · rw [e 33 (by omega)]; exact h3
  · rw [e 33 (by omega)]; exact h4
  · rw [e 33 (by omega)]; exact c_tb_k (h5 k hk) fun k k1 k2 => e k (by omega)
  · rw [e9]; exact h6
theorem r_I_k {h h' : q_F} {S : m_St} (hI : r_I h S) (e : ∀ k, k = 140 ∨ k = 143 ∨ k = 144 → h' k = h k) (e5 : h' 139 5 = h 139 5) (e6 : h' 139 6 = h 139 6) : r_I h' S := by
  obtain ⟨h1, ⟨h2, h3⟩, h4, h5⟩ := hI
  refine ⟨by rw [e 140 (by omega)]; exact h1, ⟨by rw [e5]; exact h2, by rw [e 144 (by omega)]; exact h3⟩, by rw [e6]; exact h4, by rw [e 143 (by omega)]; exact h5⟩
def m_rem (S : m_St) : m_St := m_mkS S.w (if S.n = 10 then 10 else S.n + 1) (fun k => if S.n = 10 then (if k < 9 then S.P (k + 1) else S.w) else (if k = S.n then S.w else S.P k)) S.sv S.ws
theorem m_I_rem {S : m_St} (h : m_I S) : m_I (m_rem S) := by
  obtain ⟨h1, ⟨h2, h3⟩, h4, h5⟩ := h
  refine ⟨h1, ⟨?_, fun k hk => ?_⟩, h4, h5⟩
  · show (if S.n = 10 then 10 else S.n + 1) ≤ 10
    split <;> omega
  · have hk' : k < (if S.n = 10 then 10 else S.n + 1) := hk
    show m_RI (if S.n = 10 then (if k < 9 then S.P (k + 1) else S.w) else (if k = S.n then S.w else S.P k))
    by_cases e : S.n = 10
    · rw [if_pos e] at hk' ⊢
      split
      · exact h3 _ (by omega)
      · exact h1
    · rw [if_neg e] at hk' ⊢
      split
      · exact h1
      · exact h3 _ (by omega)
theorem c_remember {h : q_F} {S : m_St} (hI : c_I h S) (hm : m_I S) : ∃ h', fn67 6 h = some (0, h') ∧ c_I h' (m_rem S) ∧ ∀ k, k < 33 ∨ 125 ≤ k → h' k = h k := by
  obtain ⟨h1, ⟨h2, h3, h4, h5⟩, h6, h7⟩ := hI
  obtain ⟨m1, ⟨m2, m3⟩, m4, m5⟩ := hm
  have ok := (m_R0_ok m1.1).2.1
  obtain ⟨x, hx⟩ : ∃ x : Nat, h 33 2 = (x : Int) := ⟨(h 33 2).toNat, by omega⟩
  rw [hx] at h3 h4 h5
  rw [Int.toNat_natCast] at h5
  obtain ⟨g, g1, g2, g3⟩ := c_copy (t := 35 + 9 * x) (t1 := 6) (by omega) h1 ok
  have es : q_slot (h 33 2) = 35 + 9 * x := by rw [hx]; rfl
  have k33 : g 33 = h 33 := g3 33 (by omega)
  rw [fn67, hx, if_pos (by omega), ← hx, es, g1, Option.bind_some]
  dsimp only
  rw [m_let, m_let, q_ud_n (show ¬ (33 = 33 ∧ 1 = 2) by omega), k33, hx, h2, q_w32_id (z := (x : Int) + 1) (by omega) (by omega), m_irm (by omega) (by omega) (by omega) (by omega), q_w32_id (z := (S.n : Int) + 1) (by omega) (by omega)]
  have en : qx_mn ((S.n : Int) + 1) 10 = (((if S.n = 10 then 10 else S.n + 1 : Nat)) : Int) := by unfold qx_mn; (repeat' split) <;> omega
  have hy : ((x : Int) + 1) % 10 = (((x + 1) % 10 : Nat) : Int) := by omega
  rw [en, hy]
  refine ⟨_, rfl, ⟨?_, ⟨?_, ?_, ?_, fun k hk => ?_⟩, ?_, ?_⟩, fun k hk => ?_⟩
  · exact c_tb_k h1 fun k k1 k2 => by funext j; rw [q_ud_n (by omega), q_ud_n (by omega), g3 k (by omega)]
  · rw [q_ud_s]; rfl
  · rw [q_ud_n (by omega), q_ud_s]; omega
  · rw [q_ud_n (by omega), q_ud_s]; omega
  · rw [q_ud_n (show ¬ (33 = 33 ∧ 2 = 1) by omega), q_ud_s, Int.toNat_natCast]
    have hk' : k < (if S.n = 10 then 10 else S.n + 1) := hk
    have key : c_tb g (35 + 9 * (((x + 1) % 10 + 10 - (if S.n = 10 then 10 else S.n + 1) + k) % 10)) (if S.n = 10 then (if k < 9 then S.P (k + 1) else S.w) else (if k = S.n then S.w else S.P k)) := by
      have old : ∀ i, i < S.n → (x + 10 - S.n + i) % 10 ≠ x → c_tb g (35 + 9 * ((x + 10 - S.n + i) % 10)) (S.P i) := fun i hi hne => c_tb_k (h5 i hi) fun k k1 k2 => g3 k (by omega)
      by_cases e : S.n = 10
      · rw [if_pos e] at hk' ⊢
        rw [if_pos e]
        by_cases e2 : k < 9
        · rw [if_pos e2]
          have := old (k + 1) (by omega) (by omega)
          rw [show (x + 10 - S.n + (k + 1)) % 10 = ((x + 1) % 10 + 10 - 10 + k) % 10 by omega] at this
          exact this
        · rw [if_neg e2, show ((x + 1) % 10 + 10 - 10 + k) % 10 = x by omega]
          exact g2
      · rw [if_neg e] at hk' ⊢
        rw [if_neg e]
        by_cases e2 : k = S.n
        · rw [if_pos e2, show ((x + 1) % 10 + 10 - (S.n + 1) + k) % 10 = x by omega]
          exact g2
        · rw [if_neg e2]
          have := old k (by omega) (by omega)
          rw [show (x + 10 - S.n + k) % 10 = ((x + 1) % 10 + 10 - (S.n + 1) + k) % 10 by omega] at this
          exact this
    exact c_tb_k key fun k k1 k2 => by funext j; rw [q_ud_n (by omega), q_ud_n (by omega)]
  · rw [q_ud_n (by omega), q_ud_n (by omega), g3 0 (by omega)]; exact h6
  · intro hs
    exact c_tb_k (h7 hs) fun k k1 k2 => by funext j; rw [q_ud_n (by omega), q_ud_n (by omega), g3 k (by omega)]
  · funext j; rw [q_ud_n (by omega), q_ud_n (by omega), g3 k (by omega)]
theorem r_remember {h : q_F} {S : m_St} (hI : r_I h S) (hn : S.n ≤ 10) : ∃ h', fn320 h = some (0, h') ∧ r_I h' (m_rem S) ∧ (∀ k, k ≠ 139 → k ≠ 144 → h' k = h k) ∧ ∀ j, j ≠ 5 → h' 139 j = h 139 j := by
  obtain ⟨h1, ⟨h2, h3⟩, h4, h5⟩ := hI
  have tail : ∀ (n : Nat) (g : q_F) (Q : Nat → Nat → Int), n ≤ 9 → g 139 5 = (n : Int) → g 140 = S.w → (∀ k, k < n → ∀ j, j < 122 → g 144 (122 * k + j) = Q k j) → ∃ g', fn320_36 g = some (0, g') ∧ g' 139 5 = ((n + 1 : Nat) : Int) ∧ (∀ k, k < n → ∀ j, j < 122 → g' 144 (122 * k + j) = Q k j) ∧ (∀ j, j < 122 → g' 144 (122 * n + j) = S.w j) ∧ (∀ k, k ≠ 139 → k ≠ 144 → g' k = g k) ∧ ∀ j, j ≠ 5 → g' 139 j = g 139 j := by
    intro n g Q hn e5 ew hq
    rw [fn320_36, e5, q_w32_id (z := 122 * (n : Int)) (by omega) (by omega), fn249_i (by omega) (by omega) (by omega) (by omega) (by omega) (by omega) (by omega) (by omega), Option.bind_some]
    dsimp only
    rw [m_let, m_sr_n (by omega), e5, q_w32_id (by omega) (by omega), show (0 : Int).toNat = 0 from rfl, show (122 * (n : Int)).toNat = 122 * n by omega, show (122 : Int).toNat = 122 from rfl, ew]
    refine ⟨_, rfl, by rw [q_ud_s]; omega, fun k hk j hj => ?_, fun j hj => ?_, fun k k1 k2 => ?_, fun j hj => ?_⟩
    · rw [q_ud_n (by omega), m_sr_s]; unfold m_cp; rw [if_neg (by omega)]; exact hq k hk j hj
    · rw [q_ud_n (by omega), m_sr_s]; unfold m_cp; rw [if_pos (by omega)]; congr 1; omega
    · funext j; rw [q_ud_n (by omega), m_sr_n k2]
    · rw [q_ud_n (by omega), m_sr_n (by omega)]
  rw [fn320]
  by_cases e : S.n = 10
  · rw [if_pos (by omega), fn249_i (by omega) (by omega) (by omega) (by omega) (by omega) (by omega) (by omega) (by omega), Option.bind_some]
    dsimp only
    rw [m_let, m_sr_n (by omega), h2, q_w32_id (by omega) (by omega), show (0 : Int).toNat = 0 from rfl, show (122 : Int).toNat = 122 from rfl, show (1098 : Int).toNat = 1098 from rfl]
    obtain ⟨g', g1, g2, g3, g4, g5, g6⟩ := tail 9 (q_ud (m_sr h 144 (m_cp (h 144) (h 144) 122 0 1098)) 139 5 ((S.n : Int) - 1)) (fun k => S.P (k + 1)) (by omega) (by rw [q_ud_s]; omega) (by funext j; rw [q_ud_n (by omega), m_sr_n (by omega), h1]) (fun k hk j hj => by
      rw [q_ud_n (by omega), m_sr_s]; unfold m_cp; rw [if_pos (by omega), ← h3 (k + 1) (by omega) j hj]; congr 1; omega)
    refine ⟨g', g1, ⟨?_, ⟨?_, fun k hk j hj => ?_⟩, ?_, fun hs j hj => ?_⟩, fun k k1 k2 => ?_, fun j hj => ?_⟩
    · rw [g5 140 (by omega) (by omega)]; funext j; rw [q_ud_n (by omega), m_sr_n (by omega), h1]; rfl
    · rw [g2]; show _ = ((if S.n = 10 then 10 else S.n + 1 : Nat) : Int); rw [if_pos e]
    · have hk' : k < (if S.n = 10 then 10 else S.n + 1) := hk
      rw [if_pos e] at hk'
      show _ = (if S.n = 10 then (if k < 9 then S.P (k + 1) else S.w) else (if k = S.n then S.w else S.P k)) j
      rw [if_pos e]
      by_cases e2 : k < 9
      · rw [if_pos e2]; exact g3 k e2 j hj
      · rw [if_neg e2, show k = 9 by omega]; exact g4 j hj
    · rw [g6 6 (by omega), q_ud_n (by omega), m_sr_n (by omega)]; exact h4
    · rw [g5 143 (by omega) (by omega), q_ud_n (by omega), m_sr_n (by omega)]; exact h5 hs j hj
    · rw [g5 k k1 k2]; funext j; rw [q_ud_n (by omega), m_sr_n k2]
    · rw [g6 j hj, q_ud_n (by omega), m_sr_n (by omega)]
  · rw [if_neg (by omega)]
    obtain ⟨g', g1, g2, g3, g4, g5, g6⟩ := tail S.n h S.P (by omega) h2 h1 h3
    refine ⟨g', g1, ⟨?_, ⟨?_, fun k hk j hj => ?_⟩, ?_, fun hs j hj => ?_⟩, g5, g6⟩
    · rw [g5 140 (by omega) (by omega), h1]; rfl
    · rw [g2]; show _ = ((if S.n = 10 then 10 else S.n + 1 : Nat) : Int); rw [if_neg e]
    · have hk' : k < (if S.n = 10 then 10 else S.n + 1) := hk
      rw [if_neg e] at hk'
      show _ = (if S.n = 10 then (if k < 9 then S.P (k + 1) else S.w) else (if k = S.n then S.w else S.P k)) j
      rw [if_neg e]
      by_cases e2 : k = S.n
      · rw [if_pos e2]; subst e2; exact g4 j hj
      · rw [if_neg e2]; exact g3 k (by omega) j hj
    · rw [g6 6 (by omega)]; exact h4
    · rw [g5 143 (by omega) (by omega)]; exact h5 hs j hj
end -- [76.state]
section -- [77.ops]
/-! Part 77: calls that change settings, on both sides. -/
def m_set (S : m_St) (w' : Nat → Int) : m_St := m_mkS w' S.n S.P S.sv S.ws
theorem m_I_set {S : m_St} {w' : Nat → Int} (h : m_I S) (hw : m_RI w') : m_I (m_set S w') := ⟨hw, h.2.1, h.2.2.1, h.2.2.2⟩
theorem c_I_set {h h' : q_F} {S : m_St} {w' : Nat → Int} (hI : c_I h S) (f : c_ft 6 h h') (hc : c_tb h' 6 w') : c_I h' (m_set S w') := by
  obtain ⟨h1, ⟨h2, h3, h4, h5⟩, h6, h7⟩ := hI
  refine ⟨hc, ⟨?_, ?_, ?_, fun k hk => ?_⟩, ?_, fun hs => c_tb_k (h7 hs) fun k k1 k2 => f k (by omega)⟩
  · rw [f 33 (by omega)]; exact h2
  · rw [f 33 (by omega)]; exact h3
  · rw [f 33 (by omega)]; exact h4
  · rw [f 33 (by omega)]; exact c_tb_k (h5 k hk) fun k k1 k2 => f k (by omega)
  · rw [f 0 (by omega)]; exact h6
theorem r_I_set {h : q_F} {S : m_St} {w' : Nat → Int} (hI : r_I h S) : r_I (m_sr h 140 w') (m_set S w') := by
  obtain ⟨h1, ⟨h2, h3⟩, h4, h5⟩ := hI
  refine ⟨m_sr_s _ _ _, ⟨?_, ?_⟩, ?_, ?_⟩
  · rw [m_sr_n (by omega)]; exact h2
  · rw [m_sr_n (by omega)]; exact h3
  · rw [m_sr_n (by omega)]; exact h4
  · rw [m_sr_n (by omega)]; exact h5
/-- what a call of the class leaves alone: the input, what the text said, the reference -/
def c_F (h h' : q_F) : Prop := ∀ k, k = 1 ∨ k = 2 ∨ k = 3 ∨ 139 ≤ k → h' k = h k
theorem c_F_t {h h1 h2 : q_F} (f : c_F h h1) (g : c_F h1 h2) : c_F h h2 := fun k hk => (g k hk).trans (f k hk)
theorem c_F_ft {h h' : q_F} (f : c_ft 6 h h') : c_F h h' := fun k hk => f k (by omega)
theorem c_F_rem {h h' : q_F} (f : ∀ k, k < 33 ∨ 125 ≤ k → h' k = h k) : c_F h h' := fun k hk => f k (by omega)
theorem c_F_fp {h h' : q_F} (f : c_fp h h') : c_F h h' := fun k hk => f k (by omega)
theorem c_F_r {h : q_F} : c_F h h := fun _ _ => rfl
/-- what a call of the reference leaves alone -/
def r_F (h h' : q_F) : Prop := (∀ k, k < 139 ∨ k = 150 ∨ 152 ≤ k → h' k = h k) ∧ ∀ j, j = 14 ∨ j = 15 ∨ j = 16 ∨ j = 27 → h' 139 j = h 139 j
theorem r_F_t {h h1 h2 : q_F} (f : r_F h h1) (g : r_F h1 h2) : r_F h h2 := ⟨fun k hk => (g.1 k hk).trans (f.1 k hk), fun j hj => (g.2 j hj).trans (f.2 j hj)⟩
theorem r_F_r {h : q_F} : r_F h h := ⟨fun _ _ => rfl, fun _ _ => rfl⟩
theorem r_F_sr {h : q_F} {k : Nat} {w : Nat → Int} (hk : 140 ≤ k ∧ k < 152 ∧ k ≠ 150) : r_F h (m_sr h k w) := ⟨fun i hi => m_sr_n (by omega), fun j _ => by rw [m_sr_n (by omega)]⟩
theorem r_F_ud {h : q_F} {j : Nat} {v : Int} (hj : j ≠ 14 ∧ j ≠ 15 ∧ j ≠ 16 ∧ j ≠ 27) : r_F h (q_ud h 139 j v) := ⟨fun i hi => by funext j'; rw [q_ud_n (by omega)], fun i hi => by rw [q_ud_n (by omega)]⟩
theorem r_F_rem {h h' : q_F} (f : ∀ k, k ≠ 139 → k ≠ 144 → h' k = h k) (g : ∀ j, j ≠ 5 → h' 139 j = h 139 j) : r_F h h' := ⟨fun k hk => f k (by omega) (by omega), fun j hj => g j (by omega)⟩
theorem r_F_fq {h h' : q_F} (f : m_fq h h') : r_F h h' := ⟨fun k hk => f k (by omega) (by omega), fun j hj => by rw [f 139 (by omega) (by omega)]⟩
/-- only what was thrown has changed -/
def r_T (h h' : q_F) : Prop := ∀ k j, ¬ (k = 139 ∧ j = 7) → h' k j = h k j
theorem r_T_r {h : q_F} : r_T h h := fun _ _ _ => rfl
theorem r_T_u {h h' : q_F} {v : Int} (f : r_T h h') : r_T h (q_ud h' 139 7 v) := fun k j hk => by rw [q_ud_n hk]; exact f k j hk
theorem r_T_t {h h1 h2 : q_F} (f : r_T h h1) (g : r_T h1 h2) : r_T h h2 := fun k j hk => (g k j hk).trans (f k j hk)
theorem r_T_F {h h' : q_F} (f : r_T h h') : r_F h h' := ⟨fun k hk => by funext j; exact f k j (by omega), fun j hj => f 139 j (by omega)⟩
theorem r_T_row {h h' : q_F} (f : r_T h h') {k : Nat} (hk : k ≠ 139) : h' k = h k := by funext j; exact f k j (by omega)
theorem r_I_T {h h' : q_F} {S : m_St} (hI : r_I h S) (f : r_T h h') : r_I h' S := r_I_k hI (fun k hk => r_T_row f (by omega)) (f 139 5 (by omega)) (f 139 6 (by omega))
theorem r_fails (c code : Int) (h : q_F) : ∃ h', fn258 c code h = some (c, h') ∧ r_T h h' := by
  unfold fn258; split
  · exact ⟨h, rfl, r_T_r⟩
  · exact ⟨_, rfl, r_T_u r_T_r⟩
theorem r_rng (v a b : Int) (h : q_F) : fn267 v a b h = some (if a ≤ v ∧ v ≤ b then 1 else 0) := by
  unfold fn267
  by_cases c1 : v < a
  · rw [if_pos c1, if_neg (by omega)]
  · rw [if_neg c1]
    by_cases c2 : b < v
    · rw [if_pos c2, if_neg (by omega)]
    · rw [if_neg c2, if_pos (by omega)]
theorem r_noAxis (v : Int) (h : q_F) : ∃ h', fn298 v h = some (if 0 ≤ v ∧ v ≤ 2 then 0 else 1, h') ∧ r_T h h' := by
  unfold fn298
  rw [m_let, r_rng, Option.bind_some]
  by_cases c : 0 ≤ v ∧ v ≤ 2
  · rw [if_pos c, if_neg (by decide), if_pos c, fn298_23]
    obtain ⟨h', g1, g2⟩ := r_fails 0 1 (q_ud h 139 7 0)
    exact ⟨h', by rw [g1, Option.bind_some], r_T_t (r_T_u r_T_r) g2⟩
  · rw [if_neg c, if_pos rfl, if_neg c, fn298_23]
    obtain ⟨h', g1, g2⟩ := r_fails 1 1 (q_ud h 139 7 0)
    exact ⟨h', by rw [g1, Option.bind_some], r_T_t (r_T_u r_T_r) g2⟩
theorem r_noMove {h : q_F} (v : Int) (h4 : 0 ≤ h 140 4 ∧ h 140 4 ≤ 16) : ∃ h', fn299 v h = some (if 0 ≤ v ∧ v < h 140 4 then 0 else 1, h') ∧ r_T h h' := by
  unfold fn299
  rw [m_let, r_rng, Option.bind_some, q_ud_n (by omega), q_w64_id (by omega) (by omega)]
  by_cases c : 0 ≤ v ∧ v < h 140 4
  · rw [if_pos (show 0 ≤ v ∧ v ≤ h 140 4 - 1 by omega), if_neg (by decide), if_pos c, fn299_28]
    obtain ⟨h', g1, g2⟩ := r_fails 0 1 (q_ud h 139 7 0)
    exact ⟨h', by rw [g1, Option.bind_some], r_T_t (r_T_u r_T_r) g2⟩
  · rw [if_neg (show ¬ (0 ≤ v ∧ v ≤ h 140 4 - 1) by omega), if_pos rfl, if_neg c, fn299_28]
    obtain ⟨h', g1, g2⟩ := r_fails 1 1 (q_ud h 139 7 0)
    exact ⟨h', by rw [g1, Option.bind_some], r_T_t (r_T_u r_T_r) g2⟩
theorem r_of {z : Int} {h : q_F} {v : Int} (h0 : 0 ≤ z) (h1 : z < 122) (e : h 140 z.toNat = v) (hv : -2147483648 ≤ v ∧ v < 2147483648) : fn303 z h = some v := by
  rw [fn303_i h0 h1, e, q_w32_id hv.1 hv.2]
/-- how a call of the class ends -/
def c_E (f : Option (Nat × Int × q_F)) (h : q_F) (S' : m_St) (K : Nat → Prop) : Prop := ∃ k v h', f = some (k, v, h') ∧ K k ∧ c_I h' S' ∧ c_F h h'
def c_W (f : Option (Int × q_F)) (h : q_F) (S' : m_St) : Prop := ∃ v h', f = some (v, h') ∧ c_I h' S' ∧ c_F h h'
def r_W (f : Option (Int × q_F)) (h : q_F) (S' : m_St) : Prop := ∃ v h', f = some (v, h') ∧ r_I h' S' ∧ r_F h h'
-- reset
def m_oReset (S : m_St) : m_St := m_set (m_rem S) (m_stops (m_u S.w 3 0))
theorem m_R0_stops {w : Nat → Int} (h : m_R0 w) : m_R0 (m_stops w) := by
  have z : ∀ j, j = 4 ∨ j = 41 ∨ j = 42 ∨ j = 43 → m_pv j 0 := fun j hj => by
    unfold m_pv
    refine ⟨?_, ?_, ?_, ?_, ?_, ?_, ?_, ?_, ?_, ?_⟩ <;> intro h9 <;> omega
  exact m_R0_v (m_R0_v (m_R0_v (m_R0_v h (z 4 (by omega)) (by omega)) (z 41 (by omega)) (by omega)) (z 42 (by omega)) (by omega)) (z 43 (by omega)) (by omega)
theorem m_pv_3 {v : Int} (h : 0 ≤ v ∧ v ≤ 3) : m_pv 3 v := by
  unfold m_pv
  refine ⟨?_, ?_, ?_, ?_, ?_, ?_, ?_, ?_, ?_, ?_⟩ <;> intro h9 <;> omega
theorem m_I_reset {S : m_St} (h : m_I S) : m_I (m_oReset S) := m_I_set (m_I_rem h) ⟨m_R0_stops (m_R0_v h.1.1 (m_pv_3 (by omega)) (by omega)), m_stops_nn _⟩
theorem c_reset {h : q_F} {S : m_St} (hI : c_I h S) (hm : m_I S) : c_W (fn205 h) h (m_oReset S) := by
  obtain ⟨h1, a1, a2, a3⟩ := c_remember hI hm
  obtain ⟨h2, b1, b2, b3⟩ := c_stop (v := 0) a2.1
  refine ⟨_, h2, by rw [fn205, a1, Option.bind_some, b1, Option.bind_some], c_I_set a2 b3 b2, c_F_t (c_F_rem a3) (c_F_ft b3)⟩
theorem m_set_sr {h : q_F} {S : m_St} {w' : Nat → Int} (hI : r_I h S) (e : w' = S.w) : r_I (m_sr h 140 w') S := by
  rw [e, ← hI.1, m_sr_id]; exact hI
theorem r_reset {h : q_F} {S : m_St} (hI : r_I h S) (hm : m_I S) : r_W (fn321 h) h (m_oReset S) := by
  have hT : r_T h (q_ud h 139 7 0) := r_T_u r_T_r
  obtain ⟨h1, a1, a2, a3, a4⟩ := r_remember (r_I_T hI hT) hm.2.1.1
  have F := r_F_t (r_T_F hT) (r_F_rem a3 a4)
  have e3 := (hm.1.1.1 3 (by omega)).2.2.1 rfl
  have ew : h1 140 = S.w := a2.1
  refine ⟨S.w 3, m_sr h1 140 (m_stops (m_u S.w 3 0)), ?_, r_I_set a2, r_F_t F (r_F_sr (by omega))⟩
  rw [fn321, m_let, a1, Option.bind_some]
  dsimp only
  rw [r_of (v := S.w 3) (by omega) (by omega) (by rw [ew]; rfl) (by omega), Option.bind_some, m_let, m_ud_sr, fn342_m, Option.bind_some, m_sr_s, m_sr_sr, ew]
-- setCompensation, setDetection
def m_oSet (j : Nat) (v : Int) (S : m_St) : m_St := m_set (m_rem S) (m_u S.w j v)
theorem m_pv_12 {j : Nat} {v : Int} (hj : j = 1 ∨ j = 2) (h : v = 0 ∨ v = 1) : m_pv j v := by
  unfold m_pv
  refine ⟨?_, ?_, ?_, ?_, ?_, ?_, ?_, ?_, ?_, ?_⟩ <;> intro h9 <;> omega
theorem m_nn_u {w : Nat → Int} {j : Nat} {v : Int} (h : m_nn w) (hj : j ≠ 4 ∧ (j < 47 ∨ 49 < j) ∧ j < 74) : m_nn (m_u w j v) := by
  intro m hm
  rw [m_u_n (by omega)] at hm
  have g := h m hm
  have b : ∀ k a, a < 3 → m_beg (m_u w j v) k a = m_beg w k a := fun k a ha => by
    unfold m_beg; split <;> exact m_u_n (by omega)
  unfold m_mv m_d at g ⊢
  rw [b _ 0 (by omega), b _ 1 (by omega), b _ 2 (by omega), b _ 0 (by omega), b _ 1 (by omega), b _ 2 (by omega)]
  exact g
theorem m_I_oSet {S : m_St} {j : Nat} {v : Int} (h : m_I S) (hv : m_pv j v) (hj : j < 4 ∨ (38 ≤ j ∧ j ≤ 40)) : m_I (m_oSet j v S) := m_I_set (m_I_rem h) ⟨m_R0_v h.1.1 hv (by omega), m_nn_u h.1.2 (by omega)⟩
theorem c_setC {h : q_F} {S : m_St} {v : Int} (hI : c_I h S) (hm : m_I S) : c_W (fn210 v h) h (m_oSet 1 v S) := by
  obtain ⟨h1, a1, a2, a3⟩ := c_remember hI hm
  have f : c_ft 6 h1 (q_ud h1 6 5 v) := c_ft_u c_ft_r (by omega) (by omega)
  exact ⟨_, q_ud h1 6 5 v, by rw [fn210, a1, Option.bind_some, m_let], c_I_set a2 f (c_tb_u (j := 5) (by omega) a2.1), c_F_t (c_F_rem a3) (c_F_ft f)⟩
theorem c_setD {h : q_F} {S : m_St} {v : Int} (hI : c_I h S) (hm : m_I S) : c_W (fn211 v h) h (m_oSet 2 v S) := by
  obtain ⟨h1, a1, a2, a3⟩ := c_remember hI hm
  have f : c_ft 6 h1 (q_ud h1 6 6 v) := c_ft_u c_ft_r (by omega) (by omega)
  exact ⟨_, q_ud h1 6 6 v, by rw [fn211, a1, Option.bind_some, m_let], c_I_set a2 f (c_tb_u (j := 6) (by omega) a2.1), c_F_t (c_F_rem a3) (c_F_ft f)⟩
theorem r_sets {h : q_F} {S : m_St} {j : Nat} {v : Int} (hj : j < 122) (hv : v = 0 ∨ v = 1) (hI : r_I h S) (hm : m_I S) : r_W (fn332 j v h) h (m_oSet j v S) := by
  have hT : r_T h (q_ud h 139 7 0) := r_T_u r_T_r
  obtain ⟨h1, a1, a2, a3, a4⟩ := r_remember (r_I_T hI hT) hm.2.1.1
  have F := r_F_t (r_T_F hT) (r_F_rem a3 a4)
  have key : ∀ p0 : Int, fn332_25 (j : Int) v p0 h1 = some (p0, m_sr h1 140 (m_u S.w j v)) := fun p0 => by
    rw [fn332_25]
    rcases hv with rfl | rfl
    · rw [if_pos rfl, fn332_40, if_pos (by omega), m_let, m_ud_sr, Int.toNat_natCast, a2.1]; rfl
    · rw [if_neg (by decide), fn332_40, if_pos (by omega), m_let, m_ud_sr, Int.toNat_natCast, a2.1]; rfl
  have R : r_I (m_sr h1 140 (m_u S.w j v)) (m_oSet j v S) := r_I_set a2
  have F2 := r_F_t F (r_F_sr (h := h1) (k := 140) (w := m_u S.w j v) (by omega))
  unfold fn332
  rw [m_let, a1, Option.bind_some, if_pos (by omega)]
  dsimp only
  rw [key, key]
  split
  · exact ⟨_, _, rfl, R, F2⟩
  · exact ⟨_, _, rfl, R, F2⟩
theorem r_setC {h : q_F} {S : m_St} {v : Int} (hv : v = 0 ∨ v = 1) (hI : r_I h S) (hm : m_I S) : r_W (fn328 v h) h (m_oSet 1 v S) := by
  obtain ⟨x, h', g1, g2, g3⟩ := r_sets (j := 1) (by omega) hv hI hm
  exact ⟨x, h', by rw [fn328]; exact (congrArg (fun z => Option.bind z fun x1 => some (x1.1, x1.2)) g1), g2, g3⟩
theorem r_setD {h : q_F} {S : m_St} {v : Int} (hv : v = 0 ∨ v = 1) (hI : r_I h S) (hm : m_I S) : r_W (fn329 v h) h (m_oSet 2 v S) := by
  obtain ⟨x, h', g1, g2, g3⟩ := r_sets (j := 2) (by omega) hv hI hm
  exact ⟨x, h', by rw [fn329]; exact (congrArg (fun z => Option.bind z fun x1 => some (x1.1, x1.2)) g1), g2, g3⟩
-- setStart
def m_oStart (v : Int) (S : m_St) : m_St := if 1 ≤ v ∧ v ≤ 1000 then m_oSet 0 v S else S
theorem m_pv_0 {v : Int} (h : 1 ≤ v ∧ v ≤ 1000) : m_pv 0 v := by
  unfold m_pv
  refine ⟨?_, ?_, ?_, ?_, ?_, ?_, ?_, ?_, ?_, ?_⟩ <;> intro h9 <;> omega
theorem m_I_start {S : m_St} {v : Int} (h : m_I S) : m_I (m_oStart v S) := by
  unfold m_oStart; split
  · rename_i c; exact m_I_oSet h (m_pv_0 c) (by omega)
  · exact h
theorem c_setStart {h : q_F} {S : m_St} {v : Int} (hI : c_I h S) (hm : m_I S) : c_E (fn212 v h) h (m_oStart v S) (fun k => k = 1 ∨ k = 2) := by
  unfold m_oStart fn212
  by_cases c : 1 ≤ v ∧ v ≤ 1000
  · rw [if_neg (show ¬ v < 1 by omega), if_pos c.2, if_pos c]
    obtain ⟨h1, a1, a2, a3⟩ := c_remember hI hm
    have f : c_ft 6 h1 (q_ud h1 6 4 v) := c_ft_u c_ft_r (by omega) (by omega)
    exact ⟨1, _, q_ud h1 6 4 v, by rw [a1, Option.bind_some, m_let], Or.inl rfl, c_I_set a2 f (c_tb_u (j := 4) (by omega) a2.1), c_F_t (c_F_rem a3) (c_F_ft f)⟩
  · rw [if_neg c]
    refine ⟨2, 0, h, ?_, Or.inr rfl, hI, c_F_r⟩
    rw [fn212_12]; (repeat' split) <;> first | rfl | omega
theorem r_setStart {h : q_F} {S : m_St} {v : Int} (hI : r_I h S) (hm : m_I S) : r_W (fn330 v h) h (m_oStart v S) := by
  have hT : r_T h (q_ud h 139 7 0) := r_T_u r_T_r
  unfold m_oStart fn330
  rw [m_let, r_rng, Option.bind_some]
  by_cases c : 1 ≤ v ∧ v ≤ 1000
  · rw [if_pos c, if_neg (by decide), if_pos c, fn330_23]
    obtain ⟨h0, t1, t2⟩ := r_fails 0 1 (q_ud h 139 7 0)
    have hT2 := r_T_t hT t2
    obtain ⟨h1, a1, a2, a3, a4⟩ := r_remember (r_I_T hI hT2) hm.2.1.1
    have F := r_F_t (r_T_F hT2) (r_F_rem a3 a4)
    have e0 := (hm.1.1.1 0 (by omega)).1 rfl
    rw [t1, Option.bind_some, if_pos rfl, a1, Option.bind_some]
    dsimp only
    rw [r_of (v := S.w 0) (by omega) (by omega) (by rw [a2.1]; rfl) (by omega), Option.bind_some, m_let, m_ud_sr, a2.1]
    exact ⟨_, _, rfl, r_I_set a2, r_F_t F (r_F_sr (by omega))⟩
  · rw [if_neg c, if_pos rfl, if_neg c, fn330_23]
    obtain ⟨h0, t1, t2⟩ := r_fails 1 1 (q_ud h 139 7 0)
    have hT2 := r_T_t hT t2
    rw [t1, Option.bind_some, if_neg (show ¬ (1 : Int) = 0 by decide)]
    exact ⟨_, _, rfl, r_I_T hI hT2, r_T_F hT2⟩
-- setStuck
def m_oStuck (a v : Int) (S : m_St) : m_St := if 0 ≤ a ∧ a ≤ 2 then (if 0 ≤ v ∧ v ≤ 2 then m_oSet (38 + a.toNat) v S else S) else S
theorem m_pv_38 {j : Nat} {v : Int} (hj : 38 ≤ j ∧ j ≤ 40) (h : 0 ≤ v ∧ v ≤ 2) : m_pv j v := by
  unfold m_pv
  refine ⟨?_, ?_, ?_, ?_, ?_, ?_, ?_, ?_, ?_, ?_⟩ <;> intro h9 <;> omega
theorem m_I_stuck {S : m_St} {a v : Int} (h : m_I S) : m_I (m_oStuck a v S) := by
  unfold m_oStuck; split
  · split
    · rename_i c2; exact m_I_oSet h (m_pv_38 (by omega) c2) (by omega)
    · exact h
  · exact h
theorem c_axis (a : Int) (h : q_F) : fn162 a h = some (if 0 ≤ a ∧ a ≤ 2 then 0 else 3, 0, h) := by
  unfold fn162 fn162_9
  by_cases c1 : a < 0
  · rw [if_pos c1, if_neg (show ¬ (0 ≤ a ∧ a ≤ 2) by omega)]
  · rw [if_neg c1]
    by_cases c2 : a < 3
    · rw [if_pos c2, if_pos (show 0 ≤ a ∧ a ≤ 2 by omega)]
    · rw [if_neg c2, if_neg (show ¬ (0 ≤ a ∧ a ≤ 2) by omega)]
theorem m_ax_n {a : Int} (h : 0 ≤ a ∧ a ≤ 2) : ∃ n : Nat, n < 3 ∧ a = n := ⟨a.toNat, by omega, by omega⟩
theorem c_setStuck {h : q_F} {S : m_St} {a v : Int} (hI : c_I h S) (hm : m_I S) : c_E (fn213 a v h) h (m_oStuck a v S) (fun k => k = 1 ∨ k = 2 ∨ k = 3) := by
  unfold m_oStuck fn213
  rw [c_axis, Option.bind_some]
  by_cases ca : 0 ≤ a ∧ a ≤ 2
  · rw [if_pos ca, if_pos ca]
    dsimp only
    rw [if_pos rfl]
    by_cases c : 0 ≤ v ∧ v ≤ 2
    · rw [if_neg (show ¬ v < 0 by omega), if_pos c.2, if_pos c]
      obtain ⟨n, hn, rfl⟩ := m_ax_n ca
      obtain ⟨h1, a1, a2, a3⟩ := c_remember hI hm
      rw [a1, Option.bind_some, m_let, q_axn_e hn]
      have f : c_ft 6 h1 (q_ud h1 (6 + 1 + 2 * n) 9 v) := c_ft_u c_ft_r (by omega) (by omega)
      exact ⟨1, _, _, rfl, Or.inl rfl, c_I_set a2 f (c_tb_f (j := 9) hn (by omega) a2.1), c_F_t (c_F_rem a3) (c_F_ft f)⟩
    · rw [if_neg c]
      refine ⟨2, 0, h, ?_, Or.inr (Or.inl rfl), hI, c_F_r⟩
      rw [fn213_14]; (repeat' split) <;> first | rfl | omega
  · rw [if_neg ca, if_neg ca]
    exact ⟨3, 0, h, rfl, Or.inr (Or.inr rfl), hI, c_F_r⟩
theorem r_setStuck {h : q_F} {S : m_St} {a v : Int} (hI : r_I h S) (hm : m_I S) : r_W (fn331 a v h) h (m_oStuck a v S) := by
  obtain ⟨h0, t1, t2⟩ := r_noAxis a h
  unfold m_oStuck fn331
  rw [t1, Option.bind_some]
  by_cases ca : 0 ≤ a ∧ a ≤ 2
  · rw [if_pos ca, if_pos ca]
    dsimp only
    rw [if_pos rfl, r_rng, Option.bind_some]
    obtain ⟨n, hn, rfl⟩ := m_ax_n ca
    by_cases c : 0 ≤ v ∧ v ≤ 2
    · rw [if_pos c, if_neg (by decide), if_pos c, fn331_26]
      obtain ⟨h9, s1, s2⟩ := r_fails 0 2 h0
      have hT := r_T_t t2 s2
      obtain ⟨h1, a1, a2, a3, a4⟩ := r_remember (r_I_T hI hT) hm.2.1.1
      have F := r_F_t (r_T_F hT) (r_F_rem a3 a4)
      have e0 := (hm.1.1.1 (38 + n) (by omega)).2.2.2.2.1 (by omega)
      rw [s1, Option.bind_some, if_pos rfl, a1, Option.bind_some]
      dsimp only
      rw [q_w32_id (z := 38 + (n : Int)) (by omega) (by omega), r_of (v := S.w (38 + n)) (by omega) (by omega) (by rw [a2.1, show (38 + (n : Int)).toNat = 38 + n by omega]; rfl) (by omega), Option.bind_some, if_pos (by omega), m_let, m_ud_sr, a2.1, show (38 + (n : Int)).toNat = 38 + n by omega, Int.toNat_natCast]
      exact ⟨_, _, rfl, r_I_set a2, r_F_t F (r_F_sr (by omega))⟩
    · rw [if_neg c, if_pos rfl, if_neg c, fn331_26]
      obtain ⟨h9, s1, s2⟩ := r_fails 1 2 h0
      have hT := r_T_t t2 s2
      rw [s1, Option.bind_some, if_neg (show ¬ (1 : Int) = 0 by decide)]
      exact ⟨_, _, rfl, r_I_T hI hT, r_T_F hT⟩
  · rw [if_neg ca, if_neg ca]
    exact ⟨_, _, rfl, r_I_T hI t2, r_T_F t2⟩
end -- [77.ops]
section -- [78.ops]
/-! Part 78: homing, jogging, unqueueing on both sides. -/
theorem m_skl_a3 {a : Nat} {c d t : Int} (ha : a < 3) (hd : d = 1 ∨ d = -1) : ∀ (n : Nat) (w : Nat → Int), m_a3 w → m_a3 (m_skl a c d t n w).2 := by
  intro n
  induction n with
  | zero => intro w h; exact h
  | succ n ih =>
    intro w h
    unfold m_skl; split
    · exact h
    · exact ih _ (m_a3_u (m_step_a3 ha h hd) (by omega))
theorem m_pv_41 {j : Nat} {v : Int} (hj : 41 ≤ j ∧ j ≤ 43) (h : v = 0 ∨ v = 1) : m_pv j v := by
  unfold m_pv
  refine ⟨?_, ?_, ?_, ?_, ?_, ?_, ?_, ?_, ?_, ?_⟩ <;> intro h9 <;> omega
theorem m_pv_47 {j : Nat} {v : Int} (hj : (47 ≤ j ∧ j ≤ 52) ∨ (74 ≤ j ∧ j < 122)) (h : 0 ≤ v ∧ v ≤ 2000) : m_pv j v := by
  unfold m_pv
  refine ⟨?_, ?_, ?_, ?_, ?_, ?_, ?_, ?_, ?_, ?_⟩ <;> intro h9 <;> omega
theorem m_pv_4 {v : Int} (h : 0 ≤ v ∧ v ≤ 16) : m_pv 4 v := by
  unfold m_pv
  refine ⟨?_, ?_, ?_, ?_, ?_, ?_, ?_, ?_, ?_, ?_⟩ <;> intro h9 <;> omega
theorem m_R0_seek {w : Nat → Int} {a : Nat} {c d t : Int} (h : m_R0 w) (ha : a < 3) (hd : d = 1 ∨ d = -1) : m_R0 (m_seek a c d t w).2 := m_R0_fr h (m_seek_fr ha c d t w) (m_skl_a3 ha hd _ _ h.2)
theorem m_R0_hf {w : Nat → Int} {a : Nat} {al : Int} (h : m_R0 w) (hal : 0 ≤ al ∧ al ≤ 3) (ha : a < 3) : m_R0 (m_hf a al w) := m_R0_w (m_R0_v h (m_pv_3 hal) (by omega)) (by omega)
theorem m_R0_ho {w : Nat → Int} {a : Nat} (h : m_R0 w) (ha : a < 3) : m_R0 (m_ho a w) := by
  have i := (m_a3_i h.2 ha).2.1
  exact m_R0_w (m_R0_v (m_R0_v (m_R0_v h (m_pv_41 (by omega) (Or.inr rfl)) (by omega)) (m_pv_47 (by omega) (by omega)) (by omega)) (m_pv_47 (by omega) (by omega)) (by omega)) (by omega)
theorem m_R0_home {w : Nat → Int} {a : Nat} (h : m_R0 w) (ha : a < 3) : m_R0 (m_home a w).2 := by
  have h0 : m_R0 (m_u w (41 + a) 0) := m_R0_v h (m_pv_41 (by omega) (Or.inl rfl)) (by omega)
  unfold m_home
  dsimp only
  split
  · exact m_R0_hf (m_R0_seek h0 ha (Or.inr rfl)) (by omega) ha
  · split
    · exact m_R0_hf (m_R0_seek (m_R0_seek h0 ha (Or.inr rfl)) ha (Or.inl rfl)) (by omega) ha
    · exact m_R0_ho (m_R0_seek (m_R0_seek h0 ha (Or.inr rfl)) ha (Or.inl rfl)) ha
theorem m_home_4 {w : Nat → Int} {a : Nat} (ha : a < 3) : (m_home a w).2 4 = w 4 := by
  have f : ∀ c d t w, (m_seek a c d t w).2 4 = w 4 := fun c d t w => m_seek_fr ha c d t w 4 (by unfold m_dy; omega)
  unfold m_home
  dsimp only
  split
  · unfold m_hf; dsimp only; rw [m_u_n (by omega), m_u_n (by omega), f, m_u_n (by omega)]
  · split
    · unfold m_hf; dsimp only; rw [m_u_n (by omega), m_u_n (by omega), f, f, m_u_n (by omega)]
    · unfold m_ho; dsimp only; rw [m_u_n (by omega), m_u_n (by omega), m_u_n (by omega), m_u_n (by omega), f, f, m_u_n (by omega)]
theorem m_nn_0 {w : Nat → Int} (h : w 4 = 0) : m_nn w := fun m hm => absurd hm (by omega)
theorem m_RI_home {w : Nat → Int} {a : Nat} (h : m_R0 w) (ha : a < 3) (h4 : w 4 = 0) : m_RI (m_home a w).2 := ⟨m_R0_home h ha, m_nn_0 ((m_home_4 ha).trans h4)⟩
theorem m_seek_5 {w : Nat → Int} {a : Nat} {c d t : Int} (ha : a < 3) (h : q_r64 (w 5)) : q_r64 ((m_seek a c d t w).2 5) := by
  show q_r64 ((m_skl a c d t _ w).2 5)
  rw [m_skl_5 ha _ w h]; exact q_wr64 _
theorem m_home_5 {w : Nat → Int} {a : Nat} (ha : a < 3) (h : q_r64 (w 5)) : q_r64 ((m_home a w).2 5) := by
  have h0 : q_r64 (m_u w (41 + a) 0 5) := by rw [m_u_n (by omega)]; exact h
  unfold m_home
  dsimp only
  split
  · unfold m_hf; dsimp only; rw [m_u_n (by omega), m_u_n (by omega)]; exact m_seek_5 ha h0
  · split
    · unfold m_hf; dsimp only; rw [m_u_n (by omega), m_u_n (by omega)]; exact m_seek_5 ha (m_seek_5 ha h0)
    · unfold m_ho; dsimp only; rw [m_u_n (by omega), m_u_n (by omega), m_u_n (by omega), m_u_n (by omega)]; exact m_seek_5 ha (m_seek_5 ha h0)
theorem m_home_z {w : Nat → Int} {a : Nat} (ok : m_ok w) (ha : a < 3) : (m_home a w).1 = -1 ∨ 0 ≤ (m_home a w).1 := by
  have sz : ∀ c d t u, m_ok u → (m_seek a c d t u).1 = -1 ∨ (0 ≤ (m_seek a c d t u).1 ∧ (m_seek a c d t u).1 ≤ 3000) := fun c d t u ok => by
    have o := ok.2.2.1 a ha
    have n := m_skl_n (a := a) c d t (u (8 + a) + u (11 + a) + 1).toNat u
    unfold m_seek
    dsimp only
    split
    · right; omega
    · exact Or.inl rfl
  have ok0 : m_ok (m_u w (41 + a) 0) := m_u_ok ok (by omega)
  unfold m_home
  dsimp only
  split
  · exact Or.inl rfl
  · rename_i c1
    split
    · exact Or.inl rfl
    · rename_i c2
      have z1 := (sz 1 (-1) (q_ldv 1000000 (w 0)) _ ok0).resolve_left c1
      have z2 := (sz 0 1 (q_w64 (4 * q_ldv 1000000 (w 0))) _ (m_fr_ok ok0 (m_seek_fr ha 1 (-1) (q_ldv 1000000 (w 0)) _))).resolve_left c2
      right
      rw [q_w32_id (by omega) (by omega)]; omega
-- home
def m_busy (S : m_St) : Prop := ¬ (S.w 3 = 0 ∧ S.w 4 = 0)
noncomputable def m_oHome (a : Int) (S : m_St) : m_St := if 0 ≤ a ∧ a ≤ 2 then (if S.w 3 = 0 ∧ S.w 4 = 0 then m_set (m_rem S) (m_home a.toNat S.w).2 else S) else S
theorem m_I_home {S : m_St} {a : Int} (h : m_I S) : m_I (m_oHome a S) := by
  unfold m_oHome; split
  · split
    · rename_i c1 c2
      exact m_I_set (m_I_rem h) (m_RI_home h.1.1 (by omega) c2.2)
    · exact h
  · exact h
theorem c_noAlarm {h : q_F} {S : m_St} (hI : c_I h S) : fn165 h = some (if S.w 3 = 0 then 0 else 4, 0, h) := by
  have e : h 6 7 = S.w 3 := hI.1.2.1.2.2.2.1
  unfold fn165; rw [e]; split <;> rfl
theorem c_qEmpty {h : q_F} {S : m_St} (hI : c_I h S) (hm : m_I S) : fn167 h = some (if S.w 4 = 0 then 0 else 4, 0, h) := by
  have e : h 13 1 = S.w 4 := hI.1.2.2.1
  have r := (m_R0_ok hm.1.1).2.1
  unfold fn167; rw [e]
  by_cases c : S.w 4 = 0
  · rw [if_pos (by omega), if_pos c]
  · rw [if_neg (by omega), if_neg c]
theorem q_T6 : q_isT 6 := by unfold q_isT; decide
theorem c_homeC {h : q_F} {S : m_St} {a : Int} (hI : c_I h S) (hm : m_I S) (h5 : q_r64 (S.w 5)) : c_E (fn180 a h) h (m_oHome a S) (fun k => k = 1 ∨ k = 3 ∨ k = 4) := by
  unfold m_oHome fn180
  rw [c_axis, Option.bind_some]
  by_cases ca : 0 ≤ a ∧ a ≤ 2
  · rw [if_pos ca, if_pos ca]
    dsimp only
    rw [if_pos rfl, c_noAlarm hI, Option.bind_some]
    by_cases c3 : S.w 3 = 0
    · rw [if_pos c3]
      dsimp only
      rw [if_pos rfl, c_qEmpty hI hm, Option.bind_some]
      by_cases c4 : S.w 4 = 0
      · rw [if_pos c4]
        dsimp only
        rw [if_pos rfl, if_pos ⟨c3, c4⟩]
        obtain ⟨n, hn, rfl⟩ := m_ax_n ca
        obtain ⟨h1, a1, a2, a3⟩ := c_remember hI hm
        obtain ⟨h2, b1, b2, b3, b4⟩ := c_home q_T6 hn a2.1 (m_R0_ok hm.1.1) hm.1.1.2 h5
        rw [a1, Option.bind_some, b1, Option.bind_some]
        exact ⟨1, _, h2, rfl, Or.inl rfl, c_I_set a2 b3 b2, c_F_t (c_F_rem a3) (c_F_ft b3)⟩
      · rw [if_neg c4, if_neg (show ¬ (S.w 3 = 0 ∧ S.w 4 = 0) from fun h9 => c4 h9.2)]
        exact ⟨4, 0, h, rfl, Or.inr (Or.inr rfl), hI, c_F_r⟩
    · rw [if_neg c3, if_neg (show ¬ (S.w 3 = 0 ∧ S.w 4 = 0) from fun h9 => c3 h9.1)]
      exact ⟨4, 0, h, rfl, Or.inr (Or.inr rfl), hI, c_F_r⟩
  · rw [if_neg ca, if_neg ca]
    exact ⟨3, 0, h, rfl, Or.inr (Or.inl rfl), hI, c_F_r⟩
theorem r_busy {h : q_F} {S : m_St} (hI : r_I h S) : fn270 h = some (if S.w 3 = 0 ∧ S.w 4 = 0 then 0 else 1) := by
  unfold fn270 fn270_22
  rw [hI.1]
  by_cases c3 : S.w 3 = 0
  · rw [if_pos c3]
    by_cases c4 : S.w 4 = 0
    · rw [if_pos c4, if_pos ⟨c3, c4⟩]
    · rw [if_neg c4, if_neg (show ¬ (S.w 3 = 0 ∧ S.w 4 = 0) from fun h9 => c4 h9.2)]
  · rw [if_neg c3, if_neg (show ¬ (S.w 3 = 0 ∧ S.w 4 = 0) from fun h9 => c3 h9.1)]
theorem r_homeC {h : q_F} {S : m_St} {a : Int} (hI : r_I h S) (hm : m_I S) : r_W (fn263 a h) h (m_oHome a S) := by
  obtain ⟨h0, t1, t2⟩ := r_noAxis a h
  unfold m_oHome fn263
  rw [t1, Option.bind_some]
  by_cases ca : 0 ≤ a ∧ a ≤ 2
  · rw [if_pos ca, if_pos ca]
    dsimp only
    rw [if_pos rfl, r_busy (r_I_T hI t2), Option.bind_some]
    by_cases c : S.w 3 = 0 ∧ S.w 4 = 0
    · rw [if_pos c, if_pos c]
      obtain ⟨h9, s1, s2⟩ := r_fails 0 2 h0
      have hT := r_T_t t2 s2
      obtain ⟨n, hn, rfl⟩ := m_ax_n ca
      obtain ⟨h1, a1, a2, a3, a4⟩ := r_remember (r_I_T hI hT) hm.2.1.1
      have F := r_F_t (r_T_F hT) (r_F_rem a3 a4)
      have ew : h1 140 = S.w := a2.1
      rw [s1, Option.bind_some, if_pos rfl, a1, Option.bind_some]
      dsimp only
      rw [fn266_m hn (by rw [ew]; exact m_R0_ok hm.1.1), Option.bind_some, ew]
      exact ⟨_, _, rfl, r_I_set a2, r_F_t F (r_F_sr (by omega))⟩
    · rw [if_neg c, if_neg c]
      obtain ⟨h9, s1, s2⟩ := r_fails 1 2 h0
      have hT := r_T_t t2 s2
      rw [s1, Option.bind_some, if_neg (show ¬ (1 : Int) = 0 by decide)]
      exact ⟨_, _, rfl, r_I_T hI hT, r_T_F hT⟩
  · rw [if_neg ca, if_neg ca]
    exact ⟨_, _, rfl, r_I_T hI t2, r_T_F t2⟩
-- homeAll
noncomputable def m_ha : Nat → (Nat → Int) → Nat → Int
  | 0, w => w
  | a + 1, w => if (m_home a w).1 = -1 then (m_home a w).2 else m_ha a (m_home a w).2
noncomputable def m_oHomeAll (S : m_St) : m_St := if S.w 3 = 0 ∧ S.w 4 = 0 then m_set (m_rem S) (m_ha 3 S.w) else S
theorem m_RI_ha : ∀ (n : Nat) (w : Nat → Int), n ≤ 3 → m_RI w → w 4 = 0 → m_RI (m_ha n w) := by
  intro n
  induction n with
  | zero => intro w _ h _; exact h
  | succ n ih =>
    intro w hn h h4
    have g := m_RI_home h.1 (show n < 3 by omega) h4
    unfold m_ha; split
    · exact g
    · exact ih _ (by omega) g ((m_home_4 (by omega)).trans h4)
theorem m_I_homeAll {S : m_St} (h : m_I S) : m_I (m_oHomeAll S) := by
  unfold m_oHomeAll; split
  · rename_i c; exact m_I_set (m_I_rem h) (m_RI_ha 3 _ (by omega) h.1 c.2)
  · exact h
theorem c_ha : ∀ (n f : Nat) (s : Int) (h : q_F) (w : Nat → Int), n ≤ 3 → n < f → c_tb h 6 w → m_RI w → w 4 = 0 → q_r64 (w 5) → ∃ v h', fn181_23 f s ((n : Int) - 1) h = some (1, v, h') ∧ c_tb h' 6 (m_ha n w) ∧ c_ft 6 h h' := by
  intro n
  induction n with
  | zero =>
    intro f s h w hn hf hc _ _ _
    obtain ⟨f, rfl⟩ : ∃ f', f = f' + 1 := ⟨f - 1, by omega⟩
    exact ⟨s, h, by rw [fn181_23, if_pos (by omega)], hc, c_ft_r⟩
  | succ n ih =>
    intro f s h w hn hf hc hR h4 h5
    obtain ⟨f, rfl⟩ : ∃ f', f = f' + 1 := ⟨f - 1, by omega⟩
    have hn3 : n < 3 := by omega
    obtain ⟨h2, b1, b2, b3, b4⟩ := c_home q_T6 hn3 hc (m_R0_ok hR.1) hR.1.2 h5
    rw [fn181_23, if_neg (by omega), show ((n + 1 : Nat) : Int) - 1 = (n : Int) by omega, b1, Option.bind_some]
    dsimp only
    unfold m_ha
    have z := m_home_z (m_R0_ok hR.1) hn3
    by_cases c : (m_home n w).1 = -1
    · rw [if_neg (show ¬ 0 ≤ (m_home n w).1 by omega), if_pos c]
      exact ⟨-1, h2, rfl, b2, b3⟩
    · rw [if_pos (show 0 ≤ (m_home n w).1 by omega), if_neg c, q_w32_id (z := (n : Int) + -1) (by omega) (by omega)]
      obtain ⟨v, h', d1, d2, d3⟩ := ih f (q_w32 (s + (m_home n w).1)) h2 _ (by omega) (by omega) b2 (m_RI_home hR.1 hn3 h4) ((m_home_4 hn3).trans h4) (m_home_5 hn3 h5)
      exact ⟨v, h', d1, d2, c_ft_t b3 d3⟩
theorem c_homeAllC {h : q_F} {S : m_St} (hI : c_I h S) (hm : m_I S) (h5 : q_r64 (S.w 5)) : c_E (fn181 h) h (m_oHomeAll S) (fun k => k = 1 ∨ k = 4) := by
  unfold m_oHomeAll fn181
  rw [c_noAlarm hI, Option.bind_some]
  by_cases c3 : S.w 3 = 0
  · rw [if_pos c3]
    dsimp only
    rw [if_pos rfl, c_qEmpty hI hm, Option.bind_some]
    by_cases c4 : S.w 4 = 0
    · rw [if_pos c4]
      dsimp only
      rw [if_pos rfl, if_pos ⟨c3, c4⟩]
      obtain ⟨h1, a1, a2, a3⟩ := c_remember hI hm
      obtain ⟨v, h2, b1, b2, b3⟩ := c_ha 3 q_fu 0 h1 S.w (by omega) (by have := q_fu_ge; omega) a2.1 hm.1 c4 h5
      rw [a1, Option.bind_some]
      exact ⟨1, v, h2, b1, Or.inl rfl, c_I_set a2 b3 b2, c_F_t (c_F_rem a3) (c_F_ft b3)⟩
    · rw [if_neg c4, if_neg (show ¬ (S.w 3 = 0 ∧ S.w 4 = 0) from fun h9 => c4 h9.2)]
      exact ⟨4, 0, h, rfl, Or.inr rfl, hI, c_F_r⟩
  · rw [if_neg c3, if_neg (show ¬ (S.w 3 = 0 ∧ S.w 4 = 0) from fun h9 => c3 h9.1)]
    exact ⟨4, 0, h, rfl, Or.inr rfl, hI, c_F_r⟩
theorem r_ha : ∀ (n f : Nat) (s : Int) (h : q_F), n ≤ 3 → n < f → m_RI (h 140) → h 140 4 = 0 → ∃ v, fn264_27 f s ((n : Int) - 1) h = some (v, m_sr h 140 (m_ha n (h 140))) := by
  intro n
  induction n with
  | zero =>
    intro f s h hn hf _ _
    obtain ⟨f, rfl⟩ : ∃ f', f = f' + 1 := ⟨f - 1, by omega⟩
    refine ⟨s, ?_⟩
    rw [fn264_27, if_pos (by omega)]
    unfold m_ha; rw [m_sr_id]
  | succ n ih =>
    intro f s h hn hf hR h4
    obtain ⟨f, rfl⟩ : ∃ f', f = f' + 1 := ⟨f - 1, by omega⟩
    have hn3 : n < 3 := by omega
    rw [fn264_27, if_neg (by omega), show ((n + 1 : Nat) : Int) - 1 = (n : Int) by omega, fn266_m hn3 (m_R0_ok hR.1), Option.bind_some]
    dsimp only
    unfold m_ha
    by_cases c : (m_home n (h 140)).1 = -1
    · rw [if_pos c, if_pos c]; exact ⟨_, rfl⟩
    · rw [if_neg c, if_neg c, q_w32_id (z := (n : Int) + -1) (by omega) (by omega)]
      obtain ⟨v, d1⟩ := ih f (q_w32 (s + (m_home n (h 140)).1)) (m_sr h 140 (m_home n (h 140)).2) (by omega) (by omega) (by rw [m_sr_s]; exact m_RI_home hR.1 hn3 h4) (by rw [m_sr_s]; exact (m_home_4 hn3).trans h4)
      rw [m_sr_s, m_sr_sr] at d1
      exact ⟨v, d1⟩
theorem r_homeAllC {h : q_F} {S : m_St} (hI : r_I h S) (hm : m_I S) : r_W (fn264 h) h (m_oHomeAll S) := by
  have hT : r_T h (q_ud h 139 7 0) := r_T_u r_T_r
  unfold m_oHomeAll fn264
  rw [m_let, r_busy (r_I_T hI hT), Option.bind_some]
  by_cases c : S.w 3 = 0 ∧ S.w 4 = 0
  · rw [if_pos c, if_pos c]
    obtain ⟨h9, s1, s2⟩ := r_fails 0 1 (q_ud h 139 7 0)
    have hT := r_T_t hT s2
    obtain ⟨h1, a1, a2, a3, a4⟩ := r_remember (r_I_T hI hT) hm.2.1.1
    have F := r_F_t (r_T_F hT) (r_F_rem a3 a4)
    have ew : h1 140 = S.w := a2.1
    obtain ⟨v, d1⟩ := r_ha 3 q_fu 0 h1 (by omega) (by have := q_fu_ge; omega) (by rw [ew]; exact hm.1) (by rw [ew]; exact c.2)
    rw [ew] at d1
    rw [s1, Option.bind_some, if_pos rfl, a1, Option.bind_some]
    exact ⟨v, _, d1, r_I_set a2, r_F_t F (r_F_sr (by omega))⟩
  · rw [if_neg c, if_neg c]
    obtain ⟨h9, s1, s2⟩ := r_fails 1 1 (q_ud h 139 7 0)
    have hT := r_T_t hT s2
    rw [s1, Option.bind_some, if_neg (show ¬ (1 : Int) = 0 by decide)]
    exact ⟨_, _, rfl, r_I_T hI hT, r_T_F hT⟩
-- unqueue
def m_oUnq (S : m_St) : m_St := if S.w 4 = 0 then S else m_set (m_rem S) (m_u S.w 4 (S.w 4 - 1))
theorem m_mv_u4 {w : Nat → Int} {v : Int} (m : Nat) : m_mv (m_u w 4 v) m = m_mv w m := by
  have b : ∀ k a, m_beg (m_u w 4 v) k a = m_beg w k a := fun k a => by unfold m_beg; split <;> exact m_u_n (by omega)
  unfold m_mv m_d
  rw [b, b, b, b, b, b]
theorem m_RI_unq {w : Nat → Int} (h : m_RI w) (h4 : w 4 ≠ 0) : m_RI (m_u w 4 (w 4 - 1)) := by
  have r := (m_R0_ok h.1).2.1
  refine ⟨m_R0_v h.1 (m_pv_4 (by omega)) (by omega), fun m hm => ?_⟩
  rw [m_u_s] at hm
  rw [m_mv_u4]; exact h.2 m (by omega)
theorem m_I_unq {S : m_St} (h : m_I S) : m_I (m_oUnq S) := by
  unfold m_oUnq; split
  · exact h
  · rename_i c; exact m_I_set (m_I_rem h) (m_RI_unq h.1 c)
theorem c_unqueue {h : q_F} {S : m_St} (hI : c_I h S) (hm : m_I S) : c_E (fn229 h) h (m_oUnq S) (fun k => k = 1 ∨ k = 5) := by
  have e : h 13 1 = S.w 4 := hI.1.2.2.1
  have r := (m_R0_ok hm.1.1).2.1
  unfold m_oUnq fn229
  rw [e]
  by_cases c : S.w 4 = 0
  · rw [if_pos c, if_pos c]
    exact ⟨5, 0, h, rfl, Or.inr rfl, hI, c_F_r⟩
  · rw [if_neg c, if_neg c]
    obtain ⟨h1, a1, a2, a3⟩ := c_remember hI hm
    have e1 : h1 13 1 = S.w 4 := a2.1.2.2.1
    obtain ⟨n, en⟩ := m_fu3
    have mx : qx_mx (S.w 4 - 1) 0 = S.w 4 - 1 := by unfold qx_mx; split <;> omega
    rw [a1, Option.bind_some]
    dsimp only
    rw [e1, q_w32_id (z := S.w 4 - 1) (by omega) (by omega), fn152, q_w32_id (by omega) (by omega), en, fn152_4, e1, if_pos (by omega), m_let, q_w32_id (by omega) (by omega), mx, Option.bind_some]
    have f : c_ft 6 h1 (q_ud h1 13 1 (S.w 4 - 1)) := c_ft_u c_ft_r (by omega) (by omega)
    have tb : c_tb (q_ud h1 13 1 (S.w 4 - 1)) 6 (m_u S.w 4 (S.w 4 - 1)) := c_tb_g7 a2.1 (fun k k1 k2 => by funext j; rw [q_ud_n (by omega)]) (fun j hj hj2 => m_u_n hj2) (by rw [m_u_s]; exact q_ud_s _ _ _ _) (fun j hj => by
      rw [m_u_s] at hj
      rw [q_ud_n (by omega), m_u_n (by omega)]; exact a2.1.2.2.2 j (by show j < 3 * (S.w 4).toNat; omega))
    exact ⟨1, _, _, rfl, Or.inl rfl, c_I_set a2 f tb, c_F_t (c_F_rem a3) (c_F_ft f)⟩
theorem r_unqueue {h : q_F} {S : m_St} (hI : r_I h S) (hm : m_I S) : r_W (fn361 h) h (m_oUnq S) := by
  have hT : r_T h (q_ud h 139 7 0) := r_T_u r_T_r
  have r := (m_R0_ok hm.1.1).2.1
  have e : q_ud h 139 7 0 140 4 = S.w 4 := by rw [q_ud_n (by omega), hI.1]
  unfold m_oUnq fn361
  rw [m_let, e, fn361_22, fn361_22]
  by_cases c : S.w 4 = 0
  · rw [if_pos c, if_pos c]
    obtain ⟨h9, s1, s2⟩ := r_fails 1 1 (q_ud h 139 7 0)
    have hT := r_T_t hT s2
    rw [s1, Option.bind_some, if_neg (show ¬ (1 : Int) = 0 by decide)]
    exact ⟨_, _, rfl, r_I_T hI hT, r_T_F hT⟩
  · rw [if_neg c, if_neg c]
    obtain ⟨h9, s1, s2⟩ := r_fails 0 1 (q_ud h 139 7 0)
    have hT := r_T_t hT s2
    obtain ⟨h1, a1, a2, a3, a4⟩ := r_remember (r_I_T hI hT) hm.2.1.1
    have F := r_F_t (r_T_F hT) (r_F_rem a3 a4)
    have ew : h1 140 = S.w := a2.1
    rw [s1, Option.bind_some, if_pos rfl, a1, Option.bind_some]
    dsimp only
    rw [m_let, ew, q_w64_id (by omega) (by omega), m_ud_sr, ew, r_of (v := S.w 4 - 1) (by omega) (by omega) (by rw [m_sr_s]; exact m_u_s _ _ _) (by omega), Option.bind_some]
    exact ⟨_, _, rfl, r_I_set a2, r_F_t F (r_F_sr (by omega))⟩
end -- [78.ops]
section -- [79.ops]
/-! Part 79: jogging, running, undoing, saving on both sides. -/
noncomputable def m_jl (a : Nat) (d t : Int) : Nat → (Nat → Int) → Nat → Int
  | 0, w => w
  | n + 1, w => m_jl a d t n (m_u (m_step a d w).2 5 (q_w64 ((m_step a d w).2 5 + t)))
noncomputable def m_jog (a : Nat) (v : Int) (w : Nat → Int) : Nat → Int := m_u (m_jl a (m_sg v) (q_ldv 1000000 (w 0)) (m_abs v).toNat w) (41 + a) 0
theorem m_jl_fr {a : Nat} (ha : a < 3) (d t : Int) : ∀ (n : Nat) (w : Nat → Int), m_fr w (m_jl a d t n w) := by
  intro n
  induction n with
  | zero => intro w; exact m_fr_r
  | succ n ih => intro w; unfold m_jl; exact m_fr_t (m_fr_u (m_step_fr ha d w) (by unfold m_dy; omega)) (ih _)
theorem m_jl_a3 {a : Nat} {d t : Int} (ha : a < 3) (hd : d = 1 ∨ d = -1) : ∀ (n : Nat) (w : Nat → Int), m_a3 w → m_a3 (m_jl a d t n w) := by
  intro n
  induction n with
  | zero => intro w h; exact h
  | succ n ih => intro w h; unfold m_jl; exact ih _ (m_a3_u (m_step_a3 ha h hd) (by omega))
theorem m_jl_fy {a : Nat} {d t : Int} (ha : a < 3) : ∀ (n : Nat) (w : Nat → Int), ∀ j, j ≠ 5 → (j % 3 ≠ (2 + a) % 3 ∨ j < 26 ∨ 61 < j) → m_jl a d t n w j = w j := by
  intro n
  induction n with
  | zero => intro w j _ _; rfl
  | succ n ih =>
    intro w j h5 hj
    unfold m_jl
    rw [ih _ j h5 hj, m_u_n h5]; exact m_step_fx d w ha j hj
theorem m_jl_5 {a : Nat} {d t : Int} (ha : a < 3) : ∀ (n : Nat) (w : Nat → Int), q_r64 (w 5) → m_jl a d t n w 5 = q_w64 (w 5 + n * t) := by
  intro n
  induction n with
  | zero => intro w hr; unfold m_jl; rw [q_w64_r]; simp; simp; exact hr
  | succ n ih =>
    intro w hr
    unfold m_jl
    rw [ih _ (by rw [m_u_s]; exact q_wr64 _), m_u_s, m_step_5 a d w ha]
    have e : ((n + 1 : Nat) : Int) * t = (n : Int) * t + t := by rw [m_s1, Int.add_mul, Int.one_mul]
    rw [e]
    obtain ⟨h1, h2, k, h3⟩ := q_w64_s (w 5 + t)
    obtain ⟨a1, a2, k2, a3⟩ := q_w64_s (q_w64 (w 5 + t) + (n : Int) * t)
    obtain ⟨b1, b2, k3, b3⟩ := q_w64_s (w 5 + ((n : Int) * t + t))
    omega
theorem c_jl {o a : Nat} {d t v M : Int} (ha : a < 3) (hd : d = 1 ∨ d = -1) (hv : m_sg v = d) (hM : M ≤ 100) (T : Nat) : ∀ (n : Nat) (k : Int) (f : Nat) (h : q_F) (w : Nat → Int), 0 ≤ k → k + n = M → n < f → c_ax h o w a → m_ai w a →
    ∃ h', fn134_15 T o f v M k h = fn134_15 T o (f - n) v M M h' ∧ c_ax h' o (m_jl a d t n w) a ∧ c_fo o h h' := by
  intro n
  induction n with
  | zero =>
    intro k f h w hk hn hf hc hi
    exact ⟨h, by rw [show k = M by omega]; rfl, hc, c_fo_r⟩
  | succ n ih =>
    intro k f h w hk hn hf hc hi
    obtain ⟨f, rfl⟩ : ∃ f', f = f' + 1 := ⟨f - 1, by omega⟩
    obtain ⟨h1, g1, g2, g3⟩ := c_step (d := d) ha hc hi hd
    have g4 := m_step_ai (d := d) hi hd
    obtain ⟨h', k1, k2, k3⟩ := ih (k + 1) f h1 (m_u (m_step a d w).2 5 (q_w64 ((m_step a d w).2 5 + t))) (by omega) (by omega) (by omega) (c_un (by omega) ha g2) (m_ai_u g4 ha (by omega))
    refine ⟨h', ?_, k2, c_fo_t g3 k3⟩
    rw [show f + 1 - (n + 1) = f - n by omega, ← k1, fn134_15, if_neg (by omega), fn134_32, fn134_32]
    have : (if v ≤ 0 then (fn49 o (-1) h).bind fun x7 => fn134_15 T o f v M (q_w32 (k + 1)) x7.2 else (fn49 o 1 h).bind fun x7 => fn134_15 T o f v M (q_w32 (k + 1)) x7.2) = (fn49 o d h).bind fun x7 => fn134_15 T o f v M (q_w32 (k + 1)) x7.2 := by
      subst hv
      unfold m_sg at hd ⊢
      by_cases c1 : v ≤ 0
      · rw [if_pos c1, if_pos c1]
        by_cases c2 : 0 ≤ v
        · rw [if_pos c1, if_pos c2] at hd; omega
        · rw [if_neg c2]
      · rw [if_neg c1, if_neg c1]
    rw [this, g1, Option.bind_some, q_w32_id (by omega) (by omega)]
theorem c_jogA {h : q_F} {t a : Nat} {v : Int} {w : Nat → Int} (ha : a < 3) (hv : -100 ≤ v ∧ v ≤ 100 ∧ v ≠ 0) (hc : c_tb h t w) (ok : m_ok w) (hi : m_a3 w) (h5 : q_r64 (w 5)) :
    ∃ h', fn134 t a v h = some (0, h') ∧ c_tb h' t (m_jog a v w) ∧ c_ft t h h' := by
  have hd : m_sg v = 1 ∨ m_sg v = -1 := m_sg_r (by unfold m_sg; (repeat' split) <;> omega)
  have ab : m_abs v = ((m_abs v).toNat : Int) ∧ 0 ≤ m_abs v ∧ m_abs v ≤ 100 := by unfold m_abs; split <;> omega
  obtain ⟨h1, g1, g2, g3⟩ := c_jl (t := q_ldv 1000000 (w 0)) (M := m_abs v) ha hd rfl ab.2.2 t (m_abs v).toNat 0 q_fu h w (by omega) (by omega) (by have := q_fu_ge; omega) (hc.1 a ha) (m_a3_i hi ha)
  have f5 := m_jl_5 (d := m_sg v) (t := q_ldv 1000000 (w 0)) ha (m_abs v).toNat w h5
  have fy := m_jl_fy (d := m_sg v) (t := q_ldv 1000000 (w 0)) ha (m_abs v).toNat w
  have tb1 : c_tb h1 t (m_u (m_jl a (m_sg v) (q_ldv 1000000 (w 0)) (m_abs v).toNat w) 5 (w 5)) := by
    refine c_tb_ax ha hc g3 (c_un (by omega) ha g2) (fun j hj => ?_)
    by_cases e : j = 5
    · subst e; rw [m_u_s]
    · rw [m_u_n e]; exact fy j e (by omega)
  unfold m_jog
  generalize m_jl a (m_sg v) (q_ldv 1000000 (w 0)) (m_abs v).toNat w = r at g2 f5 fy tb1 ⊢
  have s1 := c_slow tb1 (by rw [m_u_n (by omega), fy 0 (by omega) (by omega)]; exact ok.1)
  rw [m_u_n (show 0 ≠ 5 by omega), fy 0 (by omega) (by omega)] at s1
  have et : h1 t 8 = w 5 := by have := tb1.2.1.2.2.2.2.1; rw [m_u_s] at this; exact this
  have g5 := c_tb_u (j := 8) (v := r 5) (by omega) tb1
  rw [show c_h 8 = 5 from rfl, m_u_u, m_u_id] at g5
  have g6 := c_tb_f (j := 11) (v := 0) ha (by omega) g5
  obtain ⟨f, ef⟩ : ∃ f, q_fu - (m_abs v).toNat = f + 1 := ⟨q_fu - (m_abs v).toNat - 1, by have := q_fu_ge; omega⟩
  refine ⟨_, ?_, g6, c_ft_t (c_ft_o g3 (by omega) (by omega)) (c_ft_u (c_ft_u c_ft_r (by omega) (by omega)) (by omega) (by omega))⟩
  have em : q_w64 (m_abs v * q_ldv 1000000 (w 0)) = (m_abs v).toNat * q_ldv 1000000 (w 0) := by
    have b := m_mulr (x := m_abs v) (l := q_ldv 1000000 (w 0)) (a := 100) (b := 1000000) (by omega) (by omega) s1.2.1 s1.2.2
    rw [q_w64_id (by omega) (by omega), ← ab.1]
  rw [fn134, c_abs (by omega) (by omega), q_axn_e ha, g1, ef, fn134_15, if_pos (by omega), s1.1, Option.bind_some, m_let, m_let, et, em, ← f5]
noncomputable def m_oJog (a v : Int) (S : m_St) : m_St := if 0 ≤ a ∧ a ≤ 2 then (if -100 ≤ v ∧ v ≤ 100 ∧ v ≠ 0 then (if S.w 4 = 0 then m_set (m_rem S) (m_jog a.toNat v S.w) else S) else S) else S
theorem m_RI_jog {w : Nat → Int} {a : Nat} {v : Int} (h : m_R0 w) (ha : a < 3) (h4 : w 4 = 0) (hv : v ≠ 0) : m_RI (m_jog a v w) := by
  have hd : m_sg v = 1 ∨ m_sg v = -1 := m_sg_r (by unfold m_sg; (repeat' split) <;> omega)
  refine ⟨m_R0_v (m_R0_fr h (m_jl_fr ha _ _ _ _) (m_jl_a3 ha hd _ _ h.2)) (m_pv_41 (by omega) (Or.inl rfl)) (by omega), m_nn_0 ?_⟩
  unfold m_jog
  rw [m_u_n (by omega), m_jl_fr ha _ _ _ _ 4 (by unfold m_dy; omega)]; exact h4
theorem m_I_jog {S : m_St} {a v : Int} (h : m_I S) : m_I (m_oJog a v S) := by
  unfold m_oJog; split
  · split
    · split
      · rename_i c1 c2 c3
        exact m_I_set (m_I_rem h) (m_RI_jog h.1.1 (by omega) c3 c2.2.2)
      · exact h
    · exact h
  · exact h
theorem c_jogC {h : q_F} {S : m_St} {a v : Int} (hI : c_I h S) (hm : m_I S) (h5 : q_r64 (S.w 5)) : c_E (fn184 a v h) h (m_oJog a v S) (fun k => k = 1 ∨ k = 2 ∨ k = 3 ∨ k = 4) := by
  unfold m_oJog fn184
  rw [c_axis, Option.bind_some]
  by_cases ca : 0 ≤ a ∧ a ≤ 2
  · rw [if_pos ca, if_pos ca]
    dsimp only
    rw [if_pos rfl, fn184_21]
    by_cases cv : -100 ≤ v ∧ v ≤ 100 ∧ v ≠ 0
    · rw [if_pos cv, if_neg (show ¬ v < -100 by omega), if_neg (show ¬ 100 < v by omega), if_neg cv.2.2, c_qEmpty hI hm, Option.bind_some]
      by_cases c4 : S.w 4 = 0
      · rw [if_pos c4, if_pos c4]
        dsimp only
        rw [if_pos rfl]
        obtain ⟨n, hn, rfl⟩ := m_ax_n ca
        obtain ⟨h1, a1, a2, a3⟩ := c_remember hI hm
        obtain ⟨h2, b1, b2, b3⟩ := c_jogA hn cv a2.1 (m_R0_ok hm.1.1) hm.1.1.2 h5
        rw [a1, Option.bind_some, b1, Option.bind_some]
        exact ⟨1, _, h2, rfl, Or.inl rfl, c_I_set a2 b3 b2, c_F_t (c_F_rem a3) (c_F_ft b3)⟩
      · rw [if_neg c4, if_neg c4]
        exact ⟨4, 0, h, rfl, Or.inr (Or.inr (Or.inr rfl)), hI, c_F_r⟩
    · rw [if_neg cv]
      refine ⟨2, 0, h, ?_, Or.inr (Or.inl rfl), hI, c_F_r⟩
      (repeat' split) <;> first | rfl | omega
  · rw [if_neg ca, if_neg ca]
    exact ⟨3, 0, h, rfl, Or.inr (Or.inr (Or.inl rfl)), hI, c_F_r⟩
theorem r_jl {a : Nat} {v : Int} (ha : a < 3) : ∀ (n f : Nat) (l : Int) (h : q_F), 0 ≤ l → l + n ≤ 100 → n < f → h 140 0 ≠ 0 → ∃ x, fn274_77 f a v l n h = some (x, m_sr h 140 (m_u (m_jl a (m_sg v) (q_ldv 1000000 (h 140 0)) n (h 140)) (41 + a) 0)) := by
  intro n
  induction n with
  | zero =>
    intro f l h hl hn hf h0
    obtain ⟨f, rfl⟩ : ∃ f', f = f' + 1 := ⟨f - 1, by omega⟩
    refine ⟨q_w32 (m_u (h 140) (41 + a) 0 (26 + a)), ?_⟩
    rw [fn274_77, if_pos (by omega), if_pos hl, fn274_146, q_w32_id (z := 41 + (a : Int)) (by omega) (by omega), if_pos (by omega), m_let, q_w32_id (z := 26 + (a : Int)) (by omega) (by omega), m_ud_sr, show (41 + (a : Int)).toNat = 41 + a by omega, fn303_i (by omega) (by omega), Option.bind_some, m_sr_s, show (26 + (a : Int)).toNat = 26 + a by omega]
    rfl
  | succ n ih =>
    intro f l h hl hn hf h0
    obtain ⟨f, rfl⟩ : ∃ f', f = f' + 1 := ⟨f - 1, by omega⟩
    rw [fn274_77, if_neg (by omega), fn333_m, Option.bind_some, fn340_m ha, Option.bind_some]
    dsimp only
    have e0 : (m_step a (m_sg v) (h 140)).2 0 = h 140 0 := m_step_fr ha _ _ 0 (by unfold m_dy; omega)
    have key : ∀ p, 0 ≤ p → p ≤ 1 → ∃ x, fn274_100 (fn274_77 f) a v ((n + 1 : Nat) : Int) p l (m_sr h 140 (m_step a (m_sg v) (h 140)).2) = some (x, m_sr h 140 (m_u (m_jl a (m_sg v) (q_ldv 1000000 (h 140 0)) (n + 1) (h 140)) (41 + a) 0)) := fun p p0 p1 => by
      obtain ⟨x, g⟩ := ih f (l + p) (m_sr h 140 (m_u (m_step a (m_sg v) (h 140)).2 5 (q_w64 ((m_step a (m_sg v) (h 140)).2 5 + q_ldv 1000000 (h 140 0))))) (by omega) (by omega) (by omega) (by rw [m_sr_s, m_u_n (by omega), e0]; exact h0)
      rw [m_sr_s, m_sr_sr, m_u_n (show 0 ≠ 5 by omega), e0] at g
      refine ⟨x, ?_⟩
      rw [fn274_100, fn335_m (by rw [m_sr_s, e0]; exact h0), Option.bind_some, m_let, m_ud_sr, m_sr_s, m_sr_sr, e0, q_w32_id (z := l + p) (by omega) (by omega), q_w32_id (by omega) (by omega), show ((n + 1 : Nat) : Int) + -1 = n by omega, g]
      rfl
    split
    · exact key 0 (by omega) (by omega)
    · exact key 1 (by omega) (by omega)
theorem r_jogC {h : q_F} {S : m_St} {a v : Int} (hI : r_I h S) (hm : m_I S) : r_W (fn274 a v h) h (m_oJog a v S) := by
  obtain ⟨h0, t1, t2⟩ := r_noAxis a h
  have hI0 := r_I_T hI t2
  unfold m_oJog fn274
  rw [t1, Option.bind_some]
  by_cases ca : 0 ≤ a ∧ a ≤ 2
  · rw [if_pos ca, if_pos ca]
    dsimp only
    rw [if_pos rfl, r_rng, Option.bind_some, fn274_27]
    by_cases cv : -100 ≤ v ∧ v ≤ 100 ∧ v ≠ 0
    · rw [if_pos (show -100 ≤ v ∧ v ≤ 100 by omega), if_neg (show ¬ (1 : Int) = 0 by decide), if_neg cv.2.2, if_pos cv, fn274_32]
      obtain ⟨h8, s1, s2⟩ := r_fails 0 2 h0
      have hI8 := r_I_T hI0 s2
      rw [s1, Option.bind_some, if_pos rfl]
      dsimp only
      have e84 : h8 140 4 = S.w 4 := by rw [hI8.1]
      by_cases c4 : S.w 4 = 0
      · rw [if_pos (e84.trans c4), if_pos c4, fn274_56]
        obtain ⟨h9, u1, u2⟩ := r_fails 0 3 h8
        have hT := r_T_t (r_T_t t2 s2) u2
        obtain ⟨n, hn, rfl⟩ := m_ax_n ca
        obtain ⟨h1, a1, a2, a3, a4⟩ := r_remember (r_I_T hI hT) hm.2.1.1
        have F := r_F_t (r_T_F hT) (r_F_rem a3 a4)
        have ew : h1 140 = S.w := a2.1
        have ab : m_abs v = ((m_abs v).toNat : Int) ∧ 0 ≤ m_abs v ∧ m_abs v ≤ 100 := by unfold m_abs; split <;> omega
        have ok := (m_R0_ok hm.1.1).1
        obtain ⟨x, g⟩ := r_jl (v := v) hn (m_abs v).toNat q_fu 0 h1 (by omega) (by omega) (by have := q_fu_ge; omega) (by rw [ew]; omega)
        rw [ew, ← ab.1] at g
        rw [u1, Option.bind_some, if_pos rfl, a1, Option.bind_some, fn236_i (by omega) (by omega), Option.bind_some]
        exact ⟨x, _, g, r_I_set a2, r_F_t F (r_F_sr (by omega))⟩
      · rw [if_neg (show ¬ h8 140 4 = 0 from fun h9 => c4 (e84.symm.trans h9)), if_neg c4, fn274_56]
        obtain ⟨h9, u1, u2⟩ := r_fails 1 3 h8
        have hT := r_T_t (r_T_t t2 s2) u2
        rw [u1, Option.bind_some, if_neg (show ¬ (1 : Int) = 0 by decide)]
        exact ⟨_, _, rfl, r_I_T hI hT, r_T_F hT⟩
    · rw [if_neg cv]
      have key : ∃ h', fn274_32 a v 1 h0 = some (0, h') ∧ r_T h h' := by
        rw [fn274_32]
        obtain ⟨h8, s1, s2⟩ := r_fails 1 2 h0
        exact ⟨h8, by rw [s1, Option.bind_some, if_neg (show ¬ (1 : Int) = 0 by decide)], r_T_t t2 s2⟩
      obtain ⟨h', k1, k2⟩ := key
      refine ⟨0, h', ?_, r_I_T hI k2, r_T_F k2⟩
      by_cases c2 : -100 ≤ v ∧ v ≤ 100
      · rw [if_pos c2, if_neg (show ¬ (1 : Int) = 0 by decide), if_pos (by omega)]; exact k1
      · rw [if_neg c2, if_pos rfl]; exact k1
  · rw [if_neg ca, if_neg ca]
    exact ⟨_, _, rfl, hI0, r_T_F t2⟩
end -- [79.ops]
section -- [80.ops]
/-! Part 80: running, undoing, saving on both sides. -/
theorem m_sq_p {Q : (Nat → Int) → Prop} {f g : (Nat → Int) → Int × (Nat → Int)} (hf : ∀ w, Q w → Q (f w).2) (hg : ∀ w, Q w → Q (g w).2) (w : Nat → Int) (h : Q w) : Q (m_sq f g w).2 := by
  unfold m_sq; split
  · exact hf w h
  · exact hg _ (hf w h)
theorem m_ax_a3 {p : Nat → Int} {m a : Nat} {k : Int} (ok : m_ok p) (nn : m_nn p) (hm : (m : Int) < p 4) (h0 : 0 ≤ k) (h1 : k < m_l p m) (ha : a < 3) (w : Nat → Int) (h : m_a3 w) : m_a3 (m_ax p m k a w).2 := by
  have le := m_made_le ok nn hm ha h0 h1
  unfold m_ax
  by_cases hx : m_made p m a (k + 1) = m_made p m a k
  · rw [if_pos hx]; exact h
  · have hd : m_sg (m_d p m a) ≠ 0 := fun h9 => hx (le.2 h9)
    have g := m_step_a3 ha h (m_sg_r hd)
    rw [if_neg hx]
    dsimp only
    (repeat' split) <;> exact g
theorem m_ms_a3 {p : Nat → Int} {m : Nat} {k : Int} (ok : m_ok p) (nn : m_nn p) (hm : (m : Int) < p 4) (h0 : 0 ≤ k) (h1 : k < m_l p m) (w : Nat → Int) (h : m_a3 w) : m_a3 (m_ms p m k w).2 := by
  unfold m_ms
  exact m_sq_p (m_ax_a3 ok nn hm h0 h1 (by omega)) (fun w h => m_sq_p (m_ax_a3 ok nn hm h0 h1 (by omega)) (m_ax_a3 ok nn hm h0 h1 (by omega)) w h) _ (m_a3_u (m_a3_u (m_a3_u h (by omega)) (by omega)) (by omega))
theorem m_sl_a3 {p : Nat → Int} {m : Nat} (ok : m_ok p) (nn : m_nn p) (hm : (m : Int) < p 4) : ∀ (n : Nat) (k : Int) (w : Nat → Int), 0 ≤ k → k + n = m_l p m → m_a3 w → m_a3 (m_sl p m n k w).2 := by
  intro n
  induction n with
  | zero => intro k w _ _ h; exact h
  | succ n ih =>
    intro k w hk hn h
    unfold m_sl; split
    · exact m_ms_a3 ok nn hm hk (by omega) w h
    · exact ih _ _ (by omega) (by omega) (m_ms_a3 ok nn hm hk (by omega) w h)
theorem m_upl_a3 {a : Nat} {d : Int} (ha : a < 3) (hd : d = 1 ∨ d = -1) : ∀ (n : Nat) (w : Nat → Int), m_a3 w → m_a3 (m_upl a d n w).2 := by
  intro n
  induction n with
  | zero => intro w h; exact h
  | succ n ih =>
    intro w h
    unfold m_upl
    dsimp only
    have g := m_step_a3 (d := d) ha (m_a3_u (v := q_w64 (m_u w 5 (q_w64 (w 5 + q_ldv 1000000 (w 0))) (62 + a) + 1)) (j := 62 + a) (m_a3_u (v := q_w64 (w 5 + q_ldv 1000000 (w 0))) (j := 5) h (by omega)) (by omega)) hd
    split
    · exact ih _ g
    · split
      · exact g
      · exact ih _ g
theorem m_up_a3 {p : Nat → Int} {m a : Nat} (ha : a < 3) (w : Nat → Int) (h : m_a3 w) : m_a3 (m_up p m a w).2 := by
  unfold m_up
  by_cases c1 : m_sg (m_d p m a) = 0
  · rw [if_pos c1]; exact h
  · rw [if_neg c1]
    split
    · exact h
    · split
      · exact h
      · exact m_upl_a3 ha (m_sg_r c1) _ _ h
theorem m_rv_a3 {p : Nat → Int} {m a : Nat} (ha : a < 3) (w : Nat → Int) (h : m_a3 w) : m_a3 (m_rv p m a w) := by
  unfold m_rv; (repeat' split) <;> first | exact h | exact m_a3_u h (by omega)
theorem m_mm_a3 {p : Nat → Int} {m : Nat} (ok : m_ok p) (nn : m_nn p) (hm : (m : Int) < p 4) (w : Nat → Int) (h : m_a3 w) : m_a3 (m_mm p m w).2 := by
  have h16 := ok.2.1
  have l := m_l_r ok (m := m) (by omega)
  unfold m_mm
  exact m_sq_p (m_up_a3 (by omega)) (fun w h => m_sq_p (m_up_a3 (by omega)) (fun w h => m_sq_p (m_up_a3 (by omega)) (fun w h => m_sl_a3 ok nn hm _ 0 w (by omega) (by omega) h) w h) w h) _ (m_rv_a3 (by omega) _ (m_rv_a3 (by omega) _ (m_rv_a3 (by omega) _ h)))
theorem m_R0_co {w : Nat → Int} {m : Nat} (h : m_R0 w) (hm : m < 16) : m_R0 (m_co m w) := by
  have t : ∀ j, 74 ≤ j → j < 122 → 0 ≤ w j ∧ w j ≤ 2000 := (m_R0_ok h).2.2.2
  exact m_R0_v (m_R0_v (m_R0_v h (m_pv_47 (by omega) (t _ (by omega) (by omega))) (by omega)) (m_pv_47 (by omega) (t _ (by omega) (by omega))) (by omega)) (m_pv_47 (by omega) (t _ (by omega) (by omega))) (by omega)
theorem m_R0_fin {w : Nat → Int} {n : Nat} (h : m_R0 w) (hn : (n : Int) ≤ w 4) : m_R0 (m_fin n w) := by
  have ok := m_R0_ok h
  refine ⟨fun j hj => ?_, m_a3_fin h.2⟩
  unfold m_fin
  by_cases e : j = 4
  · subst e; rw [m_u_s]; exact m_pv_4 (by have := ok.2.1; omega)
  · rw [m_u_n e]; unfold m_cp
    split
    · exact m_pv_47 (by omega) (ok.2.2.2 _ (by omega) (by have := ok.2.1; omega))
    · exact h.1 j hj
theorem m_R0_mk {p : Nat → Int} (okp : m_ok p) (nnp : m_nn p) {n : Nat} (hn : (n : Int) ≤ p 4) : ∀ (d m : Nat) (w : Nat → Int), m + d = n → m_R0 w → w 4 = p 4 → m_R0 (m_mk p n d m w).2 := by
  have h16 := okp.2.1
  intro d
  induction d with
  | zero => intro m w hm h h4; unfold m_mk; exact m_R0_fin h (by omega)
  | succ d ih =>
    intro m w hm h h4
    unfold m_mk
    have hf := m_mm_fr (p := p) (m := m) w
    have g := m_R0_fr h hf (m_mm_a3 okp nnp (by omega) w h.2)
    split
    · exact m_R0_stops (m_R0_v g (m_pv_3 (by omega)) (by omega))
    · refine ih (m + 1) _ (by omega) (m_R0_co g (by omega)) ?_
      unfold m_co
      rw [m_u_n (by omega), m_u_n (by omega), m_u_n (by omega), hf 4 (by unfold m_dy; omega)]; exact h4
theorem m_RI_run {w : Nat → Int} (h : m_RI w) {n : Nat} (hn : (n : Int) ≤ w 4) : m_RI (m_run n w).2 :=
  ⟨m_R0_mk (m_R0_ok h.1) h.2 hn n 0 w (by omega) h.1 rfl, (m_run_ok (m_R0_ok h.1) h.2 hn).2⟩
theorem c_planned {h : q_F} {S : m_St} (hI : c_I h S) (hm : m_I S) : ∃ h', fn195 h = some (0, h') ∧ c_Plan h' S.w ∧ c_fp h h' ∧ c_I h' S := by
  have e : h 6 4 = S.w 0 := hI.1.2.1.1
  obtain ⟨h', g1, g2, g3⟩ := c_make (t := 6) (g := 13) (by omega) (by omega) (m_R0_ok hm.1.1) hm.1.2 (show c_src h 6 13 S.w from c_src_tb hI.1)
  exact ⟨h', by rw [fn195, e, g1, Option.bind_some], g2, g3, c_I_k hI hm.2.1.1 (fun k hk => g3 k (by omega)) (by rw [g3 0 (by omega)])⟩
noncomputable def m_oRun (n : Int) (S : m_St) : m_St := if 1 ≤ n ∧ n ≤ 16 then (if n ≤ S.w 4 then m_set (m_rem S) (m_run n.toNat S.w).2 else S) else S
theorem m_I_run {S : m_St} {n : Int} (h : m_I S) : m_I (m_oRun n S) := by
  unfold m_oRun; split
  · split
    · exact m_I_set (m_I_rem h) (m_RI_run h.1 (by omega))
    · exact h
  · exact h
theorem c_run2 {h : q_F} {S : m_St} {n : Nat} (hI : c_I h S) (hm : m_I S) (hn : (n : Int) ≤ S.w 4) : ∃ h1 h2 h3 v, fn67 6 h = some (0, h1) ∧ fn195 h1 = some (0, h2) ∧ h2 13 1 = S.w 4 ∧ fn138 6 n h2 = some (v, h3) ∧ c_I h3 (m_set (m_rem S) (m_run n S.w).2) ∧ c_F h h3 := by
  obtain ⟨h1, a1, a2, a3⟩ := c_remember hI hm
  obtain ⟨h2, b1, b2, b3, b4⟩ := c_planned a2 (m_I_rem hm)
  obtain ⟨h3, d1, d2, d3, d4⟩ := c_run (t := 6) (n := n) (w := S.w) (by omega) (m_R0_ok hm.1.1) hm.1.2 hm.1.1.2 ((hm.1.1.1 2 (by omega)).2.1 (by omega)) hn b4.1 b2
  exact ⟨h1, h2, h3, _, a1, b1, b4.1.2.2.1, d1, c_I_set b4 d3 d2, c_F_t (c_F_rem a3) (c_F_t (c_F_fp b3) (c_F_ft d3))⟩
theorem c_runC {h : q_F} {S : m_St} {n : Int} (hI : c_I h S) (hm : m_I S) : c_E (fn207 n h) h (m_oRun n S) (fun k => k = 1 ∨ k = 2 ∨ k = 5) := by
  have e : h 13 1 = S.w 4 := hI.1.2.2.1
  unfold m_oRun fn207 fn207_11
  by_cases c : 1 ≤ n ∧ n ≤ 16
  · rw [if_neg (show ¬ n < 1 by omega), if_pos c.2, if_pos c]
    by_cases c2 : n ≤ S.w 4
    · rw [if_pos (by omega), if_pos c2]
      obtain ⟨k, rfl⟩ : ∃ k : Nat, n = k := ⟨n.toNat, by omega⟩
      obtain ⟨h1, h2, h3, v, a, b, -, d, i, f⟩ := c_run2 hI hm c2
      rw [a, Option.bind_some, b, Option.bind_some, d, Option.bind_some]
      exact ⟨1, _, h3, rfl, Or.inl rfl, i, f⟩
    · rw [if_neg (by omega), if_neg c2]
      exact ⟨5, 0, h, rfl, Or.inr (Or.inr rfl), hI, c_F_r⟩
  · rw [if_neg c]
    refine ⟨2, 0, h, ?_, Or.inr (Or.inl rfl), hI, c_F_r⟩
    (repeat' split) <;> first | rfl | omega
theorem r_run2 {h : q_F} {S : m_St} {n : Nat} (hI : r_I h S) (hm : m_I S) (hn : (n : Int) ≤ S.w 4) : ∃ h1 h2 v, fn320 h = some (0, h1) ∧ h1 140 = S.w ∧ fn287 n h1 = some (v, h2) ∧ r_I h2 (m_set (m_rem S) (m_run n S.w).2) ∧ r_F h h2 := by
  obtain ⟨h1, a1, a2, a3, a4⟩ := r_remember hI hm.2.1.1
  have F := r_F_rem a3 a4
  have ew : h1 140 = S.w := a2.1
  obtain ⟨h2, b1, b2, b3⟩ := fn287_m ew (m_R0_ok hm.1.1) hm.1.2 hn
  refine ⟨h1, h2, _, a1, ew, b1, ⟨b2, ⟨?_, ?_⟩, ?_, ?_⟩, r_F_t F (r_F_fq b3)⟩
  · rw [b3 139 (by omega) (by omega)]; exact a2.2.1.1
  · rw [b3 144 (by omega) (by omega)]; exact a2.2.1.2
  · rw [b3 139 (by omega) (by omega)]; exact a2.2.2.1
  · rw [b3 143 (by omega) (by omega)]; exact a2.2.2.2
theorem r_runC {h : q_F} {S : m_St} {n : Int} (hI : r_I h S) (hm : m_I S) : r_W (fn324 n h) h (m_oRun n S) := by
  have hT : r_T h (q_ud h 139 7 0) := r_T_u r_T_r
  unfold m_oRun fn324
  rw [m_let, r_rng, Option.bind_some]
  by_cases c : 1 ≤ n ∧ n ≤ 16
  · rw [if_pos c, if_neg (by decide), if_pos c, fn324_23]
    obtain ⟨h0, t1, t2⟩ := r_fails 0 1 (q_ud h 139 7 0)
    have hT2 := r_T_t hT t2
    have e4 : h0 140 4 = S.w 4 := by rw [(r_I_T hI hT2).1]
    rw [t1, Option.bind_some, if_pos rfl]
    dsimp only
    by_cases c2 : n ≤ S.w 4
    · rw [if_pos (show n ≤ h0 140 4 by omega), if_pos c2, fn324_48]
      obtain ⟨h9, s1, s2⟩ := r_fails 0 2 h0
      have hT3 := r_T_t hT2 s2
      obtain ⟨k, rfl⟩ : ∃ k : Nat, n = k := ⟨n.toNat, by omega⟩
      obtain ⟨h1, h2, v, a, -, b, i, f⟩ := r_run2 (r_I_T hI hT3) hm c2
      rw [s1, Option.bind_some, if_pos rfl, a, Option.bind_some, b, Option.bind_some]
      exact ⟨_, h2, rfl, i, r_F_t (r_T_F hT3) f⟩
    · rw [if_neg (show ¬ n ≤ h0 140 4 by omega), if_neg c2, fn324_48]
      obtain ⟨h9, s1, s2⟩ := r_fails 1 2 h0
      have hT3 := r_T_t hT2 s2
      rw [s1, Option.bind_some, if_neg (show ¬ (1 : Int) = 0 by decide)]
      exact ⟨_, _, rfl, r_I_T hI hT3, r_T_F hT3⟩
  · rw [if_neg c, if_pos rfl, if_neg c, fn324_23]
    obtain ⟨h0, t1, t2⟩ := r_fails 1 1 (q_ud h 139 7 0)
    have hT2 := r_T_t hT t2
    rw [t1, Option.bind_some, if_neg (show ¬ (1 : Int) = 0 by decide)]
    exact ⟨_, _, rfl, r_I_T hI hT2, r_T_F hT2⟩
noncomputable def m_oRunAll (S : m_St) : m_St := m_set (m_rem S) (m_run (S.w 4).toNat S.w).2
theorem m_I_runAll {S : m_St} (h : m_I S) : m_I (m_oRunAll S) := m_I_set (m_I_rem h) (m_RI_run h.1 (by have := (m_R0_ok h.1.1).2.1; omega))
theorem c_runAll {h : q_F} {S : m_St} (hI : c_I h S) (hm : m_I S) : c_W (fn208 h) h (m_oRunAll S) := by
  have r := (m_R0_ok hm.1.1).2.1
  obtain ⟨h1, h2, h3, v, a, b, e, d, i, f⟩ := c_run2 (n := (S.w 4).toNat) hI hm (by omega)
  refine ⟨v, h3, ?_, i, f⟩
  rw [fn208, a, Option.bind_some, b, Option.bind_some]
  dsimp only
  rw [e, show S.w 4 = ((S.w 4).toNat : Int) by omega, d, Option.bind_some]
theorem r_runAll {h : q_F} {S : m_St} (hI : r_I h S) (hm : m_I S) : r_W (fn325 h) h (m_oRunAll S) := by
  have hT : r_T h (q_ud h 139 7 0) := r_T_u r_T_r
  have r := (m_R0_ok hm.1.1).2.1
  obtain ⟨h1, h2, v, a, ew, b, i, f⟩ := r_run2 (n := (S.w 4).toNat) (r_I_T hI hT) hm (by omega)
  refine ⟨v, h2, ?_, i, r_F_t (r_T_F hT) f⟩
  rw [fn325, m_let, a, Option.bind_some]
  dsimp only
  rw [r_of (v := S.w 4) (by omega) (by omega) (by rw [ew]; rfl) (by omega), Option.bind_some, show S.w 4 = ((S.w 4).toNat : Int) by omega, b, Option.bind_some]
-- undo
def m_lay2 (u w : Nat → Int) : Nat → Int := fun j => if j < 122 then u j else w j
theorem m_lay2_e {u w : Nat → Int} {j : Nat} (hj : j < 122) : m_lay2 u w j = u j := by unfold m_lay2; rw [if_pos hj]
def m_oUndo (S : m_St) : m_St := if S.n = 0 then S else m_mkS (m_lay2 (S.P (S.n - 1)) S.w) (S.n - 1) S.P S.sv S.ws
theorem m_I_undo {S : m_St} (h : m_I S) : m_I (m_oUndo S) := by
  unfold m_oUndo; split
  · exact h
  · exact ⟨m_RI_c (h.2.1.2 (S.n - 1) (by omega)) (fun j hj => m_lay2_e hj), ⟨by show S.n - 1 ≤ 10; have := h.2.1.1; omega, fun k hk => h.2.1.2 k (by have hk' : k < S.n - 1 := hk; omega)⟩, h.2.2.1, h.2.2.2⟩
theorem c_undo {h : q_F} {S : m_St} (hI : c_I h S) (hm : m_I S) : c_W (fn228 h) h (m_oUndo S) := by
  obtain ⟨h1, ⟨h2, h3, h4, h5⟩, h6, h7⟩ := hI
  have n10 := hm.2.1.1
  unfold m_oUndo fn228
  rw [h2]
  by_cases c : S.n = 0
  · rw [if_pos (by omega), if_pos c]
    exact ⟨-1, h, rfl, ⟨h1, ⟨h2, h3, h4, h5⟩, h6, h7⟩, c_F_r⟩
  · rw [if_neg (by omega), if_neg c]
    obtain ⟨x, hx⟩ : ∃ x : Nat, h 33 2 = (x : Int) := ⟨(h 33 2).toNat, by omega⟩
    rw [hx] at h3 h4 h5
    rw [Int.toNat_natCast] at h5
    have src := h5 (S.n - 1) (by omega)
    rw [show (x + 10 - S.n + (S.n - 1)) % 10 = (x + 9) % 10 by omega] at src
    have ok := hm.2.1.2 (S.n - 1) (by omega)
    obtain ⟨g, g1, g2, g3⟩ := c_copy (t := 6) (t1 := 35 + 9 * ((x + 9) % 10)) (by omega) src (m_R0_ok ok.1).2.1
    have ei : q_irm (q_w32 (q_w32 (h 33 2 + 10) - 1)) 10 = (((x + 9) % 10 : Nat) : Int) := by
      rw [hx, q_w32_id (z := (x : Int) + 10) (by omega) (by omega), q_w32_id (by omega) (by omega), m_irm (by omega) (by omega) (by omega) (by omega)]; omega
    have es : q_slot (((x + 9) % 10 : Nat) : Int) = 35 + 9 * ((x + 9) % 10) := rfl
    have k33 : g 33 = h 33 := g3 33 (by omega)
    rw [fn69, ei, if_pos (by omega), if_neg (by omega), es, g1, Option.bind_some, m_let, m_let, q_ud_n (show ¬ (33 = 33 ∧ 1 = 2) by omega)]
    dsimp only
    rw [k33, h2, q_w32_id (by omega) (by omega), Option.bind_some]
    dsimp only
    have R : c_I (q_ud (q_ud g 33 2 (((x + 9) % 10 : Nat) : Int)) 33 1 ((S.n : Int) - 1)) (m_mkS (m_lay2 (S.P (S.n - 1)) S.w) (S.n - 1) S.P S.sv S.ws) := by
      refine ⟨?_, ⟨?_, ?_, ?_, fun k hk => ?_⟩, ?_, fun hs => ?_⟩
      · exact c_tb_k (c_tb_c g2 (m_R0_ok ok.1).2.1.2 (fun j hj => m_lay2_e hj)) fun k k1 k2 => by funext j; rw [q_ud_n (by omega), q_ud_n (by omega)]
      · rw [q_ud_s]; show (S.n : Int) - 1 = ((S.n - 1 : Nat) : Int); omega
      · rw [q_ud_n (by omega), q_ud_s]; omega
      · rw [q_ud_n (by omega), q_ud_s]; omega
      · have hk' : k < S.n - 1 := hk
        rw [q_ud_n (show ¬ (33 = 33 ∧ 2 = 1) by omega), q_ud_s, Int.toNat_natCast]
        show c_tb _ (35 + 9 * (((x + 9) % 10 + 10 - (S.n - 1) + k) % 10)) (S.P k)
        have := h5 k (by omega)
        rw [show (x + 10 - S.n + k) % 10 = ((x + 9) % 10 + 10 - (S.n - 1) + k) % 10 by omega] at this
        exact c_tb_k this fun k k1 k2 => by funext j; rw [q_ud_n (by omega), q_ud_n (by omega), g3 k (by omega)]
      · rw [q_ud_n (by omega), q_ud_n (by omega), g3 0 (by omega)]; exact h6
      · exact c_tb_k (h7 hs) fun k k1 k2 => by funext j; rw [q_ud_n (by omega), q_ud_n (by omega), g3 k (by omega)]
    exact ⟨_, _, rfl, R, fun k hk => by funext j; rw [q_ud_n (by omega), q_ud_n (by omega), g3 k (by omega)]⟩
theorem r_undo {h : q_F} {S : m_St} (hI : r_I h S) (hm : m_I S) : r_W (fn360 h) h (m_oUndo S) := by
  have hT : r_T h (q_ud h 139 7 0) := r_T_u r_T_r
  have hI0 := r_I_T hI hT
  obtain ⟨h1, ⟨h2, h3⟩, h4, h5⟩ := hI0
  have n10 := hm.2.1.1
  unfold m_oUndo fn360
  rw [m_let, h2]
  by_cases c : S.n = 0
  · rw [if_pos (by omega), if_pos c]
    exact ⟨-1, _, rfl, r_I_T hI hT, r_T_F hT⟩
  · rw [if_neg (by omega), if_neg c, m_let]
    generalize hg : q_ud h 139 7 0 = g at h1 h2 h3 h4 h5 hT ⊢
    rw [q_ud_s, q_w32_id (z := (S.n : Int) - 1) (by omega) (by omega), q_w32_id (by omega) (by omega), fn249_i (by omega) (by omega) (by omega) (by omega) (by omega) (by omega) (by omega) (by omega), Option.bind_some]
    rw [show (122 * ((S.n : Int) - 1)).toNat = 122 * (S.n - 1) by omega, show (0 : Int).toNat = 0 from rfl, show (122 : Int).toNat = 122 from rfl]
    have er : m_cp (q_ud g 139 5 ((S.n : Int) - 1) 144) (q_ud g 139 5 ((S.n : Int) - 1) 140) (122 * (S.n - 1)) 0 122 = m_lay2 (S.P (S.n - 1)) S.w := by
      funext j
      unfold m_cp m_lay2
      by_cases e : j < 122
      · rw [if_pos (by omega), if_pos e, q_ud_n (by omega), ← h3 (S.n - 1) (by omega) j e]; congr 1
      · rw [if_neg (by omega), if_neg e, q_ud_n (by omega), h1]
    rw [er]
    dsimp only
    refine ⟨_, _, rfl, ⟨m_sr_s _ _ _, ⟨?_, fun k hk j hj => ?_⟩, ?_, fun hs j hj => ?_⟩, r_F_t (r_T_F hT) (r_F_t (r_F_ud (by omega)) (r_F_sr (by omega)))⟩
    · rw [m_sr_n (by omega), q_ud_s]; show (S.n : Int) - 1 = ((S.n - 1 : Nat) : Int); omega
    · rw [m_sr_n (by omega), q_ud_n (by omega)]; exact h3 k (by have hk' : k < S.n - 1 := hk; omega) j hj
    · rw [m_sr_n (by omega), q_ud_n (by omega)]; exact h4
    · rw [m_sr_n (by omega), q_ud_n (by omega)]; exact h5 hs j hj
-- saveState, restoreState
def m_oSave (S : m_St) : m_St := m_mkS S.w S.n S.P 1 S.w
theorem m_I_save {S : m_St} (h : m_I S) : m_I (m_oSave S) := ⟨h.1, h.2.1, Or.inr rfl, fun _ => h.1⟩
theorem c_save {h : q_F} {S : m_St} (hI : c_I h S) (hm : m_I S) : c_W (fn209 h) h (m_oSave S) := by
  obtain ⟨h1, ⟨h2, h3, h4, h5⟩, h6, h7⟩ := hI
  obtain ⟨g, g1, g2, g3⟩ := c_copy (t := 15) (t1 := 6) (by omega) h1 (m_R0_ok hm.1.1).2.1
  refine ⟨_, q_ud g 0 9 1, by rw [fn209, g1, Option.bind_some, m_let], ⟨?_, ⟨?_, ?_, ?_, fun k hk => ?_⟩, q_ud_s _ _ _ _, fun _ => ?_⟩, fun k hk => by funext j; rw [q_ud_n (by omega), g3 k (by omega)]⟩
  · exact c_tb_k h1 fun k k1 k2 => by funext j; rw [q_ud_n (by omega), g3 k (by omega)]
  · rw [q_ud_n (by omega), g3 33 (by omega)]; exact h2
  · rw [q_ud_n (by omega), g3 33 (by omega)]; exact h3
  · rw [q_ud_n (by omega), g3 33 (by omega)]; exact h4
  · rw [q_ud_n (by omega), g3 33 (by omega)]
    exact c_tb_k (h5 k hk) fun k k1 k2 => by funext j; rw [q_ud_n (by omega), g3 k (by omega)]
  · exact c_tb_k g2 fun k k1 k2 => by funext j; rw [q_ud_n (by omega)]
theorem r_save {h : q_F} {S : m_St} (hI : r_I h S) (hm : m_I S) : r_W (fn326 h) h (m_oSave S) := by
  have hT : r_T h (q_ud h 139 7 0) := r_T_u r_T_r
  have r := (m_R0_ok hm.1.1).2.1
  obtain ⟨h1, ⟨h2, h3⟩, h4, h5⟩ := r_I_T hI hT
  unfold fn326
  rw [m_let]
  generalize hg : q_ud h 139 7 0 = g at h1 h2 h3 h4 h5 hT ⊢
  rw [fn249_i (by omega) (by omega) (by omega) (by omega) (by omega) (by omega) (by omega) (by omega), Option.bind_some, m_let]
  dsimp only
  rw [show (0 : Int).toNat = 0 from rfl, show (122 : Int).toNat = 122 from rfl, r_of (v := S.w 4) (by omega) (by omega) (by rw [q_ud_n (by omega), m_sr_n (by omega), h1]; rfl) (by omega), Option.bind_some]
  refine ⟨_, _, rfl, ⟨?_, ⟨?_, ?_⟩, q_ud_s _ _ _ _, fun hs j hj => ?_⟩, r_F_t (r_T_F hT) (r_F_t (r_F_sr (by omega)) (r_F_ud (by omega)))⟩
  · funext j; rw [q_ud_n (by omega), m_sr_n (by omega), h1]; rfl
  · rw [q_ud_n (by omega), m_sr_n (by omega)]; exact h2
  · intro k hk j hj
    rw [q_ud_n (by omega), m_sr_n (by omega)]; exact h3 k hk j hj
  · rw [q_ud_n (by omega), m_sr_s]; unfold m_cp; rw [if_pos (by omega), h1]; show S.w _ = S.w j; congr 1; omega
def m_oRest (S : m_St) : m_St := if S.sv = 0 then S else m_mkS (m_lay2 S.ws S.w) 0 S.P S.sv S.ws
theorem m_I_rest {S : m_St} (h : m_I S) : m_I (m_oRest S) := by
  unfold m_oRest; split
  · exact h
  · rename_i c
    exact ⟨m_RI_c (h.2.2.2 c) (fun j hj => m_lay2_e hj), ⟨Nat.zero_le _, fun k hk => absurd hk (Nat.not_lt_zero k)⟩, h.2.2.1, h.2.2.2⟩
theorem c_rest {h : q_F} {S : m_St} (hI : c_I h S) (hm : m_I S) : c_E (fn206 h) h (m_oRest S) (fun k => k = 1 ∨ k = 4) := by
  obtain ⟨h1, ⟨h2, h3, h4, h5⟩, h6, h7⟩ := hI
  unfold m_oRest fn206
  rw [h6]
  by_cases c : S.sv = 0
  · rw [if_pos c, if_pos c]
    exact ⟨4, 0, h, rfl, Or.inr rfl, ⟨h1, ⟨h2, h3, h4, h5⟩, h6, h7⟩, c_F_r⟩
  · rw [if_neg c, if_neg c]
    have ok := hm.2.2.2 c
    obtain ⟨g, g1, g2, g3⟩ := c_copy (t := 6) (t1 := 15) (by omega) (h7 c) (m_R0_ok ok.1).2.1
    rw [g1, Option.bind_some, fn65, m_let, Option.bind_some]
    refine ⟨1, _, q_ud g 33 1 0, rfl, Or.inl rfl, ⟨?_, ⟨q_ud_s _ _ _ _, ?_, ?_, fun k hk => absurd hk (Nat.not_lt_zero k)⟩, ?_, fun _ => ?_⟩, fun k hk => by funext j; rw [q_ud_n (by omega), g3 k (by omega)]⟩
    · exact c_tb_k (c_tb_c g2 (m_R0_ok ok.1).2.1.2 (fun j hj => m_lay2_e hj)) fun k k1 k2 => by funext j; rw [q_ud_n (by omega)]
    · rw [q_ud_n (by omega), g3 33 (by omega)]; exact h3
    · rw [q_ud_n (by omega), g3 33 (by omega)]; exact h4
    · rw [q_ud_n (by omega), g3 0 (by omega)]; exact h6
    · exact c_tb_k (h7 c) fun k k1 k2 => by funext j; rw [q_ud_n (by omega), g3 k (by omega)]
theorem r_rest {h : q_F} {S : m_St} (hI : r_I h S) (hm : m_I S) : r_W (fn322 h) h (m_oRest S) := by
  have hT : r_T h (q_ud h 139 7 0) := r_T_u r_T_r
  have e6 : q_ud h 139 7 0 139 6 = S.sv := (r_I_T hI hT).2.2.1
  unfold m_oRest fn322
  rw [m_let, e6]
  by_cases c : S.sv = 0
  · rw [if_pos c, if_pos c, fn322_18]
    obtain ⟨h0, t1, t2⟩ := r_fails 1 1 (q_ud h 139 7 0)
    have hT2 := r_T_t hT t2
    rw [t1, Option.bind_some, if_neg (show ¬ (1 : Int) = 0 by decide)]
    exact ⟨_, _, rfl, r_I_T hI hT2, r_T_F hT2⟩
  · rw [if_neg c, if_neg c, fn322_18]
    obtain ⟨g, t1, t2⟩ := r_fails 0 1 (q_ud h 139 7 0)
    have hT2 := r_T_t hT t2
    obtain ⟨h1, ⟨h2, h3⟩, h4, h5⟩ := r_I_T hI hT2
    have ok := hm.2.2.2 c
    have r := (m_R0_ok ok.1).2.1
    have er : m_cp (g 143) (g 140) 0 0 122 = m_lay2 S.ws S.w := by
      funext j
      unfold m_cp m_lay2
      by_cases e : j < 122
      · rw [if_pos (by omega), if_pos e, ← h5 c j e]; congr 1; omega
      · rw [if_neg (by omega), if_neg e, h1]
    rw [t1, Option.bind_some, if_pos rfl]
    dsimp only
    rw [fn249_i (by omega) (by omega) (by omega) (by omega) (by omega) (by omega) (by omega) (by omega), Option.bind_some, m_let]
    dsimp only
    rw [show (0 : Int).toNat = 0 from rfl, show (122 : Int).toNat = 122 from rfl, er, r_of (v := S.ws 4) (by omega) (by omega) (by rw [q_ud_n (by omega), m_sr_s]; exact m_lay2_e (by omega)) (by omega), Option.bind_some]
    refine ⟨_, _, rfl, ⟨?_, ⟨q_ud_s _ _ _ _, fun k hk => absurd hk (Nat.not_lt_zero k)⟩, ?_, fun hs j hj => ?_⟩, r_F_t (r_T_F hT2) (r_F_t (r_F_sr (h := g) (k := 140) (by omega)) (r_F_ud (by omega)))⟩
    · funext j; rw [q_ud_n (by omega), m_sr_s]; rfl
    · rw [q_ud_n (by omega), m_sr_n (by omega)]; exact h4
    · rw [q_ud_n (by omega), m_sr_n (by omega)]; exact h5 hs j hj
end -- [80.ops]
section -- [81.ops]
/-! Part 81: whether a move leads nowhere, on both sides. -/
theorem r_nws {K : Int → Option Int} {h : q_F} {w : Nat → Int} {m a f : Nat} {x : Int} (hw : h 140 = w) (ok : m_ok w) (hm : m < 16) (ha : a < 3) (hx : x = 0 ∨ x = 1) :
    fn279_18 K h (f + 1) m x a = fn279_18 K h f m (if x = 0 then 0 else if m_beg w m a = m_beg w (m + 1) a then 1 else 0) ((a + 1 : Nat) : Int) := by
  rw [fn279_18, if_neg (by omega)]
  rcases hx with rfl | rfl
  · rw [if_pos rfl, if_pos rfl, fn279_48, fn279_49, q_w32_id (by omega) (by omega), ← m_s1]
  · rw [if_neg (by decide), if_neg (by decide), fn240_i hw ok (by omega) (by omega) (by omega) (by omega), Option.bind_some, q_w32_id (z := (m : Int) + 1) (by omega) (by omega), fn240_i hw ok (by omega) (by omega) (by omega) (by omega), Option.bind_some, m_tn1, Int.toNat_natCast, Int.toNat_natCast, fn279_48, fn279_49, fn279_49, q_w32_id (z := (a : Int) + 1) (by omega) (by omega), ← m_s1]
    split <;> rfl
theorem m_mv_beg {w : Nat → Int} {m : Nat} : m_mv w m ↔ ¬ (m_beg w m 0 = m_beg w (m + 1) 0 ∧ m_beg w m 1 = m_beg w (m + 1) 1 ∧ m_beg w m 2 = m_beg w (m + 1) 2) := by
  unfold m_mv m_d
  omega
theorem m_nest {A B C : Prop} [Decidable A] [Decidable B] [Decidable C] : (if (if (if A then (1 : Int) else 0) = 0 then (0 : Int) else if B then 1 else 0) = 0 then (0 : Int) else if C then 1 else 0) = if A ∧ B ∧ C then 1 else 0 := by
  by_cases a : A <;> by_cases b : B <;> by_cases c : C <;> simp [a, b, c]
theorem r_nw1 {K : Int → Option Int} {h : q_F} {w : Nat → Int} {m : Nat} (hw : h 140 = w) (ok : m_ok w) (hm : m < 16) :
    (m_mv w m → fn279_18 K h q_fu m 1 0 = K ((m + 1 : Nat) : Int)) ∧ (¬ m_mv w m → fn279_18 K h q_fu m 1 0 = some 1) := by
  obtain ⟨n, e⟩ := m_fu3
  rw [e]
  have g0 := r_nws (K := K) (f := n + 1 + 1 + 1) (x := 1) hw ok hm (show 0 < 3 by omega) (Or.inr rfl)
  rw [if_neg (by decide)] at g0
  have z0 : (if m_beg w m 0 = m_beg w (m + 1) 0 then (1 : Int) else 0) = 0 ∨ (if m_beg w m 0 = m_beg w (m + 1) 0 then (1 : Int) else 0) = 1 := by split <;> simp
  rw [r_nws (f := n + 1 + 1) hw ok hm (show 0 + 1 < 3 by omega) z0] at g0
  have z1 : ∀ x y : Int, x = 0 ∨ x = 1 → (if x = 0 then (0 : Int) else if m_beg w m (0 + 1) = m_beg w (m + 1) (0 + 1) then 1 else 0) = 0 ∨ (if x = 0 then (0 : Int) else if m_beg w m (0 + 1) = m_beg w (m + 1) (0 + 1) then 1 else 0) = 1 := fun x y hx => by (repeat' split) <;> simp
  rw [r_nws (f := n + 1) hw ok hm (show 0 + 1 + 1 < 3 by omega) (z1 _ 0 z0)] at g0
  have en : ∀ x : Int, fn279_18 K h (n + 1) m x ((0 + 1 + 1 + 1 : Nat) : Int) = if x = 0 then K ((m + 1 : Nat) : Int) else some 1 := fun x => by
    rw [fn279_18, if_pos (by omega), q_w32_id (by omega) (by omega), ← m_s1]
  rw [en] at g0
  rw [m_mv_beg]
  refine ⟨fun hv => g0.trans ?_, fun hv => g0.trans ?_⟩
  · rw [m_nest, if_neg hv, if_pos rfl]
  · rw [m_nest, if_pos (Decidable.not_not.mp hv), if_neg (show ¬ (1 : Int) = 0 by decide)]
theorem r_nwl {h : q_F} {w : Nat → Int} (hw : h 140 = w) (ok : m_ok w) : ∀ (d m f : Nat), m + d = (w 4).toNat → d < f → (∀ k, k < m → m_mv w k) → ∃ z, fn279_2 h f m = some z ∧ ((z = 0 ∧ m_nn w) ∨ (z = 1 ∧ ¬ m_nn w)) := by
  have h16 := ok.2.1
  intro d
  induction d with
  | zero =>
    intro m f hm hf hk
    obtain ⟨f, rfl⟩ : ∃ f', f = f' + 1 := ⟨f - 1, by omega⟩
    exact ⟨0, by rw [fn279_2, hw, if_pos (by omega)], Or.inl ⟨rfl, fun k hk2 => hk k (by omega)⟩⟩
  | succ d ih =>
    intro m f hm hf hk
    obtain ⟨f, rfl⟩ : ∃ f', f = f' + 1 := ⟨f - 1, by omega⟩
    rw [fn279_2, hw, if_neg (by omega)]
    obtain ⟨g1, g2⟩ := r_nw1 (K := fn279_2 h f) (m := m) hw ok (by omega)
    by_cases hv : m_mv w m
    · rw [g1 hv]
      exact ih (m + 1) f (by omega) (by omega) (fun k hk2 => by
        by_cases e : k = m
        · subst e; exact hv
        · exact hk k (by omega))
    · rw [g2 hv]
      exact ⟨1, rfl, Or.inr ⟨rfl, fun nn => hv (nn m (by omega))⟩⟩
theorem r_nw {h : q_F} {w : Nat → Int} (hw : h 140 = w) (ok : m_ok w) : ∃ z, fn279 h = some z ∧ ((z = 0 ∧ m_nn w) ∨ (z = 1 ∧ ¬ m_nn w)) :=
  r_nwl hw ok (w 4).toNat 0 q_fu (by omega) (by have := q_fu_ge; have := ok.2.1; omega) (fun k hk => absurd hk (Nat.not_lt_zero k))
/-- a row of targets beside a table's row -/
def c_pt (h : q_F) (g : Nat) (w : Nat → Int) : Prop := h g 1 = w 4 ∧ ∀ j, j < 3 * (w 4).toNat → h (g + 1) j = w (74 + j)
theorem c_pget {h : q_F} {g m a : Nat} {w : Nat → Int} (hp : c_pt h g w) (h4 : w 4 ≤ 16) (hm : (m : Int) < w 4) (ha : a < 3) : fn148 g m a h = some (m_beg w (m + 1) a) := by
  rw [fn148, q_w32_id (z := (m : Int) * 3) (by omega) (by omega), q_w32_id (z := (m : Int) * 3 + a) (by omega) (by omega), c_ent (by omega) (by omega), Option.bind_some, show ((m : Int) * 3 + a).toNat = 3 * m + a by omega, hp.2 _ (by omega)]
  unfold m_beg
  rw [if_neg (by omega)]
  congr 2; omega
theorem c_nws {K4 : Int → Int → Option Int} {h : q_F} {t g : Nat} {w : Nat → Int} {m a f : Nat} {u x : Int} (hp : c_pt h g w) (h4 : w 4 ≤ 16) (hc : ∀ a, a < 3 → h (t + 1 + 2 * a) 12 = w (47 + a)) (hm : (m : Int) < w 4) (ha : a < 3) (hx : x = 0 ∨ x = 1) :
    fn135_18 t g K4 h (f + 1) u m x a = fn135_18 t g K4 h f u m (if x = 0 then 0 else if m_beg w m a = m_beg w (m + 1) a then 1 else 0) ((a + 1 : Nat) : Int) := by
  have tail : ∀ K18 : Int → Int → Int → Int → Option Int, ∀ p0, fn135_49 t g K4 K18 u m x a p0 h = K18 u m (if x = 0 then 0 else if p0 = m_beg w (m + 1) a then 1 else 0) ((a + 1 : Nat) : Int) := fun K18 p0 => by
    rw [fn135_49, fn135_72, fn135_73, fn135_73, q_w32_id (z := (a : Int) + 1) (by omega) (by omega), ← m_s1]
    rcases hx with rfl | rfl
    · rw [if_pos rfl, if_pos rfl]
    · rw [if_neg (by decide), if_neg (by decide), c_pget hp h4 hm ha, Option.bind_some]
      split <;> rfl
  rw [fn135_18, if_neg (by omega), tail]
  by_cases e : m = 0
  · subst e
    rw [if_pos (by omega), q_axn_e ha, hc a ha]
    have : m_beg w 0 a = w (47 + a) := by unfold m_beg; rw [if_pos rfl]
    rw [this]
  · rw [if_neg (by omega), q_w32_id (z := (m : Int) - 1) (by omega) (by omega), show (m : Int) - 1 = ((m - 1 : Nat) : Int) by omega, c_pget hp h4 (by omega) ha, Option.bind_some, tail, show m - 1 + 1 = m by omega]
theorem c_nw1 {K4 : Int → Int → Option Int} {h : q_F} {t g : Nat} {w : Nat → Int} {m : Nat} {u : Int} (hp : c_pt h g w) (h4 : w 4 ≤ 16) (hc : ∀ a, a < 3 → h (t + 1 + 2 * a) 12 = w (47 + a)) (hm : (m : Int) < w 4) (hu : u = 0 ∨ u = 1) :
    (m_mv w m → fn135_18 t g K4 h q_fu u m 1 0 = K4 u ((m + 1 : Nat) : Int)) ∧ (¬ m_mv w m → fn135_18 t g K4 h q_fu u m 1 0 = K4 1 ((m + 1 : Nat) : Int)) := by
  obtain ⟨n, e⟩ := m_fu3
  rw [e]
  have g0 := c_nws (K4 := K4) (u := u) (f := n + 1 + 1 + 1) (x := 1) hp h4 hc hm (show 0 < 3 by omega) (Or.inr rfl)
  rw [if_neg (by decide)] at g0
  have z0 : (if m_beg w m 0 = m_beg w (m + 1) 0 then (1 : Int) else 0) = 0 ∨ (if m_beg w m 0 = m_beg w (m + 1) 0 then (1 : Int) else 0) = 1 := by split <;> simp
  rw [c_nws (f := n + 1 + 1) hp h4 hc hm (show 0 + 1 < 3 by omega) z0] at g0
  have z1 : ∀ x : Int, (if x = 0 then (0 : Int) else if m_beg w m (0 + 1) = m_beg w (m + 1) (0 + 1) then 1 else 0) = 0 ∨ (if x = 0 then (0 : Int) else if m_beg w m (0 + 1) = m_beg w (m + 1) (0 + 1) then 1 else 0) = 1 := fun x => by (repeat' split) <;> simp
  rw [c_nws (f := n + 1) hp h4 hc hm (show 0 + 1 + 1 < 3 by omega) (z1 _)] at g0
  have en : ∀ x : Int, fn135_18 t g K4 h (n + 1) u m x ((0 + 1 + 1 + 1 : Nat) : Int) = if x = 0 then K4 u ((m + 1 : Nat) : Int) else K4 1 ((m + 1 : Nat) : Int) := fun x => by
    rw [fn135_18, if_pos (by omega), fn135_90, fn135_95, fn135_95, q_w32_id (by omega) (by omega), ← m_s1]
    rcases hu with rfl | rfl
    · rw [if_pos rfl]
    · rw [if_neg (by decide), ite_self]
  rw [en] at g0
  rw [m_mv_beg]
  refine ⟨fun hv => g0.trans ?_, fun hv => g0.trans ?_⟩
  · rw [m_nest, if_neg hv, if_pos rfl]
  · rw [m_nest, if_pos (Decidable.not_not.mp hv), if_neg (show ¬ (1 : Int) = 0 by decide)]
theorem c_nwl {h : q_F} {t g : Nat} {w : Nat → Int} (hp : c_pt h g w) (h4 : 0 ≤ w 4 ∧ w 4 ≤ 16) (hc : ∀ a, a < 3 → h (t + 1 + 2 * a) 12 = w (47 + a)) : ∀ (d m f : Nat) (u : Int), m + d = (w 4).toNat → d < f → ((u = 0 ∧ ∀ k, k < m → m_mv w k) ∨ (u = 1 ∧ ¬ ∀ k, k < m → m_mv w k)) → ∃ z, fn135_4 t g h f u m = some z ∧ ((z = 0 ∧ m_nn w) ∨ (z = 1 ∧ ¬ m_nn w)) := by
  intro d
  induction d with
  | zero =>
    intro m f u hm hf hk
    obtain ⟨f, rfl⟩ : ∃ f', f = f' + 1 := ⟨f - 1, by omega⟩
    refine ⟨u, by rw [fn135_4, hp.1, if_pos (by omega)], ?_⟩
    rcases hk with ⟨e, hk⟩ | ⟨e, hk⟩
    · exact Or.inl ⟨e, fun k hk2 => hk k (by omega)⟩
    · exact Or.inr ⟨e, fun nn => hk fun k hk2 => nn k (by omega)⟩
  | succ d ih =>
    intro m f u hm hf hk
    obtain ⟨f, rfl⟩ : ∃ f', f = f' + 1 := ⟨f - 1, by omega⟩
    rw [fn135_4, hp.1, if_neg (by omega)]
    obtain ⟨g1, g2⟩ := c_nw1 (K4 := fn135_4 t g h f) (m := m) (u := u) hp h4.2 hc (by omega) (by omega)
    by_cases hv : m_mv w m
    · rw [g1 hv]
      refine ih (m + 1) f u (by omega) (by omega) ?_
      rcases hk with ⟨e, hk⟩ | ⟨e, hk⟩
      · exact Or.inl ⟨e, fun k hk2 => by
          by_cases e : k = m
          · subst e; exact hv
          · exact hk k (by omega)⟩
      · exact Or.inr ⟨e, fun nn => hk fun k hk2 => nn k (by omega)⟩
    · rw [g2 hv]
      exact ih (m + 1) f 1 (by omega) (by omega) (Or.inr ⟨rfl, fun nn => hv (nn m (by omega))⟩)
theorem c_nw {h : q_F} {t g : Nat} {w : Nat → Int} (hp : c_pt h g w) (h4 : 0 ≤ w 4 ∧ w 4 ≤ 16) (hc : ∀ a, a < 3 → h (t + 1 + 2 * a) 12 = w (47 + a)) : ∃ z, fn135 t g h = some z ∧ ((z = 0 ∧ m_nn w) ∨ (z = 1 ∧ ¬ m_nn w)) :=
  c_nwl hp h4 hc (w 4).toNat 0 q_fu 0 (by omega) (by have := q_fu_ge; omega) (Or.inl ⟨rfl, fun k hk => absurd hk (Nat.not_lt_zero k)⟩)
end -- [81.ops]
section -- [82.ops]
/-! Part 82: targets put in, taken out, swapped, on both sides. -/
theorem m_cp_up {w : Nat → Int} {b k n : Nat} (h1 : 1 ≤ k) (h2 : k ≤ n) : m_cp (m_cp w w (b + 3 * k) (b + 3 * (k + 1)) (3 * (n - k))) (m_cp w w (b + 3 * k) (b + 3 * (k + 1)) (3 * (n - k))) (b + 3 * (k - 1)) (b + 3 * k) 3 = m_cp w w (b + 3 * (k - 1)) (b + 3 * k) (3 * (n - (k - 1))) := by
  funext j
  unfold m_cp
  by_cases c1 : b + 3 * k ≤ j ∧ j < b + 3 * k + 3
  · rw [if_pos c1, if_neg (by omega), if_pos (by omega)]
  · rw [if_neg c1]
    by_cases c2 : b + 3 * (k + 1) ≤ j ∧ j < b + 3 * (k + 1) + 3 * (n - k)
    · rw [if_pos c2, if_pos (by omega)]; congr 1; omega
    · rw [if_neg c2, if_neg (by omega)]
theorem m_cp_dn {w : Nat → Int} {b k i : Nat} (h1 : i ≤ k) : m_cp (m_cp w w (b + 3 * (i + 1)) (b + 3 * i) (3 * (k - i))) (m_cp w w (b + 3 * (i + 1)) (b + 3 * i) (3 * (k - i))) (b + 3 * (k + 1)) (b + 3 * k) 3 = m_cp w w (b + 3 * (i + 1)) (b + 3 * i) (3 * (k + 1 - i)) := by
  funext j
  unfold m_cp
  by_cases c1 : b + 3 * k ≤ j ∧ j < b + 3 * k + 3
  · rw [if_pos c1, if_neg (by omega), if_pos (by omega)]; congr 1; omega
  · rw [if_neg c1]
    by_cases c2 : b + 3 * i ≤ j ∧ j < b + 3 * i + 3 * (k - i)
    · rw [if_pos c2, if_pos (by omega)]
    · rw [if_neg c2, if_neg (by omega)]
theorem m_pt_is (s d : Nat) (v : Nat → Int) : m_pt s d v = m_cp v v (3 * s) (3 * d) 3 := by
  funext j
  unfold m_pt m_cp m_u
  by_cases c2 : j = 3 * d + 2
  · rw [if_pos c2, if_pos (by omega)]; congr 1; omega
  · rw [if_neg c2]
    by_cases c1 : j = 3 * d + 1
    · rw [if_pos c1, if_pos (by omega)]; congr 1; omega
    · rw [if_neg c1]
      by_cases c0 : j = 3 * d + 0
      · rw [if_pos c0, if_pos (by omega)]; congr 1; omega
      · rw [if_neg c0, if_neg (by omega)]
def m_put (i : Nat) (x y z : Int) (w : Nat → Int) : Nat → Int := m_u (m_u (m_u (m_u (m_cp w w (74 + 3 * i) (74 + 3 * (i + 1)) (3 * ((w 4).toNat - i))) (74 + 3 * i) x) (74 + 3 * i + 1) y) (74 + 3 * i + 2) z) 4 (w 4 + 1)
def m_tko (i : Nat) (w : Nat → Int) : Nat → Int := m_u (m_cp w w (74 + 3 * (i + 1)) (74 + 3 * i) (3 * ((w 4).toNat - 1 - i))) 4 (w 4 - 1)
def m_sw1 (m o a : Nat) (w : Nat → Int) : Nat → Int := m_u (m_u w (74 + 3 * m + a) (w (74 + 3 * o + a))) (74 + 3 * o + a) (w (74 + 3 * m + a))
def m_swp (m o : Nat) (w : Nat → Int) : Nat → Int := m_sw1 m o 2 (m_sw1 m o 1 (m_sw1 m o 0 w))
theorem m_put_lo {i : Nat} {x y z : Int} {w : Nat → Int} {j : Nat} (h1 : j < 74) (h2 : j ≠ 4) : m_put i x y z w j = w j := by
  unfold m_put; rw [m_u_n h2, m_u_n (by omega), m_u_n (by omega), m_u_n (by omega)]; unfold m_cp; rw [if_neg (by omega)]
theorem m_put_hi {i : Nat} {x y z : Int} {w : Nat → Int} {j : Nat} (h : 122 ≤ j) (h4 : 0 ≤ w 4 ∧ w 4 < 16) (hi : (i : Int) ≤ w 4) : m_put i x y z w j = w j := by
  unfold m_put; rw [m_u_n (by omega), m_u_n (by omega), m_u_n (by omega), m_u_n (by omega)]; unfold m_cp; rw [if_neg (by omega)]
theorem m_tko_lo {i : Nat} {w : Nat → Int} {j : Nat} (h1 : j < 74) (h2 : j ≠ 4) : m_tko i w j = w j := by
  unfold m_tko; rw [m_u_n h2]; unfold m_cp; rw [if_neg (by omega)]
theorem m_tko_hi {i : Nat} {w : Nat → Int} {j : Nat} (h : 122 ≤ j) (h4 : 0 ≤ w 4 ∧ w 4 ≤ 16) (hi : (i : Int) < w 4) : m_tko i w j = w j := by
  unfold m_tko; rw [m_u_n (by omega)]; unfold m_cp; rw [if_neg (by omega)]
theorem m_swp_o {m o : Nat} {w : Nat → Int} {j : Nat} (h : j < 74 ∨ 122 ≤ j) (hm : m < 16) (ho : o < 16) : m_swp m o w j = w j := by
  unfold m_swp m_sw1
  rw [m_u_n (by omega), m_u_n (by omega), m_u_n (by omega), m_u_n (by omega), m_u_n (by omega), m_u_n (by omega)]
-- the reference
theorem r_puts {i : Nat} {x y z : Int} {w : Nat → Int} (h4 : 0 ≤ w 4 ∧ w 4 < 16) : ∀ (d f : Nat) (h : q_F), i + d ≤ (w 4).toNat → d < f → h 140 = m_cp w w (74 + 3 * (i + d)) (74 + 3 * (i + d + 1)) (3 * ((w 4).toNat - (i + d))) → fn308_7 f i x y z ((i + d : Nat) : Int) h = some (0, m_sr h 140 (m_put i x y z w)) := by
  intro d
  induction d with
  | zero =>
    intro f h hd hf hw
    obtain ⟨f, rfl⟩ : ∃ f', f = f' + 1 := ⟨f - 1, by omega⟩
    have e4 : h 140 4 = w 4 := by rw [hw]; unfold m_cp; rw [if_neg (by omega)]
    rw [fn308_7, if_pos (by omega), q_w32_id (z := 3 * (i : Int)) (by omega) (by omega), q_w32_id (z := 74 + 3 * (i : Int)) (by omega) (by omega), if_pos (by omega), m_let, q_w32_id (z := 74 + 3 * (i : Int) + 1) (by omega) (by omega), if_pos (by omega), m_let, q_w32_id (z := 74 + 3 * (i : Int) + 2) (by omega) (by omega), if_pos (by omega), m_let, m_let, q_ud_n (show ¬ (140 = 140 ∧ 4 = (74 + 3 * (i : Int) + 2).toNat) by omega), q_ud_n (show ¬ (140 = 140 ∧ 4 = (74 + 3 * (i : Int) + 1).toNat) by omega), q_ud_n (show ¬ (140 = 140 ∧ 4 = (74 + 3 * (i : Int)).toNat) by omega), e4, q_w64_id (by omega) (by omega)]
    simp only [m_ud_sr, m_sr_s, m_sr_sr]
    rw [show (74 + 3 * (i : Int) + 2).toNat = 74 + 3 * i + 2 by omega, show (74 + 3 * (i : Int) + 1).toNat = 74 + 3 * i + 1 by omega, show (74 + 3 * (i : Int)).toNat = 74 + 3 * i by omega, hw]
    rfl
  | succ d ih =>
    intro f h hd hf hw
    obtain ⟨f, rfl⟩ : ∃ f', f = f' + 1 := ⟨f - 1, by omega⟩
    rw [fn308_7, if_neg (by omega), q_w32_id (z := ((i + (d + 1) : Nat) : Int) - 1) (by omega) (by omega), q_w32_id (z := 3 * (((i + (d + 1) : Nat) : Int) - 1)) (by omega) (by omega), q_w32_id (z := 74 + 3 * (((i + (d + 1) : Nat) : Int) - 1)) (by omega) (by omega), q_w32_id (z := 3 * ((i + (d + 1) : Nat) : Int)) (by omega) (by omega), q_w32_id (z := 74 + 3 * ((i + (d + 1) : Nat) : Int)) (by omega) (by omega), fn249_i (by omega) (by omega) (by omega) (by omega) (by omega) (by omega) (by omega) (by omega), Option.bind_some]
    have g := ih f (m_sr h 140 (m_cp w w (74 + 3 * (i + d)) (74 + 3 * (i + d + 1)) (3 * ((w 4).toNat - (i + d))))) (by omega) (by omega) (m_sr_s _ _ _)
    rw [m_sr_sr] at g
    have up := m_cp_up (w := w) (b := 74) (k := i + (d + 1)) (n := (w 4).toNat) (by omega) hd
    rw [show i + (d + 1) - 1 = i + d by omega] at up
    rw [hw, show (74 + 3 * (((i + (d + 1) : Nat) : Int) - 1)).toNat = 74 + 3 * (i + d) by omega, show (74 + 3 * ((i + (d + 1) : Nat) : Int)).toNat = 74 + 3 * (i + (d + 1)) by omega, show (3 : Int).toNat = 3 from rfl, up, q_w32_id (by omega) (by omega), show ((i + (d + 1) : Nat) : Int) + -1 = ((i + d : Nat) : Int) by omega]
    exact g
theorem r_putT {i : Nat} {x y z : Int} {w : Nat → Int} {h : q_F} (hw : h 140 = w) (h4 : 0 ≤ w 4 ∧ w 4 < 16) (hi : (i : Int) ≤ w 4) : fn308 i x y z h = some (0, m_sr h 140 (m_put i x y z w)) := by
  have g := r_puts (i := i) (x := x) (y := y) (z := z) h4 ((w 4).toNat - i) q_fu h (by omega) (by have := q_fu_ge; omega) (by
    rw [hw, show i + ((w 4).toNat - i) = (w 4).toNat by omega, Nat.sub_self]; exact (m_cp_0 _ _ _ _).symm)
  rw [show i + ((w 4).toNat - i) = (w 4).toNat by omega, show (((w 4).toNat : Nat) : Int) = w 4 by omega] at g
  rw [fn308, r_of (v := w 4) (by omega) (by omega) (by rw [hw]; rfl) (by omega), Option.bind_some]
  exact g
theorem r_tkos {i : Nat} {w : Nat → Int} (h4 : 0 ≤ w 4 ∧ w 4 ≤ 16) : ∀ (d k f : Nat) (h : q_F), k + d + 1 = (w 4).toNat → i ≤ k → d < f → h 140 = m_cp w w (74 + 3 * (i + 1)) (74 + 3 * i) (3 * (k - i)) → fn349_2 f k h = some (0, m_sr h 140 (m_tko i w)) := by
  intro d
  induction d with
  | zero =>
    intro k f h hk hik hf hw
    obtain ⟨f, rfl⟩ : ∃ f', f = f' + 1 := ⟨f - 1, by omega⟩
    have e4 : h 140 4 = w 4 := by rw [hw]; unfold m_cp; rw [if_neg (by omega)]
    rw [fn349_2, e4, q_w32_id (z := (k : Int) + 1) (by omega) (by omega), if_pos (by omega), m_let, q_w64_id (by omega) (by omega), m_ud_sr, hw]
    unfold m_tko
    rw [show (w 4).toNat - 1 - i = k - i by omega]
  | succ d ih =>
    intro k f h hk hik hf hw
    obtain ⟨f, rfl⟩ : ∃ f', f = f' + 1 := ⟨f - 1, by omega⟩
    have e4 : h 140 4 = w 4 := by rw [hw]; unfold m_cp; rw [if_neg (by omega)]
    rw [fn349_2, e4, q_w32_id (z := (k : Int) + 1) (by omega) (by omega), if_neg (by omega), q_w32_id (z := 3 * ((k : Int) + 1)) (by omega) (by omega), q_w32_id (z := 74 + 3 * ((k : Int) + 1)) (by omega) (by omega), q_w32_id (z := 3 * (k : Int)) (by omega) (by omega), q_w32_id (z := 74 + 3 * (k : Int)) (by omega) (by omega), fn249_i (by omega) (by omega) (by omega) (by omega) (by omega) (by omega) (by omega) (by omega), Option.bind_some, hw, show (74 + 3 * ((k : Int) + 1)).toNat = 74 + 3 * (k + 1) by omega, show (74 + 3 * (k : Int)).toNat = 74 + 3 * k by omega, show (3 : Int).toNat = 3 from rfl, m_cp_dn hik, ← m_s1]
    have g := ih (k + 1) f (m_sr h 140 (m_cp w w (74 + 3 * (i + 1)) (74 + 3 * i) (3 * (k + 1 - i)))) (by omega) (by omega) (by omega) (m_sr_s _ _ _)
    rw [m_sr_sr] at g
    exact g
theorem r_tko {i : Nat} {w : Nat → Int} {h : q_F} (hw : h 140 = w) (h4 : 0 ≤ w 4 ∧ w 4 ≤ 16) (hi : (i : Int) < w 4) : fn349 i h = some (0, m_sr h 140 (m_tko i w)) :=
  r_tkos h4 ((w 4).toNat - 1 - i) i q_fu h (by omega) (by omega) (by have := q_fu_ge; omega) (by rw [hw, Nat.sub_self]; exact (m_cp_0 _ _ _ _).symm)
theorem r_sw1 {m o a f : Nat} {h : q_F} (hm : m < 16) (ho : o < 16) (ha : a < 3) : fn347_2 (f + 1) m o a h = fn347_2 f m o ((a + 1 : Nat) : Int) (m_sr h 140 (m_sw1 m o a (h 140))) := by
  rw [fn347_2, if_neg (by omega), q_w32_id (z := 3 * (m : Int)) (by omega) (by omega), q_w32_id (z := 74 + 3 * (m : Int)) (by omega) (by omega), q_w32_id (z := 74 + 3 * (m : Int) + a) (by omega) (by omega), q_w32_id (z := 3 * (o : Int)) (by omega) (by omega), q_w32_id (z := 74 + 3 * (o : Int)) (by omega) (by omega), q_w32_id (z := 74 + 3 * (o : Int) + a) (by omega) (by omega), if_pos (by omega), if_pos (by omega), if_pos (by omega), m_let, if_pos (by omega), m_let, q_w32_id (z := (a : Int) + 1) (by omega) (by omega), m_ud_sr, m_ud_sr, m_sr_s, m_sr_sr, show (74 + 3 * (m : Int) + a).toNat = 74 + 3 * m + a by omega, show (74 + 3 * (o : Int) + a).toNat = 74 + 3 * o + a by omega, ← m_s1]
  rfl
theorem r_swp {m o : Nat} {w : Nat → Int} {h : q_F} (hw : h 140 = w) (hm : m < 16) (ho : o < 16) : fn347 m o h = some (0, m_sr h 140 (m_swp m o w)) := by
  obtain ⟨n, e⟩ := m_fu3
  have g := r_sw1 (f := n + 1 + 1 + 1) (h := h) hm ho (show 0 < 3 by omega)
  rw [r_sw1 (f := n + 1 + 1) hm ho (show 0 + 1 < 3 by omega), r_sw1 (f := n + 1) hm ho (show 0 + 1 + 1 < 3 by omega)] at g
  simp only [m_sr_s, m_sr_sr] at g
  rw [fn347, e, ← hw]
  refine g.trans ?_
  rw [fn347_2, if_pos (by omega)]
  rfl
-- the class
theorem c_pset {g m a : Nat} {v : Int} {h : q_F} (hm : m < 16) (ha : a < 3) : fn154 g m a v h = some (0, q_ud h (g + 1) (3 * m + a) v) := by
  rw [fn154, q_w32_id (z := (m : Int) * 3) (by omega) (by omega), q_w32_id (z := (m : Int) * 3 + a) (by omega) (by omega), c_put (by omega) (by omega), Option.bind_some, show ((m : Int) * 3 + a).toNat = 3 * m + a by omega]
theorem c_pgr {g m a : Nat} {h : q_F} (hm : m < 16) (ha : a < 3) : fn148 g m a h = some (h (g + 1) (3 * m + a)) := by
  rw [fn148, q_w32_id (z := (m : Int) * 3) (by omega) (by omega), q_w32_id (z := (m : Int) * 3 + a) (by omega) (by omega), c_ent (by omega) (by omega), Option.bind_some, show ((m : Int) * 3 + a).toNat = 3 * m + a by omega]
theorem c_pcopy {h : q_F} {w : Nat → Int} (hc : c_tb h 6 w) (h4 : 0 ≤ w 4 ∧ w 4 ≤ 16) : ∃ h', fn144 135 13 h = some (0, h') ∧ c_pt h' 135 w ∧ c_fo 135 h h' := by
  have e : h 13 1 = w 4 := hc.2.2.1
  obtain ⟨h', g1, g2, g3, g4⟩ := c_cp144 (o := 135) (o1 := 13) (h := h) (by rw [e]; exact h4) (by omega) (by omega)
  rw [e] at g2 g3
  exact ⟨h', g1, ⟨g2, fun j hj => (g3 j hj).trans (hc.2.2.2 j hj)⟩, g4⟩
theorem c_putl {i n : Nat} {x y z : Int} {v : Nat → Int} {g : Nat} (hn : n < 16) : ∀ (d f : Nat) (h : q_F), i + d ≤ n → d < f → h g 1 = (n : Int) → h (g + 1) = m_cp v v (3 * (i + d)) (3 * (i + d + 1)) (3 * (n - (i + d))) →
    fn150_16 g f i x y z ((i + d : Nat) : Int) h = some (0, q_ud (m_sr h (g + 1) (m_u (m_u (m_u (m_cp v v (3 * i) (3 * (i + 1)) (3 * (n - i))) (3 * i) x) (3 * i + 1) y) (3 * i + 2) z)) g 1 ((n : Int) + 1)) := by
  intro d
  induction d with
  | zero =>
    intro f h hd hf h1 hv
    obtain ⟨f, rfl⟩ : ∃ f', f = f' + 1 := ⟨f - 1, by omega⟩
    have s0 : ∀ v h, fn154 g i 0 v h = some (0, q_ud h (g + 1) (3 * i) v) := fun v h => c_pset (a := 0) (by omega) (by omega)
    rw [fn150_16, if_pos (by omega), s0, Option.bind_some]
    dsimp only
    have s1 : ∀ v h, fn154 g i 1 v h = some (0, q_ud h (g + 1) (3 * i + 1) v) := fun v h => c_pset (a := 1) (by omega) (by omega)
    have s2 : ∀ v h, fn154 g i 2 v h = some (0, q_ud h (g + 1) (3 * i + 2) v) := fun v h => c_pset (a := 2) (by omega) (by omega)
    rw [s1, Option.bind_some]
    dsimp only
    rw [s2, Option.bind_some]
    dsimp only
    rw [m_let, q_ud_n (by omega), q_ud_n (by omega), q_ud_n (by omega), h1, q_w32_id (by omega) (by omega)]
    simp only [m_ud_sr, m_sr_s, m_sr_sr]
    rw [hv]
    rfl
  | succ d ih =>
    intro f h hd hf h1 hv
    obtain ⟨f, rfl⟩ : ∃ f', f = f' + 1 := ⟨f - 1, by omega⟩
    have up := m_cp_up (w := v) (b := 0) (k := i + (d + 1)) (n := n) (by omega) hd
    simp only [Nat.zero_add] at up
    rw [show i + (d + 1) - 1 = i + d by omega] at up
    have g2 := ih f (m_sr h (g + 1) (m_cp v v (3 * (i + d)) (3 * (i + d + 1)) (3 * (n - (i + d))))) (by omega) (by omega) (by rw [m_sr_n (by omega)]; exact h1) (m_sr_s _ _ _)
    rw [m_sr_sr] at g2
    rw [fn150_16, if_neg (by omega), q_w32_id (z := ((i + (d + 1) : Nat) : Int) - 1) (by omega) (by omega), show ((i + (d + 1) : Nat) : Int) - 1 = ((i + d : Nat) : Int) by omega, c_cp3 (by omega) (by omega), Option.bind_some, m_pt_is, hv, up, q_w32_id (by omega) (by omega), show ((i + (d + 1) : Nat) : Int) + -1 = ((i + d : Nat) : Int) by omega]
    exact g2
theorem c_pput {h : q_F} {g i : Nat} {x y z : Int} {w : Nat → Int} (hp : c_pt h g w) (h4 : 0 ≤ w 4 ∧ w 4 < 16) (hi : (i : Int) ≤ w 4) : ∃ h', fn150 g i x y z h = some (0, h') ∧ c_pt h' g (m_put i x y z w) ∧ c_fo g h h' := by
  have g1 := c_putl (i := i) (n := (w 4).toNat) (x := x) (y := y) (z := z) (v := h (g + 1)) (g := g) (by omega) ((w 4).toNat - i) q_fu h (by omega) (by have := q_fu_ge; omega) (by rw [hp.1]; omega) (by
    rw [show i + ((w 4).toNat - i) = (w 4).toNat by omega, Nat.sub_self]; exact (m_cp_0 _ _ _ _).symm)
  rw [show i + ((w 4).toNat - i) = (w 4).toNat by omega, show (((w 4).toNat : Nat) : Int) = w 4 by omega] at g1
  refine ⟨_, by rw [fn150, hp.1, if_pos h4.2]; exact g1, ⟨?_, fun j hj => ?_⟩, fun k k1 k2 => by funext j; rw [q_ud_n (by omega), m_sr_n k2]⟩
  · rw [q_ud_s]; unfold m_put; rw [m_u_s]
  · have e4 : m_put i x y z w 4 = w 4 + 1 := by unfold m_put; rw [m_u_s]
    rw [e4] at hj
    rw [q_ud_n (by omega), m_sr_s]
    unfold m_put
    rw [m_u_n (show 74 + j ≠ 4 by omega)]
    by_cases c2 : j = 3 * i + 2
    · subst c2; rw [m_u_s, show 74 + (3 * i + 2) = 74 + 3 * i + 2 by omega, m_u_s]
    · rw [m_u_n c2, m_u_n (show 74 + j ≠ 74 + 3 * i + 2 by omega)]
      by_cases c1 : j = 3 * i + 1
      · subst c1; rw [m_u_s, show 74 + (3 * i + 1) = 74 + 3 * i + 1 by omega, m_u_s]
      · rw [m_u_n c1, m_u_n (show 74 + j ≠ 74 + 3 * i + 1 by omega)]
        by_cases c0 : j = 3 * i
        · subst c0; rw [m_u_s, m_u_s]
        · rw [m_u_n c0, m_u_n (show 74 + j ≠ 74 + 3 * i by omega)]
          unfold m_cp
          by_cases c : 3 * (i + 1) ≤ j ∧ j < 3 * (i + 1) + 3 * ((w 4).toNat - i)
          · rw [if_pos c, if_pos (by omega), hp.2 _ (by omega)]; congr 1; omega
          · rw [if_neg c, if_neg (by omega), hp.2 _ (by omega)]
theorem c_tkol {i n : Nat} {v : Nat → Int} {g : Nat} (hn : n ≤ 16) (hi : i < n) : ∀ (d u f : Nat) (h : q_F), u + d = n → i < u → d < f → h g 1 = (n : Int) → h (g + 1) = m_cp v v (3 * (i + 1)) (3 * i) (3 * (u - 1 - i)) →
    fn152_4 g f u h = some (0, q_ud (m_sr h (g + 1) (m_cp v v (3 * (i + 1)) (3 * i) (3 * (n - 1 - i)))) g 1 ((n : Int) - 1)) := by
  intro d
  induction d with
  | zero =>
    intro u f h hu hiu hf h1 hv
    obtain ⟨f, rfl⟩ : ∃ f', f = f' + 1 := ⟨f - 1, by omega⟩
    obtain rfl : u = n := by omega
    have mx : qx_mx ((u : Int) - 1) 0 = (u : Int) - 1 := by unfold qx_mx; split <;> omega
    rw [fn152_4, h1, if_pos (by omega), m_let, q_w32_id (by omega) (by omega), mx, ← hv, m_sr_id]
  | succ d ih =>
    intro u f h hu hiu hf h1 hv
    obtain ⟨f, rfl⟩ : ∃ f', f = f' + 1 := ⟨f - 1, by omega⟩
    have dn := m_cp_dn (w := v) (b := 0) (k := u - 1) (i := i) (by omega)
    simp only [Nat.zero_add] at dn
    rw [show u - 1 + 1 = u by omega] at dn
    have g2 := ih (u + 1) f (m_sr h (g + 1) (m_cp v v (3 * (i + 1)) (3 * i) (3 * (u - i)))) (by omega) (by omega) (by omega) (by rw [m_sr_n (by omega)]; exact h1) (by rw [m_sr_s]; congr 1)
    rw [m_sr_sr] at g2
    rw [fn152_4, h1, if_neg (by omega), q_w32_id (z := (u : Int) - 1) (by omega) (by omega), show (u : Int) - 1 = ((u - 1 : Nat) : Int) by omega, c_cp3 (by omega) (by omega), Option.bind_some, m_pt_is, hv, dn, q_w32_id (by omega) (by omega), ← m_s1]
    exact g2
theorem c_ptko {h : q_F} {g i : Nat} {w : Nat → Int} (hp : c_pt h g w) (h4 : 0 ≤ w 4 ∧ w 4 ≤ 16) (hi : (i : Int) < w 4) : ∃ h', fn152 g i h = some (0, h') ∧ c_pt h' g (m_tko i w) ∧ c_fo g h h' := by
  have g1 := c_tkol (i := i) (n := (w 4).toNat) (v := h (g + 1)) (g := g) (by omega) (by omega) ((w 4).toNat - (i + 1)) (i + 1) q_fu h (by omega) (by omega) (by have := q_fu_ge; omega) (by rw [hp.1]; omega) (by
    rw [show i + 1 - 1 - i = 0 by omega]; exact (m_cp_0 _ _ _ _).symm)
  rw [show (((w 4).toNat : Nat) : Int) = w 4 by omega] at g1
  refine ⟨_, by rw [fn152, q_w32_id (by omega) (by omega), ← m_s1]; exact g1, ⟨?_, fun j hj => ?_⟩, fun k k1 k2 => by funext j; rw [q_ud_n (by omega), m_sr_n k2]⟩
  · rw [q_ud_s]; unfold m_tko; rw [m_u_s]
  · have e4 : m_tko i w 4 = w 4 - 1 := by unfold m_tko; rw [m_u_s]
    rw [e4] at hj
    rw [q_ud_n (by omega), m_sr_s]
    unfold m_tko
    rw [m_u_n (show 74 + j ≠ 4 by omega)]
    unfold m_cp
    by_cases c : 3 * i ≤ j ∧ j < 3 * i + 3 * ((w 4).toNat - 1 - i)
    · rw [if_pos c, if_pos (by omega), hp.2 _ (by omega)]; congr 1; omega
    · rw [if_neg c, if_neg (by omega), hp.2 _ (by omega)]
theorem c_psw1 {h : q_F} {g m o a f : Nat} {w : Nat → Int} (hp : c_pt h g w) (h4 : w 4 ≤ 16) (hm : (m : Int) < w 4) (ho : (o : Int) < w 4) (ha : a < 3) : ∃ h', fn146_2 g (f + 1) m o a h = fn146_2 g f m o ((a + 1 : Nat) : Int) h' ∧ c_pt h' g (m_sw1 m o a w) ∧ c_fo g h h' := by
  refine ⟨q_ud (q_ud h (g + 1) (3 * m + a) (h (g + 1) (3 * o + a))) (g + 1) (3 * o + a) (h (g + 1) (3 * m + a)), ?_, ⟨?_, fun j hj => ?_⟩, fun k k1 k2 => by funext j; rw [q_ud_n (by omega), q_ud_n (by omega)]⟩
  · rw [fn146_2, if_neg (by omega), c_pgr (by omega) ha, Option.bind_some, c_pgr (by omega) ha, Option.bind_some, c_pset (by omega) ha, Option.bind_some, c_pset (by omega) ha, Option.bind_some, q_w32_id (z := (a : Int) + 1) (by omega) (by omega), ← m_s1]
  · rw [q_ud_n (by omega), q_ud_n (by omega), hp.1]; unfold m_sw1; rw [m_u_n (by omega), m_u_n (by omega)]
  · have e4 : m_sw1 m o a w 4 = w 4 := by unfold m_sw1; rw [m_u_n (by omega), m_u_n (by omega)]
    rw [e4] at hj
    unfold m_sw1
    by_cases c1 : j = 3 * o + a
    · subst c1; rw [q_ud_s, show 74 + (3 * o + a) = 74 + 3 * o + a by omega, m_u_s, hp.2 _ (by omega)]; congr 1; omega
    · rw [q_ud_n (by omega), m_u_n (show 74 + j ≠ 74 + 3 * o + a by omega)]
      by_cases c2 : j = 3 * m + a
      · subst c2; rw [q_ud_s, show 74 + (3 * m + a) = 74 + 3 * m + a by omega, m_u_s, hp.2 _ (by omega)]; congr 1; omega
      · rw [q_ud_n (by omega), m_u_n (show 74 + j ≠ 74 + 3 * m + a by omega)]; exact hp.2 j hj
theorem c_pswp {h : q_F} {g m o : Nat} {w : Nat → Int} (hp : c_pt h g w) (h4 : w 4 ≤ 16) (hm : (m : Int) < w 4) (ho : (o : Int) < w 4) : ∃ h', fn146 g m o h = some (0, h') ∧ c_pt h' g (m_swp m o w) ∧ c_fo g h h' := by
  obtain ⟨n, e⟩ := m_fu3
  have k : ∀ a w, m_sw1 m o a w 4 = w 4 := fun a w => by unfold m_sw1; rw [m_u_n (by omega), m_u_n (by omega)]
  obtain ⟨h1, a1, a2, a3⟩ := c_psw1 (f := n + 1 + 1 + 1) hp h4 hm ho (show 0 < 3 by omega)
  obtain ⟨h2, b1, b2, b3⟩ := c_psw1 (f := n + 1 + 1) a2 (by rw [k]; exact h4) (by rw [k]; exact hm) (by rw [k]; exact ho) (show 0 + 1 < 3 by omega)
  obtain ⟨h3, d1, d2, d3⟩ := c_psw1 (f := n + 1) b2 (by rw [k, k]; exact h4) (by rw [k, k]; exact hm) (by rw [k, k]; exact ho) (show 0 + 1 + 1 < 3 by omega)
  refine ⟨h3, ?_, d2, c_fo_t a3 (c_fo_t b3 d3)⟩
  rw [fn146, e]
  refine a1.trans (b1.trans (d1.trans ?_))
  rw [fn146_2, if_pos (by omega)]
end -- [82.ops]
section -- [83.ops]
/-! Part 83: queue, insert, dropTarget, swapTargets on both sides. -/
noncomputable def m_oTake (w' : Nat → Int) (S : m_St) : m_St := @ite _ (m_nn w') (Classical.propDecidable _) (m_set (m_rem S) w') S
theorem m_oTake_p {w' : Nat → Int} {S : m_St} (h : m_nn w') : m_oTake w' S = m_set (m_rem S) w' := by unfold m_oTake; rw [if_pos h]
theorem m_oTake_n {w' : Nat → Int} {S : m_St} (h : ¬ m_nn w') : m_oTake w' S = S := by unfold m_oTake; rw [if_neg h]
theorem m_I_take {w' : Nat → Int} {S : m_St} (h : m_I S) (h0 : m_R0 w') : m_I (m_oTake w' S) := by
  by_cases c : m_nn w'
  · rw [m_oTake_p c]; exact m_I_set (m_I_rem h) ⟨h0, c⟩
  · rw [m_oTake_n c]; exact h
theorem m_a3_lo {w w' : Nat → Int} (h : m_a3 w) (e : ∀ j, 8 ≤ j → j < 74 → w' j = w j) : m_a3 w' := m_a3_of fun a ha => by
  have g := m_a3_i h ha
  unfold m_ai
  rw [e (29 + a) (by omega) (by omega), e (11 + a) (by omega) (by omega), e (26 + a) (by omega) (by omega), e (8 + a) (by omega) (by omega), e (53 + a) (by omega) (by omega), e (20 + a) (by omega) (by omega), e (23 + a) (by omega) (by omega), e (44 + a) (by omega) (by omega), e (32 + a) (by omega) (by omega), e (56 + a) (by omega) (by omega), e (59 + a) (by omega) (by omega)]
  exact g
theorem m_R0_cp {w : Nat → Int} {x y n : Nat} (h : m_R0 w) (hx : 74 ≤ x ∧ x + n ≤ 122) (hy : 74 ≤ y) : m_R0 (m_cp w w x y n) := by
  refine ⟨fun j hj => ?_, m_a3_lo h.2 fun j h1 h2 => by unfold m_cp; rw [if_neg (by omega)]⟩
  unfold m_cp
  split
  · exact m_pv_47 (by omega) ((m_R0_ok h).2.2.2 _ (by omega) (by omega))
  · exact h.1 j hj
theorem m_R0_put {i : Nat} {x y z : Int} {w : Nat → Int} (h : m_R0 w) (h4 : w 4 < 16) (hi : (i : Int) ≤ w 4) (hx : 0 ≤ x ∧ x ≤ 2000) (hy : 0 ≤ y ∧ y ≤ 2000) (hz : 0 ≤ z ∧ z ≤ 2000) : m_R0 (m_put i x y z w) := by
  have r := (m_R0_ok h).2.1
  exact m_R0_v (m_R0_v (m_R0_v (m_R0_v (m_R0_cp h (by omega) (by omega)) (m_pv_47 (by omega) hx) (by omega)) (m_pv_47 (by omega) hy) (by omega)) (m_pv_47 (by omega) hz) (by omega)) (m_pv_4 (by omega)) (by omega)
theorem m_R0_tko {i : Nat} {w : Nat → Int} (h : m_R0 w) (hi : (i : Int) < w 4) : m_R0 (m_tko i w) := by
  have r := (m_R0_ok h).2.1
  exact m_R0_v (m_R0_cp h (by omega) (by omega)) (m_pv_4 (by omega)) (by omega)
theorem m_R0_sw1 {m o a : Nat} {w : Nat → Int} (h : m_R0 w) (hm : m < 16) (ho : o < 16) (ha : a < 3) : m_R0 (m_sw1 m o a w) := by
  have t := (m_R0_ok h).2.2.2
  exact m_R0_v (m_R0_v h (m_pv_47 (by omega) (t _ (by omega) (by omega))) (by omega)) (m_pv_47 (by omega) (t _ (by omega) (by omega))) (by omega)
theorem m_R0_swp {m o : Nat} {w : Nat → Int} (h : m_R0 w) (hm : m < 16) (ho : o < 16) : m_R0 (m_swp m o w) := m_R0_sw1 (m_R0_sw1 (m_R0_sw1 h hm ho (by omega)) hm ho (by omega)) hm ho (by omega)
-- in thought
theorem r_begins {h : q_F} : fn241 h = some (0, m_sr h 142 (m_cp (h 140) (h 142) 0 0 122)) := by
  rw [fn241, fn249_i (by omega) (by omega) (by omega) (by omega) (by omega) (by omega) (by omega) (by omega), Option.bind_some]
  rfl
theorem r_ends {h : q_F} {w : Nat → Int} (h1 : ∀ j, j < 122 → h 142 j = w j) (h2 : ∀ j, 122 ≤ j → h 140 j = w j) : fn253 h = some (0, m_sr h 140 w) := by
  rw [fn253, fn249_i (by omega) (by omega) (by omega) (by omega) (by omega) (by omega) (by omega) (by omega), Option.bind_some]
  have e : m_cp (h 142) (h 140) (0 : Int).toNat (0 : Int).toNat (122 : Int).toNat = w := by
    funext j
    unfold m_cp
    rw [show (0 : Int).toNat = 0 from rfl, show (122 : Int).toNat = 122 from rfl]
    by_cases c : j < 122
    · rw [if_pos (by omega), ← h1 j c]; congr 1; omega
    · rw [if_neg (by omega)]; exact h2 j (by omega)
  rw [e]
theorem r_try {F T : q_F → Option (Int × q_F)} {g : q_F} {S : m_St} {U : Nat → Int} (hF : ∀ h, h 140 = S.w → F h = some (0, m_sr h 140 U)) (hU : m_ok U) (hhi : ∀ j, 122 ≤ j → U j = S.w j) (hI : r_I g S) :
    ∃ h' h'', r_I h' S ∧ r_F g h' ∧ r_I h'' S ∧ r_F g h'' ∧ (m_nn U → ((fn241 g).bind fun x5 => (F x5.2).bind fun x6 => (fn279 x6.2).bind fun x7 => (fn253 x6.2).bind fun x8 => (fn258 x7 2 x8.2).bind fun x9 => if x9.1 = 0 then T x9.2 else some (0, x9.2)) = T h') ∧
    (¬ m_nn U → ((fn241 g).bind fun x5 => (F x5.2).bind fun x6 => (fn279 x6.2).bind fun x7 => (fn253 x6.2).bind fun x8 => (fn258 x7 2 x8.2).bind fun x9 => if x9.1 = 0 then T x9.2 else some (0, x9.2)) = some (0, h'')) := by
  have I1 : r_I (m_sr g 142 (m_cp (g 140) (g 142) 0 0 122)) S := r_I_k hI (fun k hk => m_sr_n (by omega)) (by rw [m_sr_n (by omega)]) (by rw [m_sr_n (by omega)])
  have F1 : r_F g (m_sr g 142 (m_cp (g 140) (g 142) 0 0 122)) := r_F_sr (by omega)
  have a142 : ∀ j, j < 122 → m_sr g 142 (m_cp (g 140) (g 142) 0 0 122) 142 j = S.w j := fun j hj => by
    rw [m_sr_s]; unfold m_cp; rw [if_pos (by omega), hI.1]; congr 1; omega
  rw [r_begins, Option.bind_some]
  dsimp only
  generalize m_sr g 142 (m_cp (g 140) (g 142) 0 0 122) = g1 at I1 F1 a142 ⊢
  rw [hF g1 I1.1, Option.bind_some]
  dsimp only
  obtain ⟨z, e1, e2⟩ := r_nw (m_sr_s g1 140 U) hU
  have e3 : fn253 (m_sr g1 140 U) = some (0, g1) := by
    rw [r_ends (w := S.w) (fun j hj => by rw [m_sr_n (by omega)]; exact a142 j hj) (fun j hj => by rw [m_sr_s]; exact hhi j hj), m_sr_sr, ← I1.1, m_sr_id]
  rw [e1, Option.bind_some, e3, Option.bind_some]
  dsimp only
  obtain ⟨h', t1, t2⟩ := r_fails z 2 g1
  rw [t1, Option.bind_some]
  refine ⟨h', h', r_I_T I1 t2, r_F_t F1 (r_T_F t2), r_I_T I1 t2, r_F_t F1 (r_T_F t2), fun nn => ?_, fun nn => ?_⟩
  · rw [if_pos (by rcases e2 with e | e; exact e.1; exact absurd nn e.2)]
  · rw [if_neg (by rcases e2 with e | e; exact absurd e.2 nn; show ¬ z = 0; omega)]
/-- the end of a change of the queue -/
theorem r_done {F : q_F → Option (Int × q_F)} {h' : q_F} {S : m_St} {U : Nat → Int} (hF : ∀ h, h 140 = S.w → F h = some (0, m_sr h 140 U)) (hI : r_I h' S) (hn : S.n ≤ 10) : ∃ h1, fn320 h' = some (0, h1) ∧ F h1 = some (0, m_sr h1 140 U) ∧ r_I (m_sr h1 140 U) (m_set (m_rem S) U) ∧ r_F h' (m_sr h1 140 U) := by
  obtain ⟨h1, a1, a2, a3, a4⟩ := r_remember hI hn
  exact ⟨h1, a1, hF h1 a2.1, r_I_set a2, r_F_t (r_F_rem a3 a4) (r_F_sr (by omega))⟩
theorem c_take {h : q_F} {S : m_St} {w' : Nat → Int} (hI : c_I h S) (hm : m_I S) (hp : c_pt h 135 w') (e : ∀ j, j < 74 → j ≠ 4 → w' j = S.w j) (h4 : 0 ≤ w' 4 ∧ w' 4 ≤ 16) : ∃ k v h', fn221 h = some (k, v, h') ∧ (k = 1 ∨ k = 4) ∧ (k = 1 → m_nn w') ∧ c_I h' (m_oTake w' S) ∧ c_F h h' := by
  obtain ⟨z, z1, z2⟩ := c_nw (t := 6) hp h4 (fun a ha => by rw [e _ (by omega) (by omega)]; exact (hI.1.1 a ha).1 12 (by omega))
  unfold fn221
  rw [z1, Option.bind_some]
  rcases z2 with ⟨rfl, nn⟩ | ⟨rfl, nn⟩
  · rw [if_pos rfl, m_oTake_p nn]
    obtain ⟨h1, a1, a2, a3⟩ := c_remember hI hm
    have p1 : c_pt h1 135 w' := ⟨by rw [a3 135 (by omega)]; exact hp.1, fun j hj => by rw [a3 136 (by omega)]; exact hp.2 j hj⟩
    obtain ⟨h2, b1, b2, b3, b4⟩ := c_cp144 (o := 13) (o1 := 135) (h := h1) (by rw [p1.1]; exact h4) (by omega) (by omega)
    rw [a1, Option.bind_some, b1, Option.bind_some]
    have f : c_ft 6 h1 h2 := fun k hk => b4 k (by omega) (by omega)
    rw [p1.1] at b2 b3
    have tb : c_tb h2 6 w' := c_tb_g7 a2.1 (fun k k1 k2 => b4 k k1 k2) (fun j hj hj2 => e j hj hj2) b2 (fun j hj => (b3 j hj).trans (p1.2 j hj))
    exact ⟨1, _, h2, rfl, Or.inl rfl, fun _ => nn, c_I_set a2 f tb, c_F_t (c_F_rem a3) (c_F_ft f)⟩
  · rw [if_neg (by decide), m_oTake_n nn]
    exact ⟨4, 0, h, rfl, Or.inr rfl, fun h9 => absurd h9 (by decide), hI, c_F_r⟩
abbrev m_point (x y z : Int) (w : Nat → Int) : Prop := (0 ≤ x ∧ x ≤ w 8) ∧ (0 ≤ y ∧ y ≤ w 9) ∧ (0 ≤ z ∧ z ≤ w 10)
abbrev m_may (w : Nat → Int) : Prop := w 3 = 0 ∧ w 41 + w 42 + w 43 = 3 ∧ w 4 < 16
noncomputable def m_oPut (i x y z : Int) (S : m_St) : m_St := if (0 ≤ i ∧ i ≤ S.w 4) ∧ m_point x y z S.w then (if m_may S.w then m_oTake (m_put i.toNat x y z S.w) S else S) else S
theorem m_pt_r {S : m_St} {x y z : Int} (hm : m_I S) (h : m_point x y z S.w) : (0 ≤ x ∧ x ≤ 2000) ∧ (0 ≤ y ∧ y ≤ 2000) ∧ (0 ≤ z ∧ z ≤ 2000) := by
  have o := (m_R0_ok hm.1.1).2.2.1
  have o0 := o 0 (by omega)
  have o1 := o 1 (by omega)
  have o2 := o 2 (by omega)
  simp only [Nat.add_zero, Nat.reduceAdd] at o0 o1 o2
  obtain ⟨a, b, c⟩ := h
  omega
theorem m_I_put {S : m_St} {i x y z : Int} (h : m_I S) : m_I (m_oPut i x y z S) := by
  unfold m_oPut; split
  · split
    · rename_i c1 c2
      have p := m_pt_r h c1.2
      exact m_I_take h (m_R0_put h.1.1 c2.2.2 (by omega) p.1 p.2.1 p.2.2)
    · exact h
  · exact h
theorem m_hz {S : m_St} (h : m_I S) : (S.w 41 = 0 ∨ S.w 41 = 1) ∧ (S.w 42 = 0 ∨ S.w 42 = 1) ∧ (S.w 43 = 0 ∨ S.w 43 = 1) := ⟨(h.1.1.1 41 (by omega)).2.1 (by omega), (h.1.1.1 42 (by omega)).2.1 (by omega), (h.1.1.1 43 (by omega)).2.1 (by omega)⟩
theorem c_homed {h : q_F} {S : m_St} (hI : c_I h S) (hm : m_I S) : fn132 6 h = some (S.w 41 + S.w 42 + S.w 43) := by
  obtain ⟨z1, z2, z3⟩ := m_hz hm
  have e1 : h (6 + 1) 11 = S.w 41 := (hI.1.1 0 (by omega)).1 11 (by omega)
  have e2 : h (6 + 3) 11 = S.w 42 := (hI.1.1 1 (by omega)).1 11 (by omega)
  have e3 : h (6 + 5) 11 = S.w 43 := (hI.1.1 2 (by omega)).1 11 (by omega)
  unfold fn132 fn132_15 fn132_30
  rw [e1, e2, e3]
  rcases z1 with z1 | z1 <;> rcases z2 with z2 | z2 <;> rcases z3 with z3 | z3 <;> rw [z1, z2, z3] <;> rfl
theorem r_homed {h : q_F} {S : m_St} (hI : r_I h S) (hm : m_I S) : fn265 h = some (S.w 41 + S.w 42 + S.w 43) := by
  obtain ⟨z1, z2, z3⟩ := m_hz hm
  obtain ⟨n, e⟩ := m_fu3
  have st : ∀ (f k : Nat) (u : Int), k < 3 → 0 ≤ u → u ≤ 3 → (S.w (41 + k) = 0 ∨ S.w (41 + k) = 1) → fn265_4 h (f + 1) u k = fn265_4 h f (u + S.w (41 + k)) ((k + 1 : Nat) : Int) := fun f k u hk u0 u1 hz => by
    rw [fn265_4, if_neg (by omega), q_w32_id (z := 41 + (k : Int)) (by omega) (by omega), r_of (v := S.w (41 + k)) (by omega) (by omega) (by rw [hI.1, show (41 + (k : Int)).toNat = 41 + k by omega]) (by omega), Option.bind_some, q_w32_id (z := u + S.w (41 + k)) (by omega) (by omega), q_w32_id (by omega) (by omega), ← m_s1]
  have g := st (n + 1 + 1 + 1) 0 0 (by omega) (by omega) (by omega) z1
  rw [st (n + 1 + 1) (0 + 1) _ (by omega) (by show 0 ≤ 0 + S.w 41; omega) (by show 0 + S.w 41 ≤ 3; omega) z2, st (n + 1) (0 + 1 + 1) _ (by omega) (by show 0 ≤ 0 + S.w 41 + S.w 42; omega) (by show 0 + S.w 41 + S.w 42 ≤ 3; omega) z3] at g
  rw [fn265, e]
  refine g.trans ?_
  rw [fn265_4, if_pos (by omega)]
  show some (0 + S.w 41 + S.w 42 + S.w 43) = _
  rw [Int.zero_add]
theorem c_room {h : q_F} {S : m_St} (hI : c_I h S) (hm : m_I S) : fn168 h = some (if m_may S.w then 0 else 4, 0, h) := by
  have e : h 13 1 = S.w 4 := hI.1.2.2.1
  obtain ⟨z1, z2, z3⟩ := m_hz hm
  unfold fn168 fn161
  rw [c_noAlarm hI, Option.bind_some]
  by_cases c3 : S.w 3 = 0
  · rw [if_pos c3]
    dsimp only
    rw [if_pos rfl, c_homed hI hm, Option.bind_some]
    by_cases c : S.w 41 + S.w 42 + S.w 43 = 3
    · rw [if_pos (by omega), Option.bind_some]
      dsimp only
      rw [if_pos rfl]
      by_cases c4 : S.w 4 < 16
      · rw [if_pos (show h 13 1 < 16 by omega), if_pos (show m_may S.w from ⟨c3, c, c4⟩)]
      · rw [if_neg (show ¬ h 13 1 < 16 by omega), if_neg (show ¬ m_may S.w from fun h9 => c4 h9.2.2)]
    · rw [if_neg (by omega), Option.bind_some]
      dsimp only
      rw [if_neg (by decide), if_pos rfl, if_neg (show ¬ m_may S.w from fun h9 => c h9.2.1)]
  · rw [if_neg c3]
    dsimp only
    rw [if_neg (by decide), if_pos rfl, if_neg (show ¬ m_may S.w from fun h9 => c3 h9.1)]
theorem c_point {h : q_F} {S : m_St} (x y z : Int) (hI : c_I h S) : fn166 x y z h = some (if m_point x y z S.w then 0 else 2, 0, h) := by
  have e0 : h 7 0 = S.w 8 := (hI.1.1 0 (by omega)).1 0 (by omega)
  have e1 : h 9 0 = S.w 9 := (hI.1.1 1 (by omega)).1 0 (by omega)
  have e2 : h 11 0 = S.w 10 := (hI.1.1 2 (by omega)).1 0 (by omega)
  have r : ∀ o v l, h o 0 = l → fn53 o v h = some (if 0 ≤ v ∧ v ≤ l then 1 else 0) := fun o v l e => by
    unfold fn53; rw [e]
    by_cases c1 : v < 0
    · rw [if_pos c1, if_neg (by omega)]
    · rw [if_neg c1]
      by_cases c2 : l < v
      · rw [if_pos c2, if_neg (by omega)]
      · rw [if_neg c2, if_pos (by omega)]
  unfold fn166 fn166_42
  rw [r 7 x _ e0, Option.bind_some, r 9 y _ e1, r 11 z _ e2]
  by_cases c0 : 0 ≤ x ∧ x ≤ S.w 8
  · rw [if_pos c0, if_neg (by decide), Option.bind_some]
    by_cases c1 : 0 ≤ y ∧ y ≤ S.w 9
    · rw [if_pos c1, if_neg (by decide), Option.bind_some]
      by_cases c2 : 0 ≤ z ∧ z ≤ S.w 10
      · rw [if_pos c2, if_neg (by decide), if_pos ⟨c0, c1, c2⟩]
      · rw [if_neg c2, if_pos rfl, if_neg (show ¬ m_point x y z S.w from fun h9 => c2 h9.2.2)]
    · rw [if_neg c1, if_pos rfl, if_neg (show ¬ m_point x y z S.w from fun h9 => c1 h9.2.1)]
  · rw [if_neg c0, if_pos rfl, if_neg (show ¬ m_point x y z S.w from fun h9 => c0 h9.1)]
theorem c_I_path {h h' : q_F} {S : m_St} (hI : c_I h S) (hn : S.n ≤ 10) (f : c_fo 135 h h') : c_I h' S := c_I_k hI hn (fun k hk => f k (by omega) (by omega)) (by rw [f 0 (by omega) (by omega)])
theorem c_F_path {h h' : q_F} (f : c_fo 135 h h') : c_F h h' := fun k hk => f k (by omega) (by omega)
/-- a point put into the path, the path taken -/
theorem c_putC {h : q_F} {S : m_St} {i : Nat} {x y z : Int} (hI : c_I h S) (hm : m_I S) (hi : (i : Int) ≤ S.w 4) (h4 : S.w 4 < 16) : ∃ h1 h2 h3 k v, fn144 135 13 h = some (0, h1) ∧ h1 135 1 = S.w 4 ∧ fn150 135 i x y z h1 = some (0, h2) ∧ fn221 h2 = some (k, v, h3) ∧ (k = 1 ∨ k = 4) ∧ c_I h3 (m_oTake (m_put i x y z S.w) S) ∧ c_F h h3 := by
  have r := (m_R0_ok hm.1.1).2.1
  obtain ⟨h1, a1, a2, a3⟩ := c_pcopy hI.1 r
  obtain ⟨h2, b1, b2, b3⟩ := c_pput (i := i) (x := x) (y := y) (z := z) a2 ⟨r.1, h4⟩ hi
  have f := c_fo_t a3 b3
  have e4 : m_put i x y z S.w 4 = S.w 4 + 1 := by unfold m_put; rw [m_u_s]
  obtain ⟨k, v, h3, d1, d2, -, d3, d4⟩ := c_take (c_I_path hI hm.2.1.1 f) hm b2 (fun j h1 h2 => m_put_lo h1 h2) (by rw [e4]; omega)
  exact ⟨h1, h2, h3, k, v, a1, a2.1, b1, d1, d2, d3, c_F_t (c_F_path f) d4⟩
theorem c_queueC {h : q_F} {S : m_St} {x y z : Int} (hI : c_I h S) (hm : m_I S) : c_E (fn198 x y z h) h (m_oPut (S.w 4) x y z S) (fun k => k = 1 ∨ k = 2 ∨ k = 4) := by
  have r := (m_R0_ok hm.1.1).2.1
  unfold m_oPut fn198
  rw [c_point x y z hI, Option.bind_some]
  by_cases cp : m_point x y z S.w
  · rw [if_pos cp, if_pos (show (0 ≤ S.w 4 ∧ S.w 4 ≤ S.w 4) ∧ m_point x y z S.w from ⟨⟨by omega, by omega⟩, cp⟩)]
    dsimp only
    rw [if_pos rfl, c_room hI hm, Option.bind_some]
    by_cases cm : m_may S.w
    · rw [if_pos cm, if_pos cm]
      dsimp only
      obtain ⟨h1, h2, h3, k, v, a1, a2, a3, a4, a5, a6, a7⟩ := c_putC (i := (S.w 4).toNat) (x := x) (y := y) (z := z) hI hm (by omega) cm.2.2
      rw [show (((S.w 4).toNat : Nat) : Int) = S.w 4 by omega] at a3
      rw [if_pos rfl, a1, Option.bind_some]
      dsimp only
      rw [a2, a3, Option.bind_some, a4, Option.bind_some]
      dsimp only
      rcases a5 with rfl | rfl
      · rw [if_pos rfl]; exact ⟨1, v, h3, rfl, Or.inl rfl, a6, a7⟩
      · rw [if_neg (by decide), if_pos rfl]; exact ⟨4, 0, h3, rfl, Or.inr (Or.inr rfl), a6, a7⟩
    · rw [if_neg cm, if_neg cm]
      exact ⟨4, 0, h, rfl, Or.inr (Or.inr rfl), hI, c_F_r⟩
  · rw [if_neg cp, if_neg (show ¬ ((0 ≤ S.w 4 ∧ S.w 4 ≤ S.w 4) ∧ m_point x y z S.w) from fun h9 => cp h9.2)]
    exact ⟨2, 0, h, rfl, Or.inr (Or.inl rfl), hI, c_F_r⟩
theorem c_insertC {h : q_F} {S : m_St} {i x y z : Int} (hI : c_I h S) (hm : m_I S) : c_E (fn183 i x y z h) h (m_oPut i x y z S) (fun k => k = 1 ∨ k = 2 ∨ k = 4) := by
  have r := (m_R0_ok hm.1.1).2.1
  have e : h 13 1 = S.w 4 := hI.1.2.2.1
  unfold m_oPut fn183 fn183_18
  rw [e]
  by_cases ci : 0 ≤ i ∧ i ≤ S.w 4
  · rw [if_neg (show ¬ i < 0 by omega), if_pos ci.2, c_point x y z hI, Option.bind_some]
    by_cases cp : m_point x y z S.w
    · rw [if_pos cp, if_pos (show (0 ≤ i ∧ i ≤ S.w 4) ∧ m_point x y z S.w from ⟨ci, cp⟩)]
      dsimp only
      rw [if_pos rfl, c_room hI hm, Option.bind_some]
      by_cases cm : m_may S.w
      · rw [if_pos cm, if_pos cm]
        dsimp only
        obtain ⟨k0, rfl⟩ : ∃ k : Nat, i = k := ⟨i.toNat, by omega⟩
        obtain ⟨h1, h2, h3, k, v, a1, a2, a3, a4, a5, a6, a7⟩ := c_putC (i := k0) (x := x) (y := y) (z := z) hI hm ci.2 cm.2.2
        rw [if_pos rfl, a1, Option.bind_some]
        dsimp only
        rw [a3, Option.bind_some, a4, Option.bind_some]
        dsimp only
        rcases a5 with rfl | rfl
        · rw [if_pos rfl]; exact ⟨1, v, h3, rfl, Or.inl rfl, a6, a7⟩
        · rw [if_neg (by decide), if_pos rfl]; exact ⟨4, 0, h3, rfl, Or.inr (Or.inr rfl), a6, a7⟩
      · rw [if_neg cm, if_neg cm]
        exact ⟨4, 0, h, rfl, Or.inr (Or.inr rfl), hI, c_F_r⟩
    · rw [if_neg cp, if_neg (show ¬ ((0 ≤ i ∧ i ≤ S.w 4) ∧ m_point x y z S.w) from fun h9 => cp h9.2)]
      exact ⟨2, 0, h, rfl, Or.inr (Or.inl rfl), hI, c_F_r⟩
  · rw [if_neg (show ¬ ((0 ≤ i ∧ i ≤ S.w 4) ∧ m_point x y z S.w) from fun h9 => ci h9.1)]
    refine ⟨2, 0, h, ?_, Or.inr (Or.inl rfl), hI, c_F_r⟩
    (repeat' split) <;> first | rfl | omega
theorem r_may {h : q_F} {S : m_St} (hI : r_I h S) (hm : m_I S) : fn291 h = some (if m_may S.w then 1 else 0) := by
  unfold fn291
  rw [hI.1]
  by_cases c3 : S.w 3 = 0
  · rw [if_pos c3, r_homed hI hm, Option.bind_some]
    by_cases c : S.w 41 + S.w 42 + S.w 43 = 3
    · rw [if_pos c]
      by_cases c4 : S.w 4 < 16
      · rw [if_neg (by omega), if_pos ⟨c3, c, c4⟩]
      · rw [if_pos (by omega), if_neg (fun h9 => c4 h9.2.2)]
    · rw [if_neg c, if_neg (show ¬ m_may S.w from fun h9 => c h9.2.1)]
  · rw [if_neg c3, if_neg (show ¬ m_may S.w from fun h9 => c3 h9.1)]
theorem r_point {h : q_F} {S : m_St} (x y z : Int) (hI : r_I h S) : fn271 x y z h = some (if m_point x y z S.w then 1 else 0) := by
  unfold fn271
  rw [hI.1, r_rng, Option.bind_some, r_rng, r_rng]
  by_cases c0 : 0 ≤ x ∧ x ≤ S.w 8
  · rw [if_pos c0, if_neg (by decide), Option.bind_some]
    by_cases c1 : 0 ≤ y ∧ y ≤ S.w 9
    · rw [if_pos c1, if_neg (by decide), Option.bind_some]
      by_cases c2 : 0 ≤ z ∧ z ≤ S.w 10
      · rw [if_pos c2, if_neg (by decide), if_pos ⟨c0, c1, c2⟩]
      · rw [if_neg c2, if_pos rfl, if_neg (show ¬ m_point x y z S.w from fun h9 => c2 h9.2.2)]
    · rw [if_neg c1, if_pos rfl, if_neg (show ¬ m_point x y z S.w from fun h9 => c1 h9.2.1)]
  · rw [if_neg c0, if_pos rfl, if_neg (show ¬ m_point x y z S.w from fun h9 => c0 h9.1)]
theorem r_queued {h : q_F} {S : m_St} {i : Nat} {x y z : Int} (hI : r_I h S) (hm : m_I S) (hi : (i : Int) ≤ S.w 4) (hp : m_point x y z S.w) : r_W (fn312 i x y z h) h (if m_may S.w then m_oTake (m_put i x y z S.w) S else S) := by
  have r := (m_R0_ok hm.1.1).2.1
  have p := m_pt_r hm hp
  unfold fn312
  rw [r_may hI hm, Option.bind_some]
  by_cases cm : m_may S.w
  · rw [if_pos cm, if_neg (by decide), if_pos cm, fn312_13]
    obtain ⟨h9, s1, s2⟩ := r_fails 0 2 h
    rw [s1, Option.bind_some, if_pos rfl]
    have hF : ∀ g : q_F, g 140 = S.w → fn308 i x y z g = some (0, m_sr g 140 (m_put i x y z S.w)) := fun g hg => r_putT hg ⟨r.1, cm.2.2⟩ hi
    have R0 := m_R0_put hm.1.1 cm.2.2 hi p.1 p.2.1 p.2.2
    obtain ⟨h', h'', i1, f1, i2, f2, t1, t2⟩ := r_try (F := fun g => fn308 i x y z g) (T := fun g => (fn320 g).bind fun x11 => (fn308 i x y z x11.2).bind fun x12 => (fn303 4 x12.2).bind fun x13 => some (x13, x12.2)) hF (m_R0_ok R0) (fun j hj => m_put_hi hj ⟨r.1, cm.2.2⟩ hi) (r_I_T hI s2)
    dsimp only at t1 t2 ⊢
    by_cases nn : m_nn (m_put i x y z S.w)
    · rw [m_oTake_p nn, t1 nn]
      obtain ⟨h1, b1, b2, b3, b4⟩ := r_done hF i1 hm.2.1.1
      have e4 : m_put i x y z S.w 4 = S.w 4 + 1 := by unfold m_put; rw [m_u_s]
      rw [b1, Option.bind_some, b2, Option.bind_some]
      dsimp only
      rw [r_of (v := S.w 4 + 1) (by omega) (by omega) (by rw [m_sr_s]; exact e4) (by omega), Option.bind_some]
      exact ⟨_, _, rfl, b3, r_F_t (r_T_F s2) (r_F_t f1 b4)⟩
    · rw [m_oTake_n nn, t2 nn]
      exact ⟨_, _, rfl, i2, r_F_t (r_T_F s2) f2⟩
  · rw [if_neg cm, if_pos rfl, if_neg cm, fn312_13]
    obtain ⟨h9, s1, s2⟩ := r_fails 1 2 h
    rw [s1, Option.bind_some, if_neg (show ¬ (1 : Int) = 0 by decide)]
    exact ⟨_, _, rfl, r_I_T hI s2, r_T_F s2⟩
theorem r_W_t {f : Option (Int × q_F)} {h h1 : q_F} {S' : m_St} (F : r_F h h1) (g : r_W f h1 S') : r_W f h S' := by
  obtain ⟨v, h', a, b, c⟩ := g
  exact ⟨v, h', a, b, r_F_t F c⟩
theorem r_W_e {f : Option (Int × q_F)} {h : q_F} {S' : m_St} (g : r_W f h S') : r_W (f.bind fun x7 => some (x7.1, x7.2)) h S' := by
  obtain ⟨v, h', a, b, c⟩ := g
  exact ⟨v, h', by rw [a, Option.bind_some], b, c⟩
theorem r_queueC {h : q_F} {S : m_St} {x y z : Int} (hI : r_I h S) (hm : m_I S) : r_W (fn309 x y z h) h (m_oPut (S.w 4) x y z S) := by
  have r := (m_R0_ok hm.1.1).2.1
  have hT : r_T h (q_ud h 139 7 0) := r_T_u r_T_r
  unfold m_oPut fn309
  rw [m_let, r_point x y z (r_I_T hI hT), Option.bind_some]
  by_cases cp : m_point x y z S.w
  · rw [if_pos cp, if_neg (by decide), if_pos ⟨⟨by omega, by omega⟩, cp⟩, fn309_21]
    obtain ⟨h0, t1, t2⟩ := r_fails 0 1 (q_ud h 139 7 0)
    have hT2 := r_T_t hT t2
    have I2 := r_I_T hI hT2
    rw [t1, Option.bind_some, if_pos rfl]
    dsimp only
    rw [r_of (v := S.w 4) (by omega) (by omega) (by rw [I2.1]; rfl) (by omega), Option.bind_some]
    have g := r_queued (i := (S.w 4).toNat) I2 hm (by omega) cp
    rw [show (((S.w 4).toNat : Nat) : Int) = S.w 4 by omega] at g
    exact r_W_t (r_T_F hT2) (r_W_e g)
  · rw [if_neg cp, if_pos rfl, if_neg (fun h9 => cp h9.2), fn309_21]
    obtain ⟨h0, t1, t2⟩ := r_fails 1 1 (q_ud h 139 7 0)
    have hT2 := r_T_t hT t2
    rw [t1, Option.bind_some, if_neg (show ¬ (1 : Int) = 0 by decide)]
    exact ⟨_, _, rfl, r_I_T hI hT2, r_T_F hT2⟩
theorem r_insertC {h : q_F} {S : m_St} {i x y z : Int} (hI : r_I h S) (hm : m_I S) : r_W (fn269 i x y z h) h (m_oPut i x y z S) := by
  have r := (m_R0_ok hm.1.1).2.1
  have hT : r_T h (q_ud h 139 7 0) := r_T_u r_T_r
  have I1 := r_I_T hI hT
  have bad : ∃ h', fn269_37 i x y z 1 (q_ud h 139 7 0) = some (0, h') ∧ r_T h h' := by
    rw [fn269_37]
    obtain ⟨h0, t1, t2⟩ := r_fails 1 1 (q_ud h 139 7 0)
    exact ⟨h0, by rw [t1, Option.bind_some, if_neg (show ¬ (1 : Int) = 0 by decide)], r_T_t hT t2⟩
  obtain ⟨hb, b1, b2⟩ := bad
  unfold m_oPut fn269 fn269_32
  rw [m_let, r_rng, Option.bind_some, r_point x y z I1]
  have e4 : q_ud h 139 7 0 140 4 = S.w 4 := by rw [I1.1]
  rw [e4]
  by_cases ci : 0 ≤ i ∧ i ≤ S.w 4
  · rw [if_pos ci, if_neg (by decide), Option.bind_some]
    by_cases cp : m_point x y z S.w
    · rw [if_pos cp, if_neg (by decide), if_pos ⟨ci, cp⟩, fn269_37]
      obtain ⟨h0, t1, t2⟩ := r_fails 0 1 (q_ud h 139 7 0)
      have hT2 := r_T_t hT t2
      obtain ⟨k0, rfl⟩ : ∃ k : Nat, i = k := ⟨i.toNat, by omega⟩
      rw [t1, Option.bind_some, if_pos rfl]
      exact r_W_t (r_T_F hT2) (r_W_e (r_queued (i := k0) (r_I_T hI hT2) hm ci.2 cp))
    · rw [if_neg cp, if_pos rfl, if_neg (show ¬ ((0 ≤ i ∧ i ≤ S.w 4) ∧ m_point x y z S.w) from fun h9 => cp h9.2), b1]
      exact ⟨_, _, rfl, r_I_T hI b2, r_T_F b2⟩
  · rw [if_neg ci, if_pos rfl, if_neg (show ¬ ((0 ≤ i ∧ i ≤ S.w 4) ∧ m_point x y z S.w) from fun h9 => ci h9.1), b1]
    exact ⟨_, _, rfl, r_I_T hI b2, r_T_F b2⟩
end -- [83.ops]
section -- [84.ops]
/-! Part 84: dropTarget, swapTargets on both sides; straight pairs. -/
noncomputable def m_sc (w : Nat → Int) : Nat → Int
  | 0 => 0
  | n + 1 => m_sc w n + m_str w n
theorem m_str_z (w : Nat → Int) (m : Nat) : m_str w m = 0 ∨ m_str w m = 1 := by unfold m_str; (repeat' split) <;> simp
theorem m_sc_r (w : Nat → Int) : ∀ n : Nat, 0 ≤ m_sc w n ∧ m_sc w n ≤ n := by
  intro n
  induction n with
  | zero => exact ⟨Int.le_refl _, Int.le_refl _⟩
  | succ n ih => have := m_str_z w n; unfold m_sc; omega
theorem c_scl {h : q_F} {w : Nat → Int} (hn : h 125 9 = w 4) (h4 : 0 ≤ w 4 ∧ w 4 ≤ 16) (hs : ∀ m, m < (w 4).toNat → h 132 m = m_str w m) : ∀ (d m f : Nat), m + d = (w 4).toNat → d < f → fn98_4 h f (m_sc w m) m = some (m_sc w (w 4).toNat) := by
  intro d
  induction d with
  | zero =>
    intro m f hm hf
    obtain ⟨f, rfl⟩ : ∃ f', f = f' + 1 := ⟨f - 1, by omega⟩
    rw [fn98_4, hn, if_pos (by omega), show m = (w 4).toNat by omega]
  | succ d ih =>
    intro m f hm hf
    obtain ⟨f, rfl⟩ : ∃ f', f = f' + 1 := ⟨f - 1, by omega⟩
    have r := m_sc_r w m
    have z := m_str_z w m
    rw [fn98_4, hn, if_neg (by omega), c_ent (by omega) (by omega), Option.bind_some, Int.toNat_natCast, hs m (by omega), q_w32_id (by omega) (by omega), q_w32_id (by omega) (by omega), ← m_s1]
    exact ih (m + 1) f (by omega) (by omega)
theorem c_sc {h : q_F} {w : Nat → Int} (h4 : 0 ≤ w 4 ∧ w 4 ≤ 16) (hP : c_Plan h w) : fn98 h = some (m_sc w (w 4).toNat) :=
  c_scl hP.2.2.2.1 h4 hP.2.1 (w 4).toNat 0 q_fu (by omega) (by have := q_fu_ge; omega)
theorem r_scl {h : q_F} {w : Nat → Int} (hw : h 140 = w) (ok : m_ok w) (hP : m_PA h w (w 4).toNat) : ∀ (d m f : Nat), m + d = (w 4).toNat → d < f → fn343_8 f (m_sc w m) m h = some (m_sc w (w 4).toNat, h) := by
  have h16 := ok.2.1
  intro d
  induction d with
  | zero =>
    intro m f hm hf
    obtain ⟨f, rfl⟩ : ∃ f', f = f' + 1 := ⟨f - 1, by omega⟩
    rw [fn343_8, hw, if_pos (by omega), show m = (w 4).toNat by omega]
  | succ d ih =>
    intro m f hm hf
    obtain ⟨f, rfl⟩ : ∃ f', f = f' + 1 := ⟨f - 1, by omega⟩
    have r := m_sc_r w m
    have z := m_str_z w m
    have g := ih (m + 1) f (by omega) (by omega)
    rw [fn343_8, hw, if_neg (by omega), fn272_m hw ok (by omega) hP, Option.bind_some, fn343_34, fn343_34, q_w32_id (z := (m : Int) + 1) (by omega) (by omega), q_w32_id (z := m_sc w m + 0) (by omega) (by omega), q_w32_id (z := m_sc w m + 1) (by omega) (by omega), ← m_s1]
    have e : m_sc w (m + 1) = m_sc w m + m_str w m := rfl
    rcases z with z | z
    · rw [if_pos z]; rw [e, z] at g; exact g
    · rw [if_neg (by omega)]; rw [e, z] at g; exact g
theorem r_plan {h : q_F} {S : m_St} (hI : r_I h S) (hm : m_I S) : ∃ h', fn278 h = some (0, h') ∧ m_Plan h' S.w ∧ m_fp h h' ∧ r_I h' S ∧ r_F h h' := by
  obtain ⟨h', g1, g2, g3⟩ := fn278_m hI.1 (m_R0_ok hm.1.1) hm.1.2
  exact ⟨h', g1, g2, g3, r_I_k hI (fun k hk => g3 k (by omega)) (by rw [g3 139 (by omega)]) (by rw [g3 139 (by omega)]), ⟨fun k hk => g3 k (by omega), fun j hj => by rw [g3 139 (by omega)]⟩⟩
theorem r_sc {h : q_F} {S : m_St} (hI : r_I h S) (hm : m_I S) : ∃ h', fn343 h = some (m_sc S.w (S.w 4).toNat, h') ∧ r_I h' S ∧ r_F h h' := by
  obtain ⟨h', g1, g2, g3, g4, g5⟩ := r_plan hI hm
  have r := (m_R0_ok hm.1.1).2.1
  exact ⟨h', by rw [fn343, g1, Option.bind_some]; exact r_scl g4.1 (m_R0_ok hm.1.1) g2.1 (S.w 4).toNat 0 q_fu (by omega) (by have := q_fu_ge; omega), g4, g5⟩
theorem c_move (m : Int) {h : q_F} {S : m_St} (hI : c_I h S) : fn164 m h = some (if 0 ≤ m ∧ m < S.w 4 then 0 else 3, 0, h) := by
  have e : h 13 1 = S.w 4 := hI.1.2.2.1
  unfold fn164 fn164_18
  rw [e]
  by_cases c1 : m < 0
  · rw [if_pos c1, if_neg (show ¬ (0 ≤ m ∧ m < S.w 4) by omega)]
  · rw [if_neg c1]
    by_cases c2 : m < S.w 4
    · rw [if_pos c2, if_pos (show 0 ≤ m ∧ m < S.w 4 by omega)]
    · rw [if_neg c2, if_neg (show ¬ (0 ≤ m ∧ m < S.w 4) by omega)]
-- dropTarget
noncomputable def m_oDrop (m : Int) (S : m_St) : m_St := if 0 ≤ m ∧ m < S.w 4 then m_oTake (m_tko m.toNat S.w) S else S
theorem m_I_drop {S : m_St} {m : Int} (h : m_I S) : m_I (m_oDrop m S) := by
  unfold m_oDrop; split
  · exact m_I_take h (m_R0_tko h.1.1 (by omega))
  · exact h
theorem c_dropC {h : q_F} {S : m_St} {m : Int} (hI : c_I h S) (hm : m_I S) : c_E (fn173 m h) h (m_oDrop m S) (fun k => k = 1 ∨ k = 3 ∨ k = 4) := by
  have r := (m_R0_ok hm.1.1).2.1
  unfold m_oDrop fn173
  rw [c_move m hI, Option.bind_some]
  by_cases c : 0 ≤ m ∧ m < S.w 4
  · rw [if_pos c, if_pos c]
    dsimp only
    obtain ⟨i, rfl⟩ : ∃ k : Nat, m = k := ⟨m.toNat, by omega⟩
    obtain ⟨h1, a1, a2, a3⟩ := c_pcopy hI.1 r
    obtain ⟨h2, b1, b2, b3⟩ := c_ptko (i := i) a2 r c.2
    have f := c_fo_t a3 b3
    have e4 : m_tko i S.w 4 = S.w 4 - 1 := by unfold m_tko; rw [m_u_s]
    obtain ⟨k, v, h3, d1, d2, -, d3, d4⟩ := c_take (c_I_path hI hm.2.1.1 f) hm b2 (fun j h1 h2 => m_tko_lo h1 h2) (by rw [e4]; omega)
    have F := c_F_t (c_F_path f) d4
    rw [if_pos rfl, a1, Option.bind_some, b1, Option.bind_some, d1, Option.bind_some]
    dsimp only
    rcases d2 with rfl | rfl
    · rw [if_pos rfl]; exact ⟨1, v, h3, rfl, Or.inl rfl, d3, F⟩
    · rw [if_neg (by decide), if_pos rfl]; exact ⟨4, 0, h3, rfl, Or.inr (Or.inr rfl), d3, F⟩
  · rw [if_neg c, if_neg c]
    exact ⟨3, 0, h, rfl, Or.inr (Or.inl rfl), hI, c_F_r⟩
theorem r_dropC {h : q_F} {S : m_St} {m : Int} (hI : r_I h S) (hm : m_I S) : r_W (fn252 m h) h (m_oDrop m S) := by
  have r := (m_R0_ok hm.1.1).2.1
  obtain ⟨h0, t1, t2⟩ := r_noMove (h := h) m (by rw [hI.1]; exact r)
  rw [hI.1] at t1
  unfold m_oDrop fn252
  rw [t1, Option.bind_some]
  by_cases c : 0 ≤ m ∧ m < S.w 4
  · rw [if_pos c, if_pos c]
    dsimp only
    rw [if_pos rfl]
    obtain ⟨i, rfl⟩ : ∃ k : Nat, m = k := ⟨m.toNat, by omega⟩
    have hF : ∀ g : q_F, g 140 = S.w → fn349 i g = some (0, m_sr g 140 (m_tko i S.w)) := fun g hg => r_tko hg r c.2
    have R0 := m_R0_tko hm.1.1 c.2
    obtain ⟨h', h'', i1, f1, i2, f2, x1, x2⟩ := r_try (F := fun g => fn349 i g) (T := fun g => (fn320 g).bind fun x11 => (fn349 i x11.2).bind fun x12 => (fn303 4 x12.2).bind fun x13 => some (x13, x12.2)) hF (m_R0_ok R0) (fun j hj => m_tko_hi hj r c.2) (r_I_T hI t2)
    by_cases nn : m_nn (m_tko i S.w)
    · rw [Int.toNat_natCast, m_oTake_p nn, x1 nn]
      obtain ⟨h1, b1, b2, b3, b4⟩ := r_done hF i1 hm.2.1.1
      have e4 : m_tko i S.w 4 = S.w 4 - 1 := by unfold m_tko; rw [m_u_s]
      rw [b1, Option.bind_some, b2, Option.bind_some]
      dsimp only
      rw [r_of (v := S.w 4 - 1) (by omega) (by omega) (by rw [m_sr_s]; exact e4) (by omega), Option.bind_some]
      exact ⟨_, _, rfl, b3, r_F_t (r_T_F t2) (r_F_t f1 b4)⟩
    · rw [Int.toNat_natCast, m_oTake_n nn, x2 nn]
      exact ⟨_, _, rfl, i2, r_F_t (r_T_F t2) f2⟩
  · rw [if_neg c, if_neg c]
    exact ⟨_, _, rfl, r_I_T hI t2, r_T_F t2⟩
-- swapTargets
noncomputable def m_oSwap (m o : Int) (S : m_St) : m_St := if (0 ≤ m ∧ m < S.w 4) ∧ (0 ≤ o ∧ o < S.w 4) then m_oTake (m_swp m.toNat o.toNat S.w) S else S
theorem m_I_swap {S : m_St} {m o : Int} (h : m_I S) : m_I (m_oSwap m o S) := by
  have r := (m_R0_ok h.1.1).2.1
  unfold m_oSwap; split
  · exact m_I_take h (m_R0_swp h.1.1 (by omega) (by omega))
  · exact h
theorem c_swapC {h : q_F} {S : m_St} {m o : Int} (hI : c_I h S) (hm : m_I S) : c_E (fn220 m o h) h (m_oSwap m o S) (fun k => k = 1 ∨ k = 3 ∨ k = 4) := by
  have r := (m_R0_ok hm.1.1).2.1
  unfold m_oSwap fn220
  rw [c_move m hI, Option.bind_some]
  by_cases c : 0 ≤ m ∧ m < S.w 4
  · rw [if_pos c]
    dsimp only
    rw [if_pos rfl, c_move o hI, Option.bind_some]
    by_cases c2 : 0 ≤ o ∧ o < S.w 4
    · rw [if_pos c2, if_pos (show (0 ≤ m ∧ m < S.w 4) ∧ (0 ≤ o ∧ o < S.w 4) from ⟨c, c2⟩)]
      dsimp only
      obtain ⟨i, rfl⟩ : ∃ k : Nat, m = k := ⟨m.toNat, by omega⟩
      obtain ⟨l, rfl⟩ : ∃ k : Nat, o = k := ⟨o.toNat, by omega⟩
      obtain ⟨h1, a1, a2, a3⟩ := c_pcopy hI.1 r
      obtain ⟨h2, b1, b2, b3⟩ := c_pswp (m := i) (o := l) a2 r.2 c.2 c2.2
      have f := c_fo_t a3 b3
      have e4 : m_swp i l S.w 4 = S.w 4 := m_swp_o (by omega) (by omega) (by omega)
      obtain ⟨k, v, h3, d1, d2, d5, d3, d4⟩ := c_take (c_I_path hI hm.2.1.1 f) hm b2 (fun j h1 h2 => m_swp_o (by omega) (by omega) (by omega)) (by rw [e4]; omega)
      have F := c_F_t (c_F_path f) d4
      rw [if_pos rfl, a1, Option.bind_some, b1, Option.bind_some, d1, Option.bind_some, Int.toNat_natCast, Int.toNat_natCast]
      dsimp only
      rcases d2 with rfl | rfl
      · have mI : m_I (m_oTake (m_swp i l S.w) S) := m_I_take hm (m_R0_swp hm.1.1 (by omega) (by omega))
        obtain ⟨h4, p1, p2, p3, p4⟩ := c_planned d3 mI
        rw [if_pos rfl, p1, Option.bind_some, c_sc (m_R0_ok mI.1.1).2.1 p2, Option.bind_some]
        exact ⟨1, _, h4, rfl, Or.inl rfl, p4, c_F_t F (c_F_fp p3)⟩
      · rw [if_neg (by decide), if_pos rfl]; exact ⟨4, 0, h3, rfl, Or.inr (Or.inr rfl), d3, F⟩
    · rw [if_neg c2, if_neg (show ¬ ((0 ≤ m ∧ m < S.w 4) ∧ (0 ≤ o ∧ o < S.w 4)) from fun h9 => c2 h9.2)]
      exact ⟨3, 0, h, rfl, Or.inr (Or.inl rfl), hI, c_F_r⟩
  · rw [if_neg c, if_neg (show ¬ ((0 ≤ m ∧ m < S.w 4) ∧ (0 ≤ o ∧ o < S.w 4)) from fun h9 => c h9.1)]
    exact ⟨3, 0, h, rfl, Or.inr (Or.inl rfl), hI, c_F_r⟩
theorem r_swapC {h : q_F} {S : m_St} {m o : Int} (hI : r_I h S) (hm : m_I S) : r_W (fn346 m o h) h (m_oSwap m o S) := by
  have r := (m_R0_ok hm.1.1).2.1
  obtain ⟨h0, t1, t2⟩ := r_noMove (h := h) m (by rw [hI.1]; exact r)
  rw [hI.1] at t1
  have I0 := r_I_T hI t2
  unfold m_oSwap fn346
  rw [t1, Option.bind_some]
  by_cases c : 0 ≤ m ∧ m < S.w 4
  · rw [if_pos c]
    dsimp only
    rw [if_pos rfl]
    obtain ⟨h1, u1, u2⟩ := r_noMove (h := h0) o (by rw [I0.1]; exact r)
    rw [I0.1] at u1
    have hT := r_T_t t2 u2
    rw [u1, Option.bind_some]
    by_cases c2 : 0 ≤ o ∧ o < S.w 4
    · rw [if_pos c2, if_pos (show (0 ≤ m ∧ m < S.w 4) ∧ (0 ≤ o ∧ o < S.w 4) from ⟨c, c2⟩)]
      dsimp only
      rw [if_pos rfl]
      obtain ⟨i, rfl⟩ : ∃ k : Nat, m = k := ⟨m.toNat, by omega⟩
      obtain ⟨l, rfl⟩ : ∃ k : Nat, o = k := ⟨o.toNat, by omega⟩
      have hF : ∀ g : q_F, g 140 = S.w → fn347 i l g = some (0, m_sr g 140 (m_swp i l S.w)) := fun g hg => r_swp hg (by omega) (by omega)
      have R0 : m_R0 (m_swp i l S.w) := m_R0_swp hm.1.1 (by omega) (by omega)
      obtain ⟨h', h'', i1, f1, i2, f2, x1, x2⟩ := r_try (F := fun g => fn347 i l g) (T := fun g => (fn320 g).bind fun x11 => (fn347 i l x11.2).bind fun x12 => (fn343 x12.2).bind fun x13 => some (x13.1, x13.2)) hF (m_R0_ok R0) (fun j hj => m_swp_o (by omega) (by omega) (by omega)) (r_I_T hI hT)
      rw [Int.toNat_natCast, Int.toNat_natCast]
      by_cases nn : m_nn (m_swp i l S.w)
      · rw [m_oTake_p nn, x1 nn]
        obtain ⟨h1, b1, b2, b3, b4⟩ := r_done hF i1 hm.2.1.1
        rw [b1, Option.bind_some, b2, Option.bind_some]
        dsimp only
        obtain ⟨h5, d1, d2, d3⟩ := r_sc b3 (m_I_set (m_I_rem hm) ⟨R0, nn⟩)
        rw [d1, Option.bind_some]
        exact ⟨_, _, rfl, d2, r_F_t (r_T_F hT) (r_F_t f1 (r_F_t b4 d3))⟩
      · rw [m_oTake_n nn, x2 nn]
        exact ⟨_, _, rfl, i2, r_F_t (r_T_F hT) f2⟩
    · rw [if_neg c2, if_neg (show ¬ ((0 ≤ m ∧ m < S.w 4) ∧ (0 ≤ o ∧ o < S.w 4)) from fun h9 => c2 h9.2)]
      exact ⟨_, _, rfl, r_I_T hI hT, r_T_F hT⟩
  · rw [if_neg c, if_neg (show ¬ ((0 ≤ m ∧ m < S.w 4) ∧ (0 ≤ o ∧ o < S.w 4)) from fun h9 => c h9.1)]
    exact ⟨_, _, rfl, I0, r_T_F t2⟩
end -- [84.ops]
