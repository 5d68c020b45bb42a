/-! Part 76: what lies between two calls; changes remembered. -/
theorem m_irm {a b : Int} (h0 : 0 ≤ a) (h1 : a < 2147483648) (h2 : 0 < b) (h3 : b < 2147483648) : q_irm a b = a % b := by
  have e : (Int32.ofInt a / Int32.ofInt b).toInt = a / b := m_idv h0 h1 h2 h3
  have g0 : 0 ≤ a % b := Int.emod_nonneg a (by omega)
  have g1 : a % b ≤ a := by
    have h9 := Int.emod_def a b
    have k0 : 0 ≤ a / b := Int.ediv_nonneg h0 (by omega)
    have k1 : 0 ≤ b * (a / b) := Int.mul_nonneg (by omega) k0
    omega
  have g2 : a / b * b = a - a % b := by rw [Int.emod_def, Int.mul_comm]; omega
  unfold q_irm
  rw [Int32.toInt_sub, Int32.toInt_mul, e, q_w32_m, q_w32_m, q_w32_id (by omega) (by omega), q_w32_id (by omega) (by omega), g2]
  have b1 : (a - a % b).bmod (2 ^ 32) = a - a % b := Int.bmod_eq_of_le (by omega) (by omega)
  rw [b1]
  have b2 : (a - (a - a % b)).bmod (2 ^ 32) = a - (a - a % b) := Int.bmod_eq_of_le (by omega) (by omega)
  rw [b2]; omega
/-- what a place of a row may hold -/
def m_pv (j : Nat) (v : Int) : Prop := (j = 0 → 1 ≤ v ∧ v ≤ 1000) ∧ (j = 1 ∨ j = 2 ∨ (41 ≤ j ∧ j ≤ 43) → v = 0 ∨ v = 1) ∧ (j = 3 → 0 ≤ v ∧ v ≤ 3) ∧ (j = 4 → 0 ≤ v ∧ v ≤ 16) ∧ (38 ≤ j ∧ j ≤ 40 → 0 ≤ v ∧ v ≤ 2) ∧ (8 ≤ j ∧ j ≤ 10 → 1 ≤ v ∧ v ≤ 2000) ∧ (11 ≤ j ∧ j ≤ 13 → 0 ≤ v ∧ v ≤ 20) ∧ (14 ≤ j ∧ j ≤ 16 → 1 ≤ v ∧ v ≤ 5000) ∧ (17 ≤ j ∧ j ≤ 19 → 1 ≤ v ∧ v ≤ 500) ∧ ((47 ≤ j ∧ j ≤ 52) ∨ (74 ≤ j ∧ j < 122) → 0 ≤ v ∧ v ≤ 2000)
/-- what holds of a row, but for its moves -/
def m_R0 (w : Nat → Int) : Prop := (∀ j, j < 122 → m_pv j (w j)) ∧ m_a3 w
/-- what holds of a row between two calls -/
def m_RI (w : Nat → Int) : Prop := m_R0 w ∧ m_nn w
theorem m_R0_ok {w : Nat → Int} (h : m_R0 w) : m_ok w := by
  obtain ⟨h, -⟩ := h
  refine ⟨(h 0 (by omega)).1 rfl, (h 4 (by omega)).2.2.2.1 rfl, fun a ha => ?_, fun j h1 h2 => (h j h2).2.2.2.2.2.2.2.2.2 (Or.inr ⟨h1, h2⟩)⟩
  have a1 := (h (8 + a) (by omega)).2.2.2.2.2.1 (by omega)
  have a2 := (h (11 + a) (by omega)).2.2.2.2.2.2.1 (by omega)
  have a3 := (h (14 + a) (by omega)).2.2.2.2.2.2.2.1 (by omega)
  have a4 := (h (17 + a) (by omega)).2.2.2.2.2.2.2.2.1 (by omega)
  have a5 := (h (47 + a) (by omega)).2.2.2.2.2.2.2.2.2 (by omega)
  exact ⟨a1.1, a1.2, a2.1, a2.2, a3.1, a3.2, a4.1, a4.2, a5.1, a5.2⟩
theorem m_R0_fr {w w' : Nat → Int} (h : m_R0 w) (f : m_fr w w') (a3 : m_a3 w') : m_R0 w' := by
  refine ⟨fun j hj => ?_, a3⟩
  by_cases e : m_dy j
  · unfold m_dy at e
    unfold m_pv
    refine ⟨?_, ?_, ?_, ?_, ?_, ?_, ?_, ?_, ?_, ?_⟩ <;> intro h9 <;> omega
  · rw [f j e]; exact h.1 j hj
theorem m_R0_u {w : Nat → Int} {j : Nat} {v : Int} (h : m_R0 w) (hv : m_pv j v) (a3 : m_a3 (m_u w j v)) : m_R0 (m_u w j v) := by
  refine ⟨fun k hk => ?_, a3⟩
  by_cases e : k = j
  · subst e; rw [m_u_s]; exact hv
  · rw [m_u_n e]; exact h.1 k hk
theorem m_R0_v {w : Nat → Int} {j : Nat} {v : Int} (h : m_R0 w) (hv : m_pv j v) (hj : j < 8 ∨ 62 ≤ j ∨ (14 ≤ j ∧ j < 20) ∨ (35 ≤ j ∧ j < 44) ∨ (47 ≤ j ∧ j < 53)) : m_R0 (m_u w j v) := m_R0_u h hv (m_a3_u h.2 hj)
theorem m_R0_w {w : Nat → Int} {j : Nat} {v : Int} (h : m_R0 w) (hj : (5 ≤ j ∧ j ≤ 7) ∨ (35 ≤ j ∧ j ≤ 37) ∨ (62 ≤ j ∧ j < 74)) : m_R0 (m_u w j v) := m_R0_v h (by
    unfold m_pv
    refine ⟨?_, ?_, ?_, ?_, ?_, ?_, ?_, ?_, ?_, ?_⟩ <;> intro h9 <;> omega) (by omega)
theorem m_a3_c {w w' : Nat → Int} (h : m_a3 w) (e : ∀ j, j < 122 → w' j = w j) : m_a3 w' := m_a3_of fun a ha => by
  have g := m_a3_i h ha
  unfold m_ai
  rw [e (29 + a) (by omega), e (11 + a) (by omega), e (26 + a) (by omega), e (8 + a) (by omega), e (53 + a) (by omega), e (20 + a) (by omega), e (23 + a) (by omega), e (44 + a) (by omega), e (32 + a) (by omega), e (56 + a) (by omega), e (59 + a) (by omega)]
  exact g
theorem m_nn_c {w w' : Nat → Int} (h : m_nn w) (e : ∀ j, j < 122 → w' j = w j) (h4 : w 4 ≤ 16) : m_nn w' := by
  intro m hm
  rw [e 4 (by omega)] at hm
  have g := h m hm
  have b : ∀ k a, k ≤ 16 → a < 3 → m_beg w' k a = m_beg w k a := fun k a hk ha => by
    unfold m_beg; split
    · exact e _ (by omega)
    · exact e _ (by omega)
  have d : ∀ a, a < 3 → m_d w' m a = m_d w m a := fun a ha => by unfold m_d; rw [b _ a (by omega) ha, b _ a (by omega) ha]
  unfold m_mv
  rw [d 0 (by omega), d 1 (by omega), d 2 (by omega)]
  exact g
theorem m_R0_c {w w' : Nat → Int} (h : m_R0 w) (e : ∀ j, j < 122 → w' j = w j) : m_R0 w' := ⟨fun j hj => by rw [e j hj]; exact h.1 j hj, m_a3_c h.2 e⟩
theorem m_RI_c {w w' : Nat → Int} (h : m_RI w) (e : ∀ j, j < 122 → w' j = w j) : m_RI w' := ⟨m_R0_c h.1 e, m_nn_c h.2 e (m_R0_ok h.1).2.1.2⟩
theorem c_tb_c {h : q_F} {t : Nat} {w w' : Nat → Int} (hc : c_tb h t w) (h4 : w 4 ≤ 16) (e : ∀ j, j < 122 → w' j = w j) : c_tb h t w' :=
  c_tb_g7 hc (fun _ _ _ => rfl) (fun j hj _ => e j (by omega)) (by rw [e 4 (by omega)]; exact hc.2.2.1) (fun j hj => by
    rw [e 4 (by omega)] at hj
    rw [e _ (by omega)]; exact hc.2.2.2 j hj)
def m_St : Type := (Nat → Int) × Nat × (Nat → Nat → Int) × Int × (Nat → Int)
def m_St.w (S : m_St) : Nat → Int := S.1
def m_St.n (S : m_St) : Nat := S.2.1
def m_St.P (S : m_St) : Nat → Nat → Int := S.2.2.1
def m_St.sv (S : m_St) : Int := S.2.2.2.1
def m_St.ws (S : m_St) : Nat → Int := S.2.2.2.2
def m_mkS (w : Nat → Int) (n : Nat) (P : Nat → Nat → Int) (sv : Int) (ws : Nat → Int) : m_St := (w, n, P, sv, ws)
/-- the class between two calls -/
def c_I (h : q_F) (S : m_St) : Prop := c_tb h 6 S.w ∧ (h 33 1 = (S.n : Int) ∧ 0 ≤ h 33 2 ∧ h 33 2 < 10 ∧ ∀ k, k < S.n → c_tb h (35 + 9 * (((h 33 2).toNat + 10 - S.n + k) % 10)) (S.P k)) ∧ (h 0 9 = S.sv ∧ (S.sv ≠ 0 → c_tb h 15 S.ws))
/-- the reference between two calls -/
def r_I (h : q_F) (S : m_St) : Prop := h 140 = S.w ∧ (h 139 5 = (S.n : Int) ∧ ∀ k, k < S.n → ∀ j, j < 122 → h 144 (122 * k + j) = S.P k j) ∧ (h 139 6 = S.sv ∧ (S.sv ≠ 0 → ∀ j, j < 122 → h 143 j = S.ws j))
/-- all that lies between two calls is sound -/
def m_I (S : m_St) : Prop := m_RI S.w ∧ (S.n ≤ 10 ∧ ∀ k, k < S.n → m_RI (S.P k)) ∧ (S.sv = 0 ∨ S.sv = 1) ∧ (S.sv ≠ 0 → m_RI S.ws)
theorem c_I_k {h h' : q_F} {S : m_St} (hI : c_I h S) (hn : S.n ≤ 10) (e : ∀ k, (6 ≤ k ∧ k ≤ 23) ∨ (33 ≤ k ∧ k ≤ 124) → h' k = h k) (e9 : h' 0 9 = h 0 9) : c_I h' S := by
  obtain ⟨h1, ⟨h2, h3, h4, h5⟩, h6, h7⟩ := hI
  refine ⟨c_tb_k h1 fun k k1 k2 => e k (by omega), ⟨?_, ?_, ?_, fun k hk => ?_⟩, ?_, fun hs => c_tb_k (h7 hs) fun k k1 k2 => e k (by omega)⟩
  · rw [e 33 (by omega)]; exact h2
  · rw [e 33 (by omega)]; exact h3
  · rw [e 33 (by omega)]; exact h4
  · rw [e 33 (by omega)]; exact c_tb_k (h5 k hk) fun k k1 k2 => e k (by omega)
  · rw [e9]; exact h6
theorem r_I_k {h h' : q_F} {S : m_St} (hI : r_I h S) (e : ∀ k, k = 140 ∨ k = 143 ∨ k = 144 → h' k = h k) (e5 : h' 139 5 = h 139 5) (e6 : h' 139 6 = h 139 6) : r_I h' S := by
  obtain ⟨h1, ⟨h2, h3⟩, h4, h5⟩ := hI
  refine ⟨by rw [e 140 (by omega)]; exact h1, ⟨by rw [e5]; exact h2, by rw [e 144 (by omega)]; exact h3⟩, by rw [e6]; exact h4, by rw [e 143 (by omega)]; exact h5⟩
def m_rem (S : m_St) : m_St := m_mkS S.w (if S.n = 10 then 10 else S.n + 1) (fun k => if S.n = 10 then (if k < 9 then S.P (k + 1) else S.w) else (if k = S.n then S.w else S.P k)) S.sv S.ws
theorem m_I_rem {S : m_St} (h : m_I S) : m_I (m_rem S) := by
  obtain ⟨h1, ⟨h2, h3⟩, h4, h5⟩ := h
  refine ⟨h1, ⟨?_, fun k hk => ?_⟩, h4, h5⟩
  · show (if S.n = 10 then 10 else S.n + 1) ≤ 10
    split <;> omega
  · have hk' : k < (if S.n = 10 then 10 else S.n + 1) := hk
    show m_RI (if S.n = 10 then (if k < 9 then S.P (k + 1) else S.w) else (if k = S.n then S.w else S.P k))
    by_cases e : S.n = 10
    · rw [if_pos e] at hk' ⊢
      split
      · exact h3 _ (by omega)
      · exact h1
    · rw [if_neg e] at hk' ⊢
      split
      · exact h1
      · exact h3 _ (by omega)
theorem c_remember {h : q_F} {S : m_St} (hI : c_I h S) (hm : m_I S) : ∃ h', fn67 6 h = some (0, h') ∧ c_I h' (m_rem S) ∧ ∀ k, k < 33 ∨ 125 ≤ k → h' k = h k := by
  obtain ⟨h1, ⟨h2, h3, h4, h5⟩, h6, h7⟩ := hI
  obtain ⟨m1, ⟨m2, m3⟩, m4, m5⟩ := hm
  have ok := (m_R0_ok m1.1).2.1
  obtain ⟨x, hx⟩ : ∃ x : Nat, h 33 2 = (x : Int) := ⟨(h 33 2).toNat, by omega⟩
  rw [hx] at h3 h4 h5
  rw [Int.toNat_natCast] at h5
  obtain ⟨g, g1, g2, g3⟩ := c_copy (t := 35 + 9 * x) (t1 := 6) (by omega) h1 ok
  have es : q_slot (h 33 2) = 35 + 9 * x := by rw [hx]; rfl
  have k33 : g 33 = h 33 := g3 33 (by omega)
  rw [fn67, hx, if_pos (by omega), ← hx, es, g1, Option.bind_some]
  dsimp only
  rw [m_let, m_let, q_ud_n (show ¬ (33 = 33 ∧ 1 = 2) by omega), k33, hx, h2, q_w32_id (z := (x : Int) + 1) (by omega) (by omega), m_irm (by omega) (by omega) (by omega) (by omega), q_w32_id (z := (S.n : Int) + 1) (by omega) (by omega)]
  have en : qx_mn ((S.n : Int) + 1) 10 = (((if S.n = 10 then 10 else S.n + 1 : Nat)) : Int) := by unfold qx_mn; (repeat' split) <;> omega
  have hy : ((x : Int) + 1) % 10 = (((x + 1) % 10 : Nat) : Int) := by omega
  rw [en, hy]
  refine ⟨_, rfl, ⟨?_, ⟨?_, ?_, ?_, fun k hk => ?_⟩, ?_, ?_⟩, fun k hk => ?_⟩
  · exact c_tb_k h1 fun k k1 k2 => by funext j; rw [q_ud_n (by omega), q_ud_n (by omega), g3 k (by omega)]
  · rw [q_ud_s]; rfl
  · rw [q_ud_n (by omega), q_ud_s]; omega
  · rw [q_ud_n (by omega), q_ud_s]; omega
  · rw [q_ud_n (show ¬ (33 = 33 ∧ 2 = 1) by omega), q_ud_s, Int.toNat_natCast]
    have hk' : k < (if S.n = 10 then 10 else S.n + 1) := hk
    have key : c_tb g (35 + 9 * (((x + 1) % 10 + 10 - (if S.n = 10 then 10 else S.n + 1) + k) % 10)) (if S.n = 10 then (if k < 9 then S.P (k + 1) else S.w) else (if k = S.n then S.w else S.P k)) := by
      have old : ∀ i, i < S.n → (x + 10 - S.n + i) % 10 ≠ x → c_tb g (35 + 9 * ((x + 10 - S.n + i) % 10)) (S.P i) := fun i hi hne => c_tb_k (h5 i hi) fun k k1 k2 => g3 k (by omega)
      by_cases e : S.n = 10
      · rw [if_pos e] at hk' ⊢
        rw [if_pos e]
        by_cases e2 : k < 9
        · rw [if_pos e2]
          have := old (k + 1) (by omega) (by omega)
          rw [show (x + 10 - S.n + (k + 1)) % 10 = ((x + 1) % 10 + 10 - 10 + k) % 10 by omega] at this
          exact this
        · rw [if_neg e2, show ((x + 1) % 10 + 10 - 10 + k) % 10 = x by omega]
          exact g2
      · rw [if_neg e] at hk' ⊢
        rw [if_neg e]
        by_cases e2 : k = S.n
        · rw [if_pos e2, show ((x + 1) % 10 + 10 - (S.n + 1) + k) % 10 = x by omega]
          exact g2
        · rw [if_neg e2]
          have := old k (by omega) (by omega)
          rw [show (x + 10 - S.n + k) % 10 = ((x + 1) % 10 + 10 - (S.n + 1) + k) % 10 by omega] at this
          exact this
    exact c_tb_k key fun k k1 k2 => by funext j; rw [q_ud_n (by omega), q_ud_n (by omega)]
  · rw [q_ud_n (by omega), q_ud_n (by omega), g3 0 (by omega)]; exact h6
  · intro hs
    exact c_tb_k (h7 hs) fun k k1 k2 => by funext j; rw [q_ud_n (by omega), q_ud_n (by omega), g3 k (by omega)]
  · funext j; rw [q_ud_n (by omega), q_ud_n (by omega), g3 k (by omega)]
theorem r_remember {h : q_F} {S : m_St} (hI : r_I h S) (hn : S.n ≤ 10) : ∃ h', fn320 h = some (0, h') ∧ r_I h' (m_rem S) ∧ (∀ k, k ≠ 139 → k ≠ 144 → h' k = h k) ∧ ∀ j, j ≠ 5 → h' 139 j = h 139 j := by
  obtain ⟨h1, ⟨h2, h3⟩, h4, h5⟩ := hI
  have tail : ∀ (n : Nat) (g : q_F) (Q : Nat → Nat → Int), n ≤ 9 → g 139 5 = (n : Int) → g 140 = S.w → (∀ k, k < n → ∀ j, j < 122 → g 144 (122 * k + j) = Q k j) → ∃ g', fn320_36 g = some (0, g') ∧ g' 139 5 = ((n + 1 : Nat) : Int) ∧ (∀ k, k < n → ∀ j, j < 122 → g' 144 (122 * k + j) = Q k j) ∧ (∀ j, j < 122 → g' 144 (122 * n + j) = S.w j) ∧ (∀ k, k ≠ 139 → k ≠ 144 → g' k = g k) ∧ ∀ j, j ≠ 5 → g' 139 j = g 139 j := by
    intro n g Q hn e5 ew hq
    rw [fn320_36, e5, q_w32_id (z := 122 * (n : Int)) (by omega) (by omega), fn249_i (by omega) (by omega) (by omega) (by omega) (by omega) (by omega) (by omega) (by omega), Option.bind_some]
    dsimp only
    rw [m_let, m_sr_n (by omega), e5, q_w32_id (by omega) (by omega), show (0 : Int).toNat = 0 from rfl, show (122 * (n : Int)).toNat = 122 * n by omega, show (122 : Int).toNat = 122 from rfl, ew]
    refine ⟨_, rfl, by rw [q_ud_s]; omega, fun k hk j hj => ?_, fun j hj => ?_, fun k k1 k2 => ?_, fun j hj => ?_⟩
    · rw [q_ud_n (by omega), m_sr_s]; unfold m_cp; rw [if_neg (by omega)]; exact hq k hk j hj
    · rw [q_ud_n (by omega), m_sr_s]; unfold m_cp; rw [if_pos (by omega)]; congr 1; omega
    · funext j; rw [q_ud_n (by omega), m_sr_n k2]
    · rw [q_ud_n (by omega), m_sr_n (by omega)]
  rw [fn320]
  by_cases e : S.n = 10
  · rw [if_pos (by omega), fn249_i (by omega) (by omega) (by omega) (by omega) (by omega) (by omega) (by omega) (by omega), Option.bind_some]
    dsimp only
    rw [m_let, m_sr_n (by omega), h2, q_w32_id (by omega) (by omega), show (0 : Int).toNat = 0 from rfl, show (122 : Int).toNat = 122 from rfl, show (1098 : Int).toNat = 1098 from rfl]
    obtain ⟨g', g1, g2, g3, g4, g5, g6⟩ := tail 9 (q_ud (m_sr h 144 (m_cp (h 144) (h 144) 122 0 1098)) 139 5 ((S.n : Int) - 1)) (fun k => S.P (k + 1)) (by omega) (by rw [q_ud_s]; omega) (by funext j; rw [q_ud_n (by omega), m_sr_n (by omega), h1]) (fun k hk j hj => by
      rw [q_ud_n (by omega), m_sr_s]; unfold m_cp; rw [if_pos (by omega), ← h3 (k + 1) (by omega) j hj]; congr 1; omega)
    refine ⟨g', g1, ⟨?_, ⟨?_, fun k hk j hj => ?_⟩, ?_, fun hs j hj => ?_⟩, fun k k1 k2 => ?_, fun j hj => ?_⟩
    · rw [g5 140 (by omega) (by omega)]; funext j; rw [q_ud_n (by omega), m_sr_n (by omega), h1]; rfl
    · rw [g2]; show _ = ((if S.n = 10 then 10 else S.n + 1 : Nat) : Int); rw [if_pos e]
    · have hk' : k < (if S.n = 10 then 10 else S.n + 1) := hk
      rw [if_pos e] at hk'
      show _ = (if S.n = 10 then (if k < 9 then S.P (k + 1) else S.w) else (if k = S.n then S.w else S.P k)) j
      rw [if_pos e]
      by_cases e2 : k < 9
      · rw [if_pos e2]; exact g3 k e2 j hj
      · rw [if_neg e2, show k = 9 by omega]; exact g4 j hj
    · rw [g6 6 (by omega), q_ud_n (by omega), m_sr_n (by omega)]; exact h4
    · rw [g5 143 (by omega) (by omega), q_ud_n (by omega), m_sr_n (by omega)]; exact h5 hs j hj
    · rw [g5 k k1 k2]; funext j; rw [q_ud_n (by omega), m_sr_n k2]
    · rw [g6 j hj, q_ud_n (by omega), m_sr_n (by omega)]
  · rw [if_neg (by omega)]
    obtain ⟨g', g1, g2, g3, g4, g5, g6⟩ := tail S.n h S.P (by omega) h2 h1 h3
    refine ⟨g', g1, ⟨?_, ⟨?_, fun k hk j hj => ?_⟩, ?_, fun hs j hj => ?_⟩, g5, g6⟩
    · rw [g5 140 (by omega) (by omega), h1]; rfl
    · rw [g2]; show _ = ((if S.n = 10 then 10 else S.n + 1 : Nat) : Int); rw [if_neg e]
    · have hk' : k < (if S.n = 10 then 10 else S.n + 1) := hk
      rw [if_neg e] at hk'
      show _ = (if S.n = 10 then (if k < 9 then S.P (k + 1) else S.w) else (if k = S.n then S.w else S.P k)) j
      rw [if_neg e]
      by_cases e2 : k = S.n
      · rw [if_pos e2]; subst e2; exact g4 j hj
      · rw [if_neg e2]; exact g3 k (by omega) j hj
    · rw [g6 6 (by omega)]; exact h4
    · rw [g5 143 (by omega) (by omega)]; exact h5 hs j hj
