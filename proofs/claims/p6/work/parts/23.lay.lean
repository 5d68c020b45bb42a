/-! Part 23: the cells of the object, of the reference and of the law, by their places. Printed by wip/tools/gen23.py. -/
abbrev q_nn : Nat := 155
abbrev q_lAx (a : Nat) : q_Ly := (0, 1, [(0, 0), (0, 0), (0, 0), (0, 0), (0, 0), (0, 0), (0, 0), (0, 0), (0, 0), (0, 0), (0, 0), (0, 0), (0, 0), (0, 0), (2, Int.ofNat (a + 1))])
abbrev q_lAc : q_Ly := (0, 0, [(0, 0), (0, 0), (0, 0), (0, 0), (0, 0), (0, 0), (0, 0)])
abbrev q_lTb (t : Nat) : q_Ly := (0, 6, [(2, Int.ofNat (t + 1)), (2, Int.ofNat (t + 3)), (2, Int.ofNat (t + 5)), (2, Int.ofNat (t + 7)), (0, 0), (0, 0), (0, 0), (0, 0), (1, 0), (1, 0), (1, 0)])
abbrev q_lTg (t : Nat) : q_Ly := (0, 7, [(2, Int.ofNat (t + 1)), (0, 0)])
def q_lt (t j : Nat) : q_Ly := match j with
  | 0 => q_lTb t
  | 1 => q_lAx (t + 1)
  | 2 => q_lAc
  | 3 => q_lAx (t + 3)
  | 4 => q_lAc
  | 5 => q_lAx (t + 5)
  | 6 => q_lAc
  | 7 => q_lTg (t + 7)
  | _ => (1, 48, [])
def q_K0 (k : Nat) : q_Ly := match k with
  | 0 => (0, 8, [(2, Int.ofNat 1), (2, Int.ofNat 3), (2, Int.ofNat 6), (2, Int.ofNat 15), (2, Int.ofNat 24), (2, Int.ofNat 33), (2, Int.ofNat 125), (2, Int.ofNat 135), (2, Int.ofNat 137), (0, 0)])
  | 1 => (0, 2, [(2, Int.ofNat 2), (0, 0)])
  | 2 => (2, 600, [])
  | 3 => (0, 5, [(2, Int.ofNat 4), (2, Int.ofNat 5), (0, 0), (0, 0), (0, 0), (0, 0), (0, 0)])
  | 4 => (1, 18, [])
  | 5 => (1, 3, [])
  | 33 => (0, 3, [(2, Int.ofNat 34), (0, 0), (0, 0)])
  | 34 => (5, 10, [(2, Int.ofNat 35), (2, Int.ofNat 44), (2, Int.ofNat 53), (2, Int.ofNat 62), (2, Int.ofNat 71), (2, Int.ofNat 80), (2, Int.ofNat 89), (2, Int.ofNat 98), (2, Int.ofNat 107), (2, Int.ofNat 116)])
  | 125 => (0, 4, [(2, Int.ofNat 126), (2, Int.ofNat 127), (2, Int.ofNat 128), (2, Int.ofNat 129), (2, Int.ofNat 130), (2, Int.ofNat 131), (2, Int.ofNat 132), (2, Int.ofNat 133), (2, Int.ofNat 134), (0, 0), (0, 0)])
  | 126 => (1, 48, [])
  | 127 => (1, 48, [])
  | 128 => (1, 48, [])
  | 129 => (1, 16, [])
  | 130 => (1, 16, [])
  | 131 => (1, 16, [])
  | 132 => (1, 16, [])
  | 133 => (1, 16, [])
  | 134 => (1, 17, [])
  | 135 => (0, 7, [(2, Int.ofNat 136), (0, 0)])
  | 136 => (1, 48, [])
  | 137 => (0, 2, [(2, Int.ofNat 138), (0, 0)])
  | 138 => (2, 600, [])
  | 139 => (0, 9, [(2, Int.ofNat 140), (2, Int.ofNat 141), (2, Int.ofNat 142), (2, Int.ofNat 143), (2, Int.ofNat 144), (0, 0), (0, 0), (0, 0), (2, Int.ofNat 145), (2, Int.ofNat 146), (2, Int.ofNat 147), (2, Int.ofNat 148), (2, Int.ofNat 149), (2, Int.ofNat 150), (0, 0), (0, 0), (0, 0), (0, 0), (0, 0), (0, 0), (0, 0), (0, 0), (0, 0), (0, 0), (1, 0), (2, Int.ofNat 151), (2, Int.ofNat 152), (0, 0)])
  | 140 => (3, 122, [])
  | 141 => (3, 122, [])
  | 142 => (3, 122, [])
  | 143 => (3, 122, [])
  | 144 => (3, 1220, [])
  | 145 => (1, 48, [])
  | 146 => (1, 16, [])
  | 147 => (1, 16, [])
  | 148 => (1, 16, [])
  | 149 => (1, 17, [])
  | 150 => (1, 600, [])
  | 151 => (1, 3, [])
  | 152 => (1, 300, [])
  | 153 => (3, 1, [])
  | 154 => (4, 1, [])
  | _ => (9, 0, [])
def q_K (k : Nat) : q_Ly := if 6 ≤ k ∧ k < 33 then q_lt (k - (k - 6) % 9) ((k - 6) % 9) else if 35 ≤ k ∧ k < 125 then q_lt (k - (k - 35) % 9) ((k - 35) % 9) else q_K0 k
/-- a table -/
def q_isT (t : Nat) : Prop := t = 6 ∨ t = 15 ∨ t = 24 ∨ t = 35 ∨ t = 44 ∨ t = 53 ∨ t = 62 ∨ t = 71 ∨ t = 80 ∨ t = 89 ∨ t = 98 ∨ t = 107 ∨ t = 116
theorem q_K_t {t : Nat} (h : q_isT t) : ∀ j, j < 9 → q_K (t + j) = q_lt t j := by
  intro j hj
  rcases h with rfl | rfl | rfl | rfl | rfl | rfl | rfl | rfl | rfl | rfl | rfl | rfl | rfl <;> (match j, hj with
    | 0, _ => rfl
    | 1, _ => rfl
    | 2, _ => rfl
    | 3, _ => rfl
    | 4, _ => rfl
    | 5, _ => rfl
    | 6, _ => rfl
    | 7, _ => rfl
    | 8, _ => rfl)
theorem q_T_n {t : Nat} (h : q_isT t) : t + 8 < 125 := by
  rcases h with rfl | rfl | rfl | rfl | rfl | rfl | rfl | rfl | rfl | rfl | rfl | rfl | rfl <;> omega
/-- an axis -/
def q_isA (a : Nat) : Prop := ∃ t, q_isT t ∧ (a = t + 1 ∨ a = t + 3 ∨ a = t + 5)
theorem q_K_a {a : Nat} (h : q_isA a) : q_K a = q_lAx a := by
  obtain ⟨t, ht, rfl | rfl | rfl⟩ := h
  · exact q_K_t ht 1 (by omega)
  · exact q_K_t ht 3 (by omega)
  · exact q_K_t ht 5 (by omega)
theorem q_K_c {a : Nat} (h : q_isA a) : q_K (a + 1) = q_lAc := by
  obtain ⟨t, ht, rfl | rfl | rfl⟩ := h
  · exact q_K_t ht 2 (by omega)
  · exact q_K_t ht 4 (by omega)
  · exact q_K_t ht 6 (by omega)
theorem q_A_n {a : Nat} (h : q_isA a) : a + 1 < 125 := by
  obtain ⟨t, ht, rfl | rfl | rfl⟩ := h <;> have := q_T_n ht <;> omega
/-- an account; a row of bytes; a row of targets -/
def q_isC (c : Nat) : Prop := ∃ a, q_isA a ∧ c = a + 1
def q_isB (b : Nat) : Prop := b = 1 ∨ b = 137
def q_isG (g : Nat) : Prop := (∃ t, q_isT t ∧ g = t + 7) ∨ g = 135
theorem q_fA {a : Nat} (h : q_isA a) : q_K a = q_lAx a ∧ q_K (a + 1) = q_lAc ∧ a + 1 < 125 ∧ 6 < a := by
  refine ⟨q_K_a h, q_K_c h, q_A_n h, ?_⟩
  obtain ⟨t, ht, h9⟩ := h
  rcases ht with rfl | rfl | rfl | rfl | rfl | rfl | rfl | rfl | rfl | rfl | rfl | rfl | rfl <;> omega
theorem q_fC {c : Nat} (h : q_isC c) : q_K c = q_lAc ∧ c < 125 ∧ 6 < c := by
  obtain ⟨a, h, rfl⟩ := h
  obtain ⟨h1, h2, h3, h4⟩ := q_fA h
  exact ⟨h2, h3, by omega⟩
theorem q_fB {b : Nat} (h : q_isB b) : q_K b = (0, 2, [(2, Int.ofNat (b + 1)), (0, 0)]) ∧ q_K (b + 1) = (2, 600, []) ∧ b + 1 < 139 ∧ (b = 1 ∨ b = 137) := by
  rcases h with rfl | rfl
  · exact ⟨rfl, rfl, by omega, Or.inl rfl⟩
  · exact ⟨rfl, rfl, by omega, Or.inr rfl⟩
theorem q_fT {t : Nat} (h : q_isT t) : q_K t = q_lTb t ∧ q_K (t + 1) = q_lAx (t + 1) ∧ q_K (t + 1 + 1) = q_lAc ∧ q_K (t + 3) = q_lAx (t + 3) ∧ q_K (t + 3 + 1) = q_lAc ∧ q_K (t + 5) = q_lAx (t + 5) ∧ q_K (t + 5 + 1) = q_lAc ∧ q_K (t + 7) = q_lTg (t + 7) ∧ q_K (t + 7 + 1) = (1, 48, []) ∧ t + 8 < 125 ∧ 6 ≤ t := by
  refine ⟨q_K_t h 0 (by omega), q_K_t h 1 (by omega), q_K_t h 2 (by omega), q_K_t h 3 (by omega), q_K_t h 4 (by omega), q_K_t h 5 (by omega), q_K_t h 6 (by omega), q_K_t h 7 (by omega), q_K_t h 8 (by omega), q_T_n h, ?_⟩
  rcases h with rfl | rfl | rfl | rfl | rfl | rfl | rfl | rfl | rfl | rfl | rfl | rfl | rfl <;> omega
theorem q_fG {g : Nat} (h : q_isG g) : q_K g = q_lTg g ∧ q_K (g + 1) = (1, 48, []) ∧ g + 1 < 137 ∧ 6 < g := by
  rcases h with ⟨t, ht, rfl⟩ | rfl
  · obtain ⟨h0, h1, h2, h3, h4, h5, h6, h7, h8, h9, h10⟩ := q_fT ht
    exact ⟨h7, h8, by omega, by omega⟩
  · exact ⟨rfl, rfl, by omega, by omega⟩
theorem q_hC {a : Nat} (h : q_isA a) : q_isC (a + 1) := ⟨a, h, rfl⟩
theorem q_h1 {t : Nat} (h : q_isT t) : q_isA (t + 1) := ⟨t, h, Or.inl rfl⟩
theorem q_h3 {t : Nat} (h : q_isT t) : q_isA (t + 3) := ⟨t, h, Or.inr (Or.inl rfl)⟩
theorem q_h5 {t : Nat} (h : q_isT t) : q_isA (t + 5) := ⟨t, h, Or.inr (Or.inr rfl)⟩
theorem q_hG {t : Nat} (h : q_isT t) : q_isG (t + 7) := Or.inl ⟨t, h, rfl⟩
theorem q_hP : q_isG 135 := Or.inr rfl
theorem q_hB1 : q_isB 1 := Or.inl rfl
theorem q_hB2 : q_isB 137 := Or.inr rfl
theorem q_hT6 : q_isT 6 := Or.inl rfl
theorem q_hT15 : q_isT 15 := Or.inr (Or.inl rfl)
theorem q_hT24 : q_isT 24 := Or.inr (Or.inr (Or.inl rfl))
/-- where a truth value lies -/
def q_zf (L : q_Ly) (j : Nat) : Bool := bif Nat.beq L.1 0 then (bif Nat.beq L.2.1 1 then (bif Nat.beq j 10 then true else Nat.beq j 11) else bif Nat.beq L.2.1 6 then (bif Nat.beq j 5 then true else Nat.beq j 6) else bif Nat.beq L.2.1 8 then Nat.beq j 9 else bif Nat.beq L.2.1 9 then Nat.beq j 6 else false) else false
def q_Bz (h : q_F) : Prop := ∀ k j, q_zf (q_K k) j = true → h k j = 0 ∨ h k j = 1
/-- only cells of S have changed, and truth values are kept -/
def q_Fr (S : Nat → Prop) (h h' : q_F) : Prop := (∀ k, ¬ S k → h' k = h k) ∧ (q_Bz h → q_Bz h')
theorem q_Fr.rf {S : Nat → Prop} {h : q_F} : q_Fr S h h := ⟨fun _ _ => rfl, fun z => z⟩
theorem q_ud_f {S : Nat → Prop} {h h' : q_F} {k j : Nat} {v : Int} (f : ∀ k, ¬ S k → h' k = h k) (hk : S k) : ∀ k', ¬ S k' → q_ud h' k j v k' = h k' := by
  intro k' hk'
  rw [← f k' hk']
  funext j'
  exact q_ud_n (fun h9 => hk' (h9.1 ▸ hk))
theorem q_Fr.ud {S : Nat → Prop} {h h' : q_F} {k j : Nat} {v : Int} {L : q_Ly} (f : q_Fr S h h') (hk : S k) (hK : q_K k = L) (hz : q_zf L j = false) : q_Fr S h (q_ud h' k j v) := by
  refine ⟨q_ud_f f.1 hk, fun z k' j' hz' => ?_⟩
  have : ¬ (k' = k ∧ j' = j) := by
    rintro ⟨rfl, rfl⟩
    rw [hK, hz] at hz'; cases hz'
  rw [q_ud_n this]
  exact f.2 z k' j' hz'
theorem q_Fr.udz {S : Nat → Prop} {h h' : q_F} {k j : Nat} {v : Int} (f : q_Fr S h h') (hk : S k) (hv : v = 0 ∨ v = 1) : q_Fr S h (q_ud h' k j v) := by
  refine ⟨q_ud_f f.1 hk, fun z k' j' hz' => ?_⟩
  by_cases h9 : k' = k ∧ j' = j
  · rw [h9.1, h9.2, q_ud_s]; exact hv
  · rw [q_ud_n h9]
    exact f.2 z k' j' hz'
theorem q_Fr.tr {S S' : Nat → Prop} {h h1 h2 : q_F} (f : q_Fr S h h1) (g : q_Fr S' h1 h2) (hs : ∀ k, S' k → S k) : q_Fr S h h2 :=
  ⟨fun k hk => (g.1 k (fun h9 => hk (hs k h9))).trans (f.1 k hk), fun z => g.2 (f.2 z)⟩
theorem q_Fr.bz {S : Nat → Prop} {h h' : q_F} (z : q_Bz h) (f : q_Fr S h h') : q_Bz h' := f.2 z
theorem r_getz {Γ : q_Γ} {n i pc len nx x y idx cl sl kk : Nat} {v d2 : Int} {P : Nat → q_V → q_F → Prop} {lo : q_L} {st : List q_V} {h : q_F} {ds : List q_Ds} (hz : q_Bz h) (he : q_cat i pc (.getfield idx) len x y v) (hk : kk < n) (hN : n ≤ 256) (hK : q_K kk = (0, x, ds)) (hd : ds[y]? = some (0, d2)) (hf : q_zf (0, x, ds) y = true) (hn : Nat.add pc len = nx) (k : (h kk y = 0 ∨ h kk y = 1) → q_R Γ q_K n i P (nx, lo, (0, h kk y) :: st, q_hp q_K n h, [], cl, sl)) : q_R Γ q_K n i P (pc, lo, (2, Int.ofNat kk) :: st, q_hp q_K n h, [], cl, sl) := r_geti he hk hN hK hd hn (k (hz kk y (by rw [hK]; exact hf)))
theorem q_mu {v : Int} (h : -2147483648 ≤ v ∧ v < 2147483648) : 2147483648 - v < ((4294967298 : Nat) : Int) := by omega
theorem q_mdd {v : Int} (h : -2147483648 ≤ v ∧ v < 2147483648) : v + 2147483648 < ((4294967298 : Nat) : Int) := by omega
theorem q_w32_pd {x : Int} (h : -2147483648 < q_w32 x) : q_w32 (x + -1) = q_w32 x - 1 := by
  obtain ⟨h1, h2, k, hk⟩ := q_w32_s x
  obtain ⟨g1, g2, j, gj⟩ := q_w32_s (x + -1)
  omega
theorem q_w32_sc {x : Int} (h : q_w32 x < 2147483647) : q_w32 (x + 1) = q_w32 x + 1 := by
  obtain ⟨h1, h2, k, hk⟩ := q_w32_s x
  obtain ⟨g1, g2, j, gj⟩ := q_w32_s (x + 1)
  omega
theorem q_sw4 {a : Int} (h1 : 0 ≤ a) (h2 : a ≤ 4) : a = (0 : Int) ∨ a = (1 : Int) ∨ a = (2 : Int) ∨ a = (3 : Int) ∨ a = (4 : Int) := by omega
theorem q_sw5 {a : Int} (h1 : 0 ≤ a) (h2 : a ≤ 5) : a = (0 : Int) ∨ a = (1 : Int) ∨ a = (2 : Int) ∨ a = (3 : Int) ∨ a = (4 : Int) ∨ a = (5 : Int) := by omega
theorem q_sw6 {a : Int} (h1 : 0 ≤ a) (h2 : a ≤ 6) : a = (0 : Int) ∨ a = (1 : Int) ∨ a = (2 : Int) ∨ a = (3 : Int) ∨ a = (4 : Int) ∨ a = (5 : Int) ∨ a = (6 : Int) := by omega
theorem q_sw7 {a : Int} (h1 : 0 ≤ a) (h2 : a ≤ 7) : a = (0 : Int) ∨ a = (1 : Int) ∨ a = (2 : Int) ∨ a = (3 : Int) ∨ a = (4 : Int) ∨ a = (5 : Int) ∨ a = (6 : Int) ∨ a = (7 : Int) := by omega
theorem q_ring {z : Int} (h0 : 0 ≤ z) (h1 : z < 10) : ∃ r, (q_K 34).2.2[z.toNat]? = some (2, Int.ofNat r) ∧ q_isT r ∧ 35 ≤ r := by
  obtain e | e | e | e | e | e | e | e | e | e : z = 0 ∨ z = 1 ∨ z = 2 ∨ z = 3 ∨ z = 4 ∨ z = 5 ∨ z = 6 ∨ z = 7 ∨ z = 8 ∨ z = 9 := by omega
  · exact ⟨35, by rw [e]; rfl, Or.inr (Or.inr (Or.inr (Or.inl rfl))), by omega⟩
  · exact ⟨44, by rw [e]; rfl, Or.inr (Or.inr (Or.inr (Or.inr (Or.inl rfl)))), by omega⟩
  · exact ⟨53, by rw [e]; rfl, Or.inr (Or.inr (Or.inr (Or.inr (Or.inr (Or.inl rfl))))), by omega⟩
  · exact ⟨62, by rw [e]; rfl, Or.inr (Or.inr (Or.inr (Or.inr (Or.inr (Or.inr (Or.inl rfl)))))), by omega⟩
  · exact ⟨71, by rw [e]; rfl, Or.inr (Or.inr (Or.inr (Or.inr (Or.inr (Or.inr (Or.inr (Or.inl rfl))))))), by omega⟩
  · exact ⟨80, by rw [e]; rfl, Or.inr (Or.inr (Or.inr (Or.inr (Or.inr (Or.inr (Or.inr (Or.inr (Or.inl rfl)))))))), by omega⟩
  · exact ⟨89, by rw [e]; rfl, Or.inr (Or.inr (Or.inr (Or.inr (Or.inr (Or.inr (Or.inr (Or.inr (Or.inr (Or.inl rfl))))))))), by omega⟩
  · exact ⟨98, by rw [e]; rfl, Or.inr (Or.inr (Or.inr (Or.inr (Or.inr (Or.inr (Or.inr (Or.inr (Or.inr (Or.inr (Or.inl rfl)))))))))), by omega⟩
  · exact ⟨107, by rw [e]; rfl, Or.inr (Or.inr (Or.inr (Or.inr (Or.inr (Or.inr (Or.inr (Or.inr (Or.inr (Or.inr (Or.inr (Or.inl rfl))))))))))), by omega⟩
  · exact ⟨116, by rw [e]; rfl, Or.inr (Or.inr (Or.inr (Or.inr (Or.inr (Or.inr (Or.inr (Or.inr (Or.inr (Or.inr (Or.inr (Or.inr (rfl)))))))))))), by omega⟩
theorem q_sw6b {a : Int} (h1 : 6 ≤ a) (h2 : a ≤ 11) : a = (6 : Int) ∨ a = (7 : Int) ∨ a = (8 : Int) ∨ a = (9 : Int) ∨ a = (10 : Int) ∨ a = (11 : Int) := by omega
