/-! Part 29: the reference's row: what its places hold; frames by places. Printed by wip/tools/gen29.py. -/
abbrev q_r32 (v : Int) : Prop := -2147483648 ≤ v ∧ v < 2147483648
abbrev q_r64 (v : Int) : Prop := -9223372036854775808 ≤ v ∧ v < 9223372036854775808
abbrev q_Rw (j : Nat) (v : Int) : Prop := (j = 0 → 1 ≤ v ∧ v ≤ 1000) ∧ (j = 4 → 0 ≤ v ∧ v ≤ 16) ∧ (8 ≤ j → j ≤ 10 → 1 ≤ v ∧ v ≤ 2000) ∧ (11 ≤ j → j ≤ 13 → 0 ≤ v ∧ v ≤ 20) ∧ (14 ≤ j → j ≤ 16 → 1 ≤ v ∧ v ≤ 5000) ∧ (17 ≤ j → j ≤ 19 → 1 ≤ v ∧ v ≤ 500) ∧ (47 ≤ j → j ≤ 49 → 0 ≤ v ∧ v ≤ 2000) ∧ (74 ≤ j → 0 ≤ v ∧ v ≤ 2000)
abbrev q_Rf (j : Nat) (v : Int) : Prop := (j = 5 → 0 ≤ v ∧ v ≤ 10) ∧ (j = 14 → 0 ≤ v ∧ v ≤ 600) ∧ (j = 19 → 0 ≤ v ∧ v ≤ 600) ∧ (j = 20 → 0 ≤ v ∧ v ≤ 600) ∧ (j = 27 → 0 ≤ v ∧ v ≤ 300)
/-- what a place of the reference holds: the row; its own fields; its other rows of longs; its rows of ints -/
def q_Rv (k j : Nat) (v : Int) : Prop := (k = 140 → q_r64 v ∧ q_Rw j v) ∧ (k = 139 → q_r64 v ∧ (j = 24 ∨ q_r32 v) ∧ q_Rf j v) ∧ (141 ≤ k → k ≤ 144 → q_r64 v) ∧ (145 ≤ k → k ≤ 152 → q_r32 v)
def q_Rb (h : q_F) : Prop := ∀ k j, q_Rv k j (h k j)
theorem q_rh1 (z : Int) : -9223372036854775808 ≤ q_w64 z := (q_w64_s z).1
theorem q_rh2 (z : Int) : q_w64 z < 9223372036854775808 := (q_w64_s z).2.1
theorem q_rgi (x : Int32) : q_r32 x.toInt := ⟨Int32.le_toInt x, Int32.toInt_lt x⟩
theorem q_rgj (x : Int64) : q_r64 x.toInt := ⟨Int64.le_toInt x, Int64.toInt_lt x⟩
theorem q_rj {v : Int} (h : q_r32 v) : q_r64 v := ⟨by omega, by omega⟩
theorem q_Rv0 {k j : Nat} {v : Int} (h1 : k = 140 → q_r64 v ∧ q_Rw j v) (h2 : k = 139 → q_r64 v ∧ (j = 24 ∨ q_r32 v) ∧ q_Rf j v) (h3 : 141 ≤ k → k ≤ 144 → q_r64 v) (h4 : 145 ≤ k → k ≤ 152 → q_r32 v) : q_Rv k j v := ⟨h1, h2, h3, h4⟩
def q_Gr (S : Nat → Nat → Prop) (h h' : q_F) : Prop := (∀ k j, ¬ S k j → h' k j = h k j) ∧ (q_Bz h → q_Bz h') ∧ (q_Rb h → q_Rb h')
theorem q_Gr.rf {S : Nat → Nat → Prop} {h : q_F} : q_Gr S h h := ⟨fun _ _ _ => rfl, fun z => z, fun z => z⟩
theorem q_ud_rb {h : q_F} {k j : Nat} {v : Int} (hr : q_Rb h) (hb : q_Rv k j v) : q_Rb (q_ud h k j v) := by
  intro k' j'
  by_cases h9 : k' = k ∧ j' = j
  · rw [h9.1, h9.2, q_ud_s]; exact hb
  · rw [q_ud_n h9]; exact hr k' j'
theorem q_ud_g {S : Nat → Nat → Prop} {h h' : q_F} {k j : Nat} {v : Int} (f : ∀ k j, ¬ S k j → h' k j = h k j) (hk : S k j) : ∀ k' j', ¬ S k' j' → q_ud h' k j v k' j' = h k' j' := by
  intro k' j' hk'
  have h8 : ¬ (k' = k ∧ j' = j) := by
    rintro ⟨rfl, rfl⟩
    exact hk' hk
  rw [q_ud_n h8]
  exact f k' j' hk'
theorem q_Gr.ud {S : Nat → Nat → Prop} {h h' : q_F} {k j : Nat} {v : Int} {L : q_Ly} (f : q_Gr S h h') (hk : S k j) (hK : q_K k = L) (hz : q_zf L j = false) (hb : q_Rv k j v) : q_Gr S h (q_ud h' k j v) := by
  refine ⟨q_ud_g f.1 hk, fun z k' j' hz' => ?_, fun z => q_ud_rb (f.2.2 z) hb⟩
  have : ¬ (k' = k ∧ j' = j) := by
    rintro ⟨rfl, rfl⟩
    rw [hK, hz] at hz'; cases hz'
  rw [q_ud_n this]
  exact f.2.1 z k' j' hz'
theorem q_Gr.udz {S : Nat → Nat → Prop} {h h' : q_F} {k j : Nat} {v : Int} (f : q_Gr S h h') (hk : S k j) (hv : v = 0 ∨ v = 1) (hb : q_Rv k j v) : q_Gr S h (q_ud h' k j v) := by
  refine ⟨q_ud_g f.1 hk, fun z k' j' hz' => ?_, fun z => q_ud_rb (f.2.2 z) hb⟩
  by_cases h9 : k' = k ∧ j' = j
  · rw [h9.1, h9.2, q_ud_s]; exact hv
  · rw [q_ud_n h9]
    exact f.2.1 z k' j' hz'
theorem q_Gr.tr {S S' : Nat → Nat → Prop} {h h1 h2 : q_F} (f : q_Gr S h h1) (g : q_Gr S' h1 h2) (hs : ∀ k j, S' k j → S k j) : q_Gr S h h2 :=
  ⟨fun k j hk => (g.1 k j (fun h9 => hk (hs k j h9))).trans (f.1 k j hk), fun z => g.2.1 (f.2.1 z), fun z => g.2.2 (f.2.2 z)⟩
theorem q_Gr.bz {S : Nat → Nat → Prop} {h h' : q_F} (z : q_Bz h) (f : q_Gr S h h') : q_Bz h' := f.2.1 z
theorem q_Gr.rb {S : Nat → Nat → Prop} {h h' : q_F} (z : q_Rb h) (f : q_Gr S h h') : q_Rb h' := f.2.2 z
theorem q_Rw_w {j : Nat} {v : Int} (h : q_Rw j v) : q_Rw j (q_w32 v) := by
  by_cases h9 : 0 ≤ v ∧ v ≤ 5000
  · rw [q_w32_id (by omega) (by omega)]; exact h
  · refine ⟨?_, ?_, ?_, ?_, ?_, ?_, ?_, ?_⟩ <;> (intros; exfalso; omega)
theorem q_neg {a : Int} (h1 : -2147483648 < a) (h2 : a < 2147483648) : (-(Int32.ofInt a)).toInt = -a := by
  rw [Int32.toInt_neg, q_w32_m, q_w32_id (by omega) (by omega)]
  exact Int.bmod_eq_of_le (by omega) (by omega)
section q_rr
variable {Γ : q_Γ} {i pc len nx x y idx cl sl : Nat} {v : Int} {P : Nat → q_V → q_F → Prop} {lo : q_L} {st : List q_V} {h : q_F} {hp : q_H}
theorem r_laldw {j j' : Int} {jn : Nat} (hR : q_Rb h) (he : q_cat i pc .laload len x y v) (hj : q_w32 j = j') (hj0 : 0 ≤ j') (hj1 : j' < (122 : Nat)) (hjn : j'.toNat = jn) (hn : Nat.add pc len = nx) (k : q_r64 (h 140 jn) ∧ q_Rw jn (h 140 jn) → q_R Γ q_K 155 i P (nx, lo, (1, h 140 jn) :: st, q_hp q_K 155 h, [], cl, sl)) : q_R Γ q_K 155 i P (pc, lo, (0, j) :: (2, Int.ofNat 140) :: st, q_hp q_K 155 h, [], cl, sl) := by
  subst hjn
  exact r_lald he (by decide) (by decide) rfl (by decide) hj hj0 hj1 hn (k ((hR 140 _).1 rfl))
theorem r_getf {d2 : Int} (hR : q_Rb h) (he : q_cat i pc (.getfield idx) len 9 y v) (hd : (q_K 139).2.2[y]? = some (0, d2)) (h24 : y ≠ 24) (hn : Nat.add pc len = nx) (k : q_r32 (h 139 y) ∧ q_Rf y (h 139 y) → q_R Γ q_K 155 i P (nx, lo, (0, h 139 y) :: st, q_hp q_K 155 h, [], cl, sl)) : q_R Γ q_K 155 i P (pc, lo, (2, Int.ofNat 139) :: st, q_hp q_K 155 h, [], cl, sl) :=
  r_geti he (by decide) (by decide) rfl hd hn (k ⟨((hR 139 y).2.1 rfl).2.1.resolve_left h24, ((hR 139 y).2.1 rfl).2.2⟩)
theorem r_getj {d2 : Int} (hR : q_Rb h) (he : q_cat i pc (.getfield idx) len 9 y v) (hd : (q_K 139).2.2[y]? = some (1, d2)) (hn : Nat.add pc len = nx) (k : q_r64 (h 139 y) → q_R Γ q_K 155 i P (nx, lo, (1, h 139 y) :: st, q_hp q_K 155 h, [], cl, sl)) : q_R Γ q_K 155 i P (pc, lo, (2, Int.ofNat 139) :: st, q_hp q_K 155 h, [], cl, sl) :=
  r_getl he (by decide) (by decide) rfl hd hn (k ((hR 139 y).2.1 rfl).1)
theorem r_ialdr {kk N : Nat} {ds : List q_Ds} {j j' : Int} (hR : q_Rb h) (he : q_cat i pc .iaload len x y v) (hk1 : 145 ≤ kk) (hk2 : kk ≤ 152) (hK : q_K kk = (1, N, ds)) (hN2 : N ≤ 2048) (hj : q_w32 j = j') (hj0 : 0 ≤ j') (hj1 : j' < N) (hn : Nat.add pc len = nx) (k : q_r32 (h kk j'.toNat) → q_R Γ q_K 155 i P (nx, lo, (0, h kk j'.toNat) :: st, q_hp q_K 155 h, [], cl, sl)) : q_R Γ q_K 155 i P (pc, lo, (0, j) :: (2, Int.ofNat kk) :: st, q_hp q_K 155 h, [], cl, sl) :=
  r_iald he (by omega) (by decide) hK hN2 hj hj0 hj1 hn (k ((hR kk _).2.2.2 hk1 hk2))
theorem r_lcmpn {a b a' b' : Int} (he : q_cat i pc .lcmp len x y v) (hn : Nat.add pc len = nx) (ha : q_w64 a = a') (hb : q_w64 b = b')
    (kl : a' < b' → q_R Γ q_K 155 i P (nx, lo, (0, -1) :: st, hp, [], cl, sl)) (ke : a' = b' → q_R Γ q_K 155 i P (nx, lo, (0, 0) :: st, hp, [], cl, sl)) (kg : b' < a' → q_R Γ q_K 155 i P (nx, lo, (0, 1) :: st, hp, [], cl, sl)) : q_R Γ q_K 155 i P (pc, lo, (1, b) :: (1, a) :: st, hp, [], cl, sl) := by
  subst ha; subst hb
  exact r_lcmp he hn kl ke kg
theorem r_ldivn {a b b' r : Int} (he : q_cat i pc (.ldiv) len x y v) (hb : q_w64 b = b') (h0 : b' ≠ 0) (hr : (Int64.ofInt a / Int64.ofInt b).toInt = r) (hn : Nat.add pc len = nx) (k : q_R Γ q_K 155 i P (nx, lo, (1, r) :: st, hp, [], cl, sl)) : q_R Γ q_K 155 i P (pc, lo, (1, b) :: (1, a) :: st, hp, [], cl, sl) :=
  r_ldiv he (by rw [hb]; exact h0) hr hn k
theorem q_Gr1 {k j : Nat} {w : Int} {L : q_Ly} (hK : q_K k = L) (hz : q_zf L j = false) (hb : q_Rv k j w) : q_Gr (fun k' j' => k' = k ∧ j' = j) h (q_ud h k j w) := q_Gr.ud q_Gr.rf ⟨rfl, rfl⟩ hK hz hb
/-- stores that name the heap behind them -/
theorem r_putiw {d2 w : Int} (he : q_cat i pc (.putfield idx) len 9 y v) (hd : (q_K 139).2.2[y]? = some (0, d2)) (hf : q_fit v.toNat (0, w) = true) (hz : q_zf (q_K 139) y = false) (hb : q_Rv 139 y w) (hn : Nat.add pc len = nx) (k : ∀ g, q_Gr (fun k' j' => k' = 139 ∧ j' = y) h g → g 139 y = w → q_R Γ q_K 155 i P (nx, lo, st, q_hp q_K 155 g, [], cl, sl)) : q_R Γ q_K 155 i P (pc, lo, (0, w) :: (2, Int.ofNat 139) :: st, q_hp q_K 155 h, [], cl, sl) :=
  r_puti he (by decide) (by decide) rfl hd hf hn (k _ (q_Gr1 rfl hz hb) (q_ud_s ..))
theorem r_putzw {d2 w : Int} (he : q_cat i pc (.putfield idx) len 9 y v) (hd : (q_K 139).2.2[y]? = some (0, d2)) (hw : w = 0 ∨ w = 1) (hf : q_fit v.toNat (0, w) = true) (hb : q_Rv 139 y w) (hn : Nat.add pc len = nx) (k : ∀ g, q_Gr (fun k' j' => k' = 139 ∧ j' = y) h g → g 139 y = w → q_R Γ q_K 155 i P (nx, lo, st, q_hp q_K 155 g, [], cl, sl)) : q_R Γ q_K 155 i P (pc, lo, (0, w) :: (2, Int.ofNat 139) :: st, q_hp q_K 155 h, [], cl, sl) :=
  r_puti he (by decide) (by decide) rfl hd hf hn (k _ (q_Gr.udz q_Gr.rf ⟨rfl, rfl⟩ hw hb) (q_ud_s ..))
theorem r_putlw {d2 w : Int} (he : q_cat i pc (.putfield idx) len 9 y v) (hd : (q_K 139).2.2[y]? = some (1, d2)) (hf : q_fit v.toNat (1, w) = true) (hz : q_zf (q_K 139) y = false) (hb : q_Rv 139 y w) (hn : Nat.add pc len = nx) (k : ∀ g, q_Gr (fun k' j' => k' = 139 ∧ j' = y) h g → g 139 y = w → q_R Γ q_K 155 i P (nx, lo, st, q_hp q_K 155 g, [], cl, sl)) : q_R Γ q_K 155 i P (pc, lo, (1, w) :: (2, Int.ofNat 139) :: st, q_hp q_K 155 h, [], cl, sl) :=
  r_putl he (by decide) (by decide) rfl hd hf hn (k _ (q_Gr1 rfl hz hb) (q_ud_s ..))
theorem q_zf3 {N j c : Nat} {ds : List q_Ds} (hc : Nat.beq c 0 = false) : q_zf (c, N, ds) j = false := by
  show (bif Nat.beq c 0 then _ else false) = false
  rw [hc]; rfl
theorem r_lastw {kk N : Nat} {ds : List q_Ds} {j j' w : Int} (he : q_cat i pc .lastore len x y v) (hk : kk < 155) (hK : q_K kk = (3, N, ds)) (hN2 : N ≤ 2048) (hj : q_w32 j = j') (hj0 : 0 ≤ j') (hj1 : j' < N) (hb : q_Rv kk j'.toNat w) (hn : Nat.add pc len = nx) (k : ∀ g, q_Gr (fun k' j9 => k' = kk ∧ j9 = j'.toNat) h g → g kk j'.toNat = w → q_R Γ q_K 155 i P (nx, lo, st, q_hp q_K 155 g, [], cl, sl)) : q_R Γ q_K 155 i P (pc, lo, (1, w) :: (0, j) :: (2, Int.ofNat kk) :: st, q_hp q_K 155 h, [], cl, sl) :=
  r_last he hk (by decide) hK hN2 hj hj0 hj1 hn (k _ (q_Gr1 hK (q_zf3 rfl) hb) (q_ud_s ..))
theorem r_iastw {kk N : Nat} {ds : List q_Ds} {j j' w : Int} (he : q_cat i pc .iastore len x y v) (hk : kk < 155) (hK : q_K kk = (1, N, ds)) (hN2 : N ≤ 2048) (hj : q_w32 j = j') (hj0 : 0 ≤ j') (hj1 : j' < N) (hb : q_Rv kk j'.toNat w) (hn : Nat.add pc len = nx) (k : ∀ g, q_Gr (fun k' j9 => k' = kk ∧ j9 = j'.toNat) h g → g kk j'.toNat = w → q_R Γ q_K 155 i P (nx, lo, st, q_hp q_K 155 g, [], cl, sl)) : q_R Γ q_K 155 i P (pc, lo, (0, w) :: (0, j) :: (2, Int.ofNat kk) :: st, q_hp q_K 155 h, [], cl, sl) :=
  r_iast he hk (by decide) hK hN2 hj hj0 hj1 hn (k _ (q_Gr1 hK (q_zf3 rfl) hb) (q_ud_s ..))
end q_rr
