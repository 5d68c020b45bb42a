/-! Part 40: exact rules: values in range, stores that name the heap. Printed by wip/tools/gen40.py. -/
/-- the type of a place: 0 an int, 1 a long, 2 free, 3 a truth value, 4 a byte -/
noncomputable def q_tyL (L : q_Ly) (j : Nat) : Nat := match L.1 with
  | 0 => bif q_zf L j then 3 else (match L.2.2[j]? with | some d => d.1 | none => 9)
  | 1 => 0
  | 2 => 4
  | 3 => 1
  | _ => 9
noncomputable def q_in (ty : Nat) (v : Int) : Prop := match ty with
  | 0 => q_r32 v
  | 1 => q_r64 v
  | 3 => v = 0 ∨ v = 1
  | 4 => -128 ≤ v ∧ v < 128
  | 5 => 3 ≤ v.toNat ∧ v.toNat ≤ 9
  | _ => True
/-- the cells from A on up to B hold numbers of their types -/
noncomputable def q_Al (A B : Nat) (h : q_F) : Prop := ∀ k j, A ≤ k → k < B → q_in (q_tyL (q_K k) j) (h k j)
theorem q_fuE : ∃ n : Nat, 10000 ≤ n := ⟨10000, Nat.le_refl _⟩
noncomputable def q_fu : Nat := Classical.choose q_fuE
theorem q_fu_ge : 10000 ≤ q_fu := Classical.choose_spec q_fuE
noncomputable def q_let {α β : Type} (a : α) (f : α → β) : β := f a
theorem q_let_i {α β : Type} {a g : α} {f : α → Option β} {r : β} (hf : q_let a f = some r) (hg : g = a) : f g = some r := by subst hg; exact hf
theorem qx_it {c : Prop} {i : Decidable c} {α : Type} {x y : Option α} {r : α} (h : (@ite _ c i x y) = some r) (hc : c) : x = some r := by rw [if_pos hc] at h; exact h
theorem qx_ie {c : Prop} {i : Decidable c} {α : Type} {x y : Option α} {r : α} (h : (@ite _ c i x y) = some r) (hc : ¬ c) : y = some r := by rw [if_neg hc] at h; exact h
theorem qx_ck {c : Prop} {i : Decidable c} {α : Type} {x : Option α} {r : α} (h : (@ite _ c i x none) = some r) : c ∧ x = some r := by
  by_cases hc : c
  · rw [if_pos hc] at h; exact ⟨hc, h⟩
  · rw [if_neg hc] at h; cases h
theorem q_ne_lh {a : Int} {lo hi : Int} (h : a < lo ∨ hi < a) (z : Int) (h1 : lo ≤ z) (h2 : z ≤ hi) : ¬ a = z := by omega
theorem q_z32 {v : Int} (h : v = 0 ∨ v = 1) : q_r32 v := by omega
theorem q_wr (z : Int) : q_r32 (q_w32 z) := ⟨q_rg1 z, q_rg2 z⟩
theorem q_wr64 (z : Int) : q_r64 (q_w64 z) := ⟨q_rg3 z, q_rg4 z⟩
theorem q_w32_r {v : Int} (h : q_r32 v) : q_w32 v = v := q_w32_id h.1 h.2
theorem q_w64_r {v : Int} (h : q_r64 v) : q_w64 v = v := q_w64_id h.1 h.2
theorem q_r34 {v : Int} (h : q_r32 v) : q_r64 v := ⟨by omega, by omega⟩
theorem q_dn {b : Int} (h : q_r32 b) (h0 : b ≠ 0) : q_w32 b ≠ 0 := by rw [q_w32_r h]; exact h0
theorem q_dn64 {b : Int} (h : q_r64 b) (h0 : b ≠ 0) : q_w64 b ≠ 0 := by rw [q_w64_r h]; exact h0
theorem q_al0 {A B k j : Nat} {h : q_F} (hA : q_Al A B h) (e : q_tyL (q_K k) j = 0) (h1 : A ≤ k) (h2 : k < B) : q_r32 (h k j) := by have := hA k j h1 h2; rw [e] at this; exact this
theorem q_al1 {A B k j : Nat} {h : q_F} (hA : q_Al A B h) (e : q_tyL (q_K k) j = 1) (h1 : A ≤ k) (h2 : k < B) : q_r64 (h k j) := by have := hA k j h1 h2; rw [e] at this; exact this
theorem q_al3 {A B k j : Nat} {h : q_F} (hA : q_Al A B h) (e : q_tyL (q_K k) j = 3) (h1 : A ≤ k) (h2 : k < B) : h k j = 0 ∨ h k j = 1 := by have := hA k j h1 h2; rw [e] at this; exact this
theorem q_al4 {A B k j : Nat} {h : q_F} (hA : q_Al A B h) (e : q_tyL (q_K k) j = 4) (h1 : A ≤ k) (h2 : k < B) : -128 ≤ h k j ∧ h k j < 128 := by have := hA k j h1 h2; rw [e] at this; exact this
theorem q_al_ud {A B k j ty : Nat} {v : Int} {h : q_F} (hA : q_Al A B h) (e : q_tyL (q_K k) j = ty) (hv : q_in ty v) : q_Al A B (q_ud h k j v) := by
  intro k' j' h1 h2
  by_cases h9 : k' = k ∧ j' = j
  · rw [h9.1, h9.2, q_ud_s, e]; exact hv
  · rw [q_ud_n h9]; exact hA k' j' h1 h2
noncomputable def q_PP (kd ty : Nat) (x : Int) (h : q_F) : Nat → q_V → q_F → Prop := fun t w h' => t = 1 ∧ w = (kd, x) ∧ h = h' ∧ q_in ty x
noncomputable def q_PW (A B kd ty : Nat) (r : Int × q_F) : Nat → q_V → q_F → Prop := fun t w h' => t = 1 ∧ w = (kd, r.1) ∧ h' = r.2 ∧ q_in ty r.1 ∧ q_Al A B r.2
noncomputable def q_PV (A B : Nat) (r : Int × q_F) : Nat → q_V → q_F → Prop := fun t _ h' => t = 0 ∧ h' = r.2 ∧ q_Al A B r.2
-- the machine's operations, by names
noncomputable def q_ian (a b : Int) : Int := (Int32.ofInt a &&& Int32.ofInt b).toInt
noncomputable def q_ior (a b : Int) : Int := (Int32.ofInt a ||| Int32.ofInt b).toInt
noncomputable def q_ishl (a b : Int) : Int := (Int32.ofInt a <<< (Int32.ofInt b &&& 31)).toInt
noncomputable def q_ishr (a b : Int) : Int := (Int32.ofInt a >>> (Int32.ofInt b &&& 31)).toInt
noncomputable def q_iushr (a b : Int) : Int := ((Int32.ofInt a).toUInt32 >>> ((Int32.ofInt b).toUInt32 &&& Int32.toUInt32 31)).toInt32.toInt
noncomputable def q_idv (a b : Int) : Int := (Int32.ofInt a / Int32.ofInt b).toInt
noncomputable def q_irm (a b : Int) : Int := (Int32.ofInt a - Int32.ofInt a / Int32.ofInt b * Int32.ofInt b).toInt
noncomputable def q_ldv (a b : Int) : Int := (Int64.ofInt a / Int64.ofInt b).toInt
noncomputable def q_ing (a : Int) : Int := (-(Int32.ofInt a)).toInt
noncomputable def q_i2f (a : Int) : Int := Int.ofNat (FP.i2f (Int32.ofInt a)).toNat
noncomputable def q_i2d (a : Int) : Int := Int.ofNat (FP.i2d (Int32.ofInt a)).toNat
noncomputable def q_l2d (a : Int) : Int := Int.ofNat (FP.l2d (Int64.ofInt a)).toNat
noncomputable def q_fneg (a : Int) : Int := Int.ofNat (FP.fneg (UInt32.ofNat a.toNat)).toNat
noncomputable def q_fsub (a b : Int) : Int := Int.ofNat (FP.fsub (UInt32.ofNat a.toNat) (UInt32.ofNat b.toNat)).toNat
noncomputable def q_fdiv (a b : Int) : Int := Int.ofNat (FP.fdiv (UInt32.ofNat a.toNat) (UInt32.ofNat b.toNat)).toNat
noncomputable def q_dadd (a b : Int) : Int := Int.ofNat (FP.dadd (UInt64.ofNat a.toNat) (UInt64.ofNat b.toNat)).toNat
noncomputable def q_ddiv (a b : Int) : Int := Int.ofNat (FP.ddiv (UInt64.ofNat a.toNat) (UInt64.ofNat b.toNat)).toNat
noncomputable def q_fcmp (o : CmpOp) (a b : Int) : Int := (Op.cmpValue (FP.fcmp (UInt32.ofNat a.toNat) (UInt32.ofNat b.toNat)) o).toInt
noncomputable def q_dcmp (o : CmpOp) (a b : Int) : Int := (Op.cmpValue (FP.dcmp (UInt64.ofNat a.toNat) (UInt64.ofNat b.toNat)) o).toInt
noncomputable def q_fmxi (a b : Int) : Int := Int.ofNat (q_fmx (UInt32.ofNat a.toNat) (UInt32.ofNat b.toNat)).toNat
noncomputable def qx_mx (a b : Int) : Int := if a ≤ b then b else a
noncomputable def qx_mn (a b : Int) : Int := if a ≤ b then a else b
theorem qx_mxr {a b : Int} (ha : q_r32 a) (hb : q_r32 b) : q_r32 (qx_mx a b) := by unfold qx_mx; split <;> assumption
theorem qx_mnr {a b : Int} (ha : q_r32 a) (hb : q_r32 b) : q_r32 (qx_mn a b) := by unfold qx_mn; split <;> assumption
theorem q_df_iand (a b : Int) : (Int32.ofInt a &&& Int32.ofInt b).toInt = q_ian a b := rfl
theorem q_df_ior (a b : Int) : (Int32.ofInt a ||| Int32.ofInt b).toInt = q_ior a b := rfl
theorem q_df_ishl (a b : Int) : (Int32.ofInt a <<< (Int32.ofInt b &&& 31)).toInt = q_ishl a b := rfl
theorem q_df_ishr (a b : Int) : (Int32.ofInt a >>> (Int32.ofInt b &&& 31)).toInt = q_ishr a b := rfl
theorem q_df_iushr (a b : Int) : ((Int32.ofInt a).toUInt32 >>> ((Int32.ofInt b).toUInt32 &&& Int32.toUInt32 31)).toInt32.toInt = q_iushr a b := rfl
theorem q_df_idiv (a b : Int) : (Int32.ofInt a / Int32.ofInt b).toInt = q_idv a b := rfl
theorem q_df_irem (a b : Int) : (Int32.ofInt a - Int32.ofInt a / Int32.ofInt b * Int32.ofInt b).toInt = q_irm a b := rfl
theorem q_df_ldiv (a b : Int) : (Int64.ofInt a / Int64.ofInt b).toInt = q_ldv a b := rfl
theorem q_df_ineg (a : Int) : (-(Int32.ofInt a)).toInt = q_ing a := rfl
theorem q_df_i2f (a : Int) : Int.ofNat (FP.i2f (Int32.ofInt a)).toNat = q_i2f a := rfl
theorem q_df_i2d (a : Int) : Int.ofNat (FP.i2d (Int32.ofInt a)).toNat = q_i2d a := rfl
theorem q_df_l2d (a : Int) : Int.ofNat (FP.l2d (Int64.ofInt a)).toNat = q_l2d a := rfl
theorem q_df_fneg (a : Int) : Int.ofNat (FP.fneg (UInt32.ofNat a.toNat)).toNat = q_fneg a := rfl
theorem q_df_fsub (a b : Int) : Int.ofNat (FP.fsub (UInt32.ofNat a.toNat) (UInt32.ofNat b.toNat)).toNat = q_fsub a b := rfl
theorem q_df_fdiv (a b : Int) : Int.ofNat (FP.fdiv (UInt32.ofNat a.toNat) (UInt32.ofNat b.toNat)).toNat = q_fdiv a b := rfl
theorem q_df_dadd (a b : Int) : Int.ofNat (FP.dadd (UInt64.ofNat a.toNat) (UInt64.ofNat b.toNat)).toNat = q_dadd a b := rfl
theorem q_df_ddiv (a b : Int) : Int.ofNat (FP.ddiv (UInt64.ofNat a.toNat) (UInt64.ofNat b.toNat)).toNat = q_ddiv a b := rfl
theorem q_df_fcmp (o : CmpOp) (a b : Int) : (Op.cmpValue (FP.fcmp (UInt32.ofNat a.toNat) (UInt32.ofNat b.toNat)) o).toInt = q_fcmp o a b := rfl
theorem q_df_dcmp (o : CmpOp) (a b : Int) : (Op.cmpValue (FP.dcmp (UInt64.ofNat a.toNat) (UInt64.ofNat b.toNat)) o).toInt = q_dcmp o a b := rfl
noncomputable def q_PT (A B kd ty : Nat) (r : Nat × Int × q_F) : Nat → q_V → q_F → Prop := fun t w h' => t = r.1 ∧ (r.1 = 1 → w = (kd, r.2.1) ∧ q_in ty r.2.1) ∧ h' = r.2.2 ∧ q_Al A B r.2.2
noncomputable def q_PR (A B o : Nat) (r : Int × q_F) : Nat → q_V → q_F → Prop := fun t w h' => t = 1 ∧ w = (2, Int.ofNat o) ∧ h' = r.2 ∧ q_Al A B r.2
theorem qx_sp {c : Prop} {i : Decidable c} {α : Type} {x y : Option α} {r : α} (h : (@ite _ c i x y) = some r) : (c ∧ x = some r) ∨ (¬ c ∧ y = some r) := by
  by_cases hc : c
  · rw [if_pos hc] at h; exact Or.inl ⟨hc, h⟩
  · rw [if_neg hc] at h; exact Or.inr ⟨hc, h⟩
-- objects
noncomputable def q_axn (t : Nat) (v : Int) : Nat := if v = 0 then t + 1 else if v = 1 then t + 3 else t + 5
theorem q_axn_A {t : Nat} (v : Int) (h : q_isT t) : q_isA (q_axn t v) := by
  unfold q_axn
  split
  · exact q_h1 h
  · split
    · exact q_h3 h
    · exact q_h5 h
noncomputable def q_slot (v : Int) : Nat := 35 + 9 * v.toNat
theorem q_slot_T {v : Int} (h : 0 ≤ v ∧ v < 10) : q_isT (q_slot v) := by
  obtain e | e | e | e | e | e | e | e | e | e : v = 0 ∨ v = 1 ∨ v = 2 ∨ v = 3 ∨ v = 4 ∨ v = 5 ∨ v = 6 ∨ v = 7 ∨ v = 8 ∨ v = 9 := by omega
  all_goals (subst e; simp [q_slot, q_isT])
theorem q_ring9 {z : Int} (h0 : 0 ≤ z) (h1 : z < 10) : (q_K 34).2.2[z.toNat]? = some (2, Int.ofNat (q_slot z)) := by
  obtain e | e | e | e | e | e | e | e | e | e : z = 0 ∨ z = 1 ∨ z = 2 ∨ z = 3 ∨ z = 4 ∨ z = 5 ∨ z = 6 ∨ z = 7 ∨ z = 8 ∨ z = 9 := by omega
  all_goals (subst e; rfl)
theorem q_ltC {c : Nat} (h : q_isC c) : c < 155 := by have := (q_fC h).2.1; omega
theorem q_ltA {a : Nat} (h : q_isA a) : a < 155 := by have := (q_fA h).2.2.1; omega
theorem q_ltB {b : Nat} (h : q_isB b) : b < 155 := by have := (q_fB h).2.2.1; omega
theorem q_ltT {t : Nat} (h : q_isT t) : t < 155 := by have := q_T_n h; omega
theorem q_ltG {g : Nat} (h : q_isG g) : g < 155 := by have := (q_fG h).2.2.1; omega
theorem qx_g1 {g : Nat} (h : q_isG g) : g + 1 < 155 := by have := (q_fG h).2.2.1; omega
theorem q_b1 {b : Nat} (h : q_isB b) : b + 1 < 155 := by have := (q_fB h).2.2.1; omega
theorem q_nr {N : Nat} (h : N ≤ 2048) : q_r32 (N : Int) := ⟨by omega, by omega⟩
noncomputable def q_lgv (z j : Int) : Int := q_lg z.toNat j.toNat
theorem q_df_lg (z j : Int) : q_lg z.toNat j.toNat = q_lgv z j := rfl
theorem q_lgL (l : List Int) (hl : ∀ c ∈ l, q_r32 c) (j : Nat) : q_r32 ((l[j]?).getD 0) := by
  cases h : l[j]? with
  | none => exact ⟨by decide, by decide⟩
  | some c => exact hl c (List.mem_of_getElem? h)
theorem q_lgr (z j : Int) : q_r32 (q_lgv z j) := by
  unfold q_lgv q_lg
  split
  · exact q_lgL _ (by intro c hc; simp only [List.mem_cons, List.not_mem_nil, or_false] at hc; omega) _
  · exact q_lgL _ (by intro c hc; simp only [List.mem_cons, List.not_mem_nil, or_false] at hc; omega) _
theorem q_hs12 {z : Int} (h : z.toNat = 1 ∨ z.toNat = 2) : z.toNat ≤ 2 := by omega
theorem q_ln12 {sL : Nat} {z : Int} (h : z.toNat = 1 ∨ z.toNat = 2) : ((q_ln sL z.toNat : Nat) : Int) = (6 : Int) := by rcases h with e | e <;> rw [e] <;> rfl
noncomputable def q_i8 (a : Int) : Int := ((Int32.ofInt a).toInt8.toInt32).toInt
theorem q_df_i2b (a : Int) : ((Int32.ofInt a).toInt8.toInt32).toInt = q_i8 a := rfl
theorem q_i8r (a : Int) : -128 ≤ q_i8 a ∧ q_i8 a < 128 := by
  unfold q_i8
  rw [Int8.toInt_toInt32]
  exact ⟨Int8.le_toInt _, Int8.toInt_lt _⟩
theorem q_b32 {v : Int} (h : -128 ≤ v ∧ v < 128) : q_r32 v := ⟨by omega, by omega⟩
noncomputable def q_f2d (a : Int) : Int := Int.ofNat (FP.f2d (UInt32.ofNat a.toNat)).toNat
theorem q_df_f2d (a : Int) : Int.ofNat (FP.f2d (UInt32.ofNat a.toNat)).toNat = q_f2d a := rfl
noncomputable def qx_ab (a : Int) : Int := if 0 ≤ a then a else q_w32 (-a)
theorem qx_abr {a : Int} (h : q_r32 a) : q_r32 (qx_ab a) := by unfold qx_ab; split; exact h; exact q_wr _
noncomputable def qx_abl (a : Int) : Int := if a ≤ 0 then q_w64 (-a) else a
theorem qx_ablr {a : Int} (h : q_r64 a) : q_r64 (qx_abl a) := by unfold qx_abl; split; exact q_wr64 _; exact h
theorem qx_mxr64 {a b : Int} (ha : q_r64 a) (hb : q_r64 b) : q_r64 (qx_mx a b) := by unfold qx_mx; split <;> assumption
-- words
noncomputable def qx_sl (z : Int) : Int := ((q_sb (q_sw z)).length : Int)
noncomputable def qx_sc (z j : Int) : Int := match (q_sb (q_sw z))[j.toNat]? with
  | some c => q_w32 c
  | none => 0
theorem qx_slr (z : Int) : q_r32 (qx_sl z) := by have := q_sb_l (q_sw z); unfold qx_sl; exact ⟨by omega, by omega⟩
theorem qx_scr (z j : Int) : q_r32 (qx_sc z j) := by
  unfold qx_sc; split
  · exact q_wr _
  · exact ⟨by decide, by decide⟩
theorem q_hs1 {z : Int} (h : 3 ≤ z.toNat ∧ z.toNat ≤ 9) : 3 ≤ z.toNat := h.1
theorem q_hs2 {z : Int} (h : 3 ≤ z.toNat ∧ z.toNat ≤ 9) : z.toNat ≤ 9 := h.2
theorem q_sb_r : ∀ n : Nat, ∀ c ∈ q_sb n, q_r32 c := by
  intro n c hc
  unfold q_sb at hc
  split at hc <;> (simp only [List.mem_cons, List.not_mem_nil, or_false] at hc; omega)
section q_xx
variable {Γ : q_Γ} {A B i pc nx len x y cl sl : Nat} {v : Int} {P : Nat → q_V → q_F → Prop} {lo : q_L} {st : List q_V} {h : q_F} {hp : q_H}
theorem x_puti {idx kk ty : Nat} {ds : List q_Ds} {d2 w : Int} (hA : q_Al A B h) (he : q_cat i pc (.putfield idx) len x y v) (hk : kk < 155) (hK : q_K kk = (0, x, ds)) (hd : ds[y]? = some (0, d2)) (hf : q_fit v.toNat (0, w) = true) (h1 : q_tyL (0, x, ds) y = ty) (hw : q_in ty w) (hn : Nat.add pc len = nx) (k : ∀ g, g = q_ud h kk y w → q_Al A B g → q_R Γ q_K 155 i P (nx, lo, st, q_hp q_K 155 g, [], cl, sl)) : q_R Γ q_K 155 i P (pc, lo, (0, w) :: (2, Int.ofNat kk) :: st, q_hp q_K 155 h, [], cl, sl) :=
  r_puti he hk (by decide) hK hd hf hn (k _ rfl (q_al_ud hA (by rw [hK]; exact h1) hw))
theorem x_putl {idx kk ty : Nat} {ds : List q_Ds} {d2 w : Int} (hA : q_Al A B h) (he : q_cat i pc (.putfield idx) len x y v) (hk : kk < 155) (hK : q_K kk = (0, x, ds)) (hd : ds[y]? = some (1, d2)) (hf : q_fit v.toNat (1, w) = true) (h1 : q_tyL (0, x, ds) y = ty) (hw : q_in ty w) (hn : Nat.add pc len = nx) (k : ∀ g, g = q_ud h kk y w → q_Al A B g → q_R Γ q_K 155 i P (nx, lo, st, q_hp q_K 155 g, [], cl, sl)) : q_R Γ q_K 155 i P (pc, lo, (1, w) :: (2, Int.ofNat kk) :: st, q_hp q_K 155 h, [], cl, sl) :=
  r_putl he hk (by decide) hK hd hf hn (k _ rfl (q_al_ud hA (by rw [hK]; exact h1) hw))
theorem x_iald {kk N jn : Nat} {ds : List q_Ds} {j : Int} (he : q_cat i pc .iaload len x y v) (hk : kk < 155) (hK : q_K kk = (1, N, ds)) (hN2 : N ≤ 2048) (hj : q_r32 j) (hj0 : 0 ≤ j) (hj1 : j < N) (hjn : j.toNat = jn) (hn : Nat.add pc len = nx) (k : q_R Γ q_K 155 i P (nx, lo, (0, h kk jn) :: st, q_hp q_K 155 h, [], cl, sl)) : q_R Γ q_K 155 i P (pc, lo, (0, j) :: (2, Int.ofNat kk) :: st, q_hp q_K 155 h, [], cl, sl) := by
  subst hjn
  exact r_iald he hk (by decide) hK hN2 (q_w32_r hj) hj0 hj1 hn k
theorem x_iast {kk N jn : Nat} {ds : List q_Ds} {j w : Int} (hA : q_Al A B h) (he : q_cat i pc .iastore len x y v) (hk : kk < 155) (hK : q_K kk = (1, N, ds)) (hN2 : N ≤ 2048) (hj : q_r32 j) (hj0 : 0 ≤ j) (hj1 : j < N) (hjn : j.toNat = jn) (hw : q_r32 w) (hn : Nat.add pc len = nx) (k : ∀ g, g = q_ud h kk jn w → q_Al A B g → q_R Γ q_K 155 i P (nx, lo, st, q_hp q_K 155 g, [], cl, sl)) : q_R Γ q_K 155 i P (pc, lo, (0, w) :: (0, j) :: (2, Int.ofNat kk) :: st, q_hp q_K 155 h, [], cl, sl) := by
  subst hjn
  exact r_iast he hk (by decide) hK hN2 (q_w32_r hj) hj0 hj1 hn (k _ rfl (q_al_ud (ty := 0) hA (by rw [hK]; rfl) hw))
theorem x_lald {kk N jn : Nat} {ds : List q_Ds} {j : Int} (he : q_cat i pc .laload len x y v) (hk : kk < 155) (hK : q_K kk = (3, N, ds)) (hN2 : N ≤ 2048) (hj : q_r32 j) (hj0 : 0 ≤ j) (hj1 : j < N) (hjn : j.toNat = jn) (hn : Nat.add pc len = nx) (k : q_R Γ q_K 155 i P (nx, lo, (1, h kk jn) :: st, q_hp q_K 155 h, [], cl, sl)) : q_R Γ q_K 155 i P (pc, lo, (0, j) :: (2, Int.ofNat kk) :: st, q_hp q_K 155 h, [], cl, sl) := by
  subst hjn
  exact r_lald he hk (by decide) hK hN2 (q_w32_r hj) hj0 hj1 hn k
theorem x_last {kk N jn : Nat} {ds : List q_Ds} {j w : Int} (hA : q_Al A B h) (he : q_cat i pc .lastore len x y v) (hk : kk < 155) (hK : q_K kk = (3, N, ds)) (hN2 : N ≤ 2048) (hj : q_r32 j) (hj0 : 0 ≤ j) (hj1 : j < N) (hjn : j.toNat = jn) (hw : q_r64 w) (hn : Nat.add pc len = nx) (k : ∀ g, g = q_ud h kk jn w → q_Al A B g → q_R Γ q_K 155 i P (nx, lo, st, q_hp q_K 155 g, [], cl, sl)) : q_R Γ q_K 155 i P (pc, lo, (1, w) :: (0, j) :: (2, Int.ofNat kk) :: st, q_hp q_K 155 h, [], cl, sl) := by
  subst hjn
  exact r_last he hk (by decide) hK hN2 (q_w32_r hj) hj0 hj1 hn (k _ rfl (q_al_ud (ty := 1) hA (by rw [hK]; rfl) hw))
theorem x_max {idx : Nat} {a b : Int} (he : q_cat i pc (.invokestatic idx) len x 6 v) (hm : q_mrm i 1 13 cl sl st = true) (hn : Nat.add pc len = nx) (ha : q_r32 a) (hb : q_r32 b) (k : q_R Γ q_K 155 i P (nx, lo, (0, qx_mx a b) :: st, hp, [], cl, sl)) : q_R Γ q_K 155 i P (pc, lo, (0, b) :: (0, a) :: st, hp, [], cl, sl) :=
  r_max he hm hn (by rw [q_w32_r ha, q_w32_r hb]; exact k)
theorem x_min {idx : Nat} {a b : Int} (he : q_cat i pc (.invokestatic idx) len x 7 v) (hm : q_mrm i 1 13 cl sl st = true) (hn : Nat.add pc len = nx) (ha : q_r32 a) (hb : q_r32 b) (k : q_R Γ q_K 155 i P (nx, lo, (0, qx_mn a b) :: st, hp, [], cl, sl)) : q_R Γ q_K 155 i P (pc, lo, (0, b) :: (0, a) :: st, hp, [], cl, sl) :=
  r_min he hm hn (by rw [q_w32_r ha, q_w32_r hb]; exact k)
theorem x_maxf {idx : Nat} {a b : Int} (he : q_cat i pc (.invokestatic idx) len x 12 v) (hm : q_mrm i 5 150 cl sl st = true) (hn : Nat.add pc len = nx) (ha : q_n32 (UInt32.ofNat a.toNat) = true) (hb : q_n32 (UInt32.ofNat b.toNat) = true) (k : q_R Γ q_K 155 i P (nx, lo, (4, q_fmxi a b) :: st, hp, [], cl, sl)) : q_R Γ q_K 155 i P (pc, lo, (4, b) :: (4, a) :: st, hp, [], cl, sl) :=
  r_maxf he hm hn ha hb k
theorem x_slen {idx : Nat} {z : Int} (he : q_cat i pc (.invokevirtual idx) len x 1 v) (hm : q_mrm i 5 150 cl sl st = true) (h3 : 3 ≤ z.toNat) (h9 : z.toNat ≤ 9) (hn : Nat.add pc len = nx) (k : q_R Γ q_K 155 i P (nx, lo, (0, qx_sl z) :: st, hp, [], cl, sl)) : q_R Γ q_K 155 i P (pc, lo, (9, z) :: st, hp, [], cl, sl) :=
  r_slen he hm h3 h9 hn (fun L hL _ _ => by rw [hL]; exact k)
theorem x_schar {idx : Nat} {z j : Int} (he : q_cat i pc (.invokevirtual idx) len x 2 v) (hm : q_mrm i 5 150 cl sl st = true) (h3 : 3 ≤ z.toNat) (h9 : z.toNat ≤ 9) (hj : q_r32 j) (hj0 : 0 ≤ j) (hj1 : j < qx_sl z) (hn : Nat.add pc len = nx) (k : q_R Γ q_K 155 i P (nx, lo, (0, qx_sc z j) :: st, hp, [], cl, sl)) : q_R Γ q_K 155 i P (pc, lo, (0, j) :: (9, z) :: st, hp, [], cl, sl) :=
  r_schar he hm h3 h9 (q_w32_r hj) hj0 hj1 hn (fun c hc => by
    have e : qx_sc z j = c := by
      unfold qx_sc; rw [hc]
      exact q_w32_r (q_sb_r _ c (List.mem_of_getElem? hc))
    rw [← e]; exact k)
theorem r_lc_eq {pc2 len2 x2 y2 : Nat} {v2 : Int} {a b a' b' off : Int} (he : q_cat i pc .lcmp len x y v) (he2 : q_cat i pc2 (.ifCond .eq off) len2 x2 y2 v2) (hn1 : Nat.add pc len = pc2) (hn : Nat.add pc2 len2 = nx) (ha : q_w64 a = a') (hb : q_w64 b = b') (kt : (a' = b') ∧ True → q_R Γ q_K 155 i P (x2, lo, st, hp, [], cl, sl)) (kf : (¬ a' = b') ∧ True → q_R Γ q_K 155 i P (nx, lo, st, hp, [], cl, sl)) : q_R Γ q_K 155 i P (pc, lo, (1, b) :: (1, a) :: st, hp, [], cl, sl) := by
  refine r_lcmpn he hn1 ha hb ?_ ?_ ?_ <;> intro h9
  · refine r_if_eq he2 hn (show q_w32 (-1) = -1 from rfl) ?_ ?_ <;> intro h8
    · first | exact kt ⟨by omega, trivial⟩ | (exfalso; omega)
    · first | exact kf ⟨by omega, trivial⟩ | (exfalso; omega)
  · refine r_if_eq he2 hn (show q_w32 0 = 0 from rfl) ?_ ?_ <;> intro h8
    · first | exact kt ⟨by omega, trivial⟩ | (exfalso; omega)
    · first | exact kf ⟨by omega, trivial⟩ | (exfalso; omega)
  · refine r_if_eq he2 hn (show q_w32 1 = 1 from rfl) ?_ ?_ <;> intro h8
    · first | exact kt ⟨by omega, trivial⟩ | (exfalso; omega)
    · first | exact kf ⟨by omega, trivial⟩ | (exfalso; omega)
theorem r_lc_ne {pc2 len2 x2 y2 : Nat} {v2 : Int} {a b a' b' off : Int} (he : q_cat i pc .lcmp len x y v) (he2 : q_cat i pc2 (.ifCond .ne off) len2 x2 y2 v2) (hn1 : Nat.add pc len = pc2) (hn : Nat.add pc2 len2 = nx) (ha : q_w64 a = a') (hb : q_w64 b = b') (kt : (¬ a' = b') ∧ True → q_R Γ q_K 155 i P (x2, lo, st, hp, [], cl, sl)) (kf : (a' = b') ∧ True → q_R Γ q_K 155 i P (nx, lo, st, hp, [], cl, sl)) : q_R Γ q_K 155 i P (pc, lo, (1, b) :: (1, a) :: st, hp, [], cl, sl) := by
  refine r_lcmpn he hn1 ha hb ?_ ?_ ?_ <;> intro h9
  · refine r_if_ne he2 hn (show q_w32 (-1) = -1 from rfl) ?_ ?_ <;> intro h8
    · first | exact kt ⟨by omega, trivial⟩ | (exfalso; omega)
    · first | exact kf ⟨by omega, trivial⟩ | (exfalso; omega)
  · refine r_if_ne he2 hn (show q_w32 0 = 0 from rfl) ?_ ?_ <;> intro h8
    · first | exact kt ⟨by omega, trivial⟩ | (exfalso; omega)
    · first | exact kf ⟨by omega, trivial⟩ | (exfalso; omega)
  · refine r_if_ne he2 hn (show q_w32 1 = 1 from rfl) ?_ ?_ <;> intro h8
    · first | exact kt ⟨by omega, trivial⟩ | (exfalso; omega)
    · first | exact kf ⟨by omega, trivial⟩ | (exfalso; omega)
theorem r_lc_lt {pc2 len2 x2 y2 : Nat} {v2 : Int} {a b a' b' off : Int} (he : q_cat i pc .lcmp len x y v) (he2 : q_cat i pc2 (.ifCond .lt off) len2 x2 y2 v2) (hn1 : Nat.add pc len = pc2) (hn : Nat.add pc2 len2 = nx) (ha : q_w64 a = a') (hb : q_w64 b = b') (kt : (a' < b') ∧ True → q_R Γ q_K 155 i P (x2, lo, st, hp, [], cl, sl)) (kf : (b' ≤ a') ∧ True → q_R Γ q_K 155 i P (nx, lo, st, hp, [], cl, sl)) : q_R Γ q_K 155 i P (pc, lo, (1, b) :: (1, a) :: st, hp, [], cl, sl) := by
  refine r_lcmpn he hn1 ha hb ?_ ?_ ?_ <;> intro h9
  · refine r_if_lt he2 hn (show q_w32 (-1) = -1 from rfl) ?_ ?_ <;> intro h8
    · first | exact kt ⟨by omega, trivial⟩ | (exfalso; omega)
    · first | exact kf ⟨by omega, trivial⟩ | (exfalso; omega)
  · refine r_if_lt he2 hn (show q_w32 0 = 0 from rfl) ?_ ?_ <;> intro h8
    · first | exact kt ⟨by omega, trivial⟩ | (exfalso; omega)
    · first | exact kf ⟨by omega, trivial⟩ | (exfalso; omega)
  · refine r_if_lt he2 hn (show q_w32 1 = 1 from rfl) ?_ ?_ <;> intro h8
    · first | exact kt ⟨by omega, trivial⟩ | (exfalso; omega)
    · first | exact kf ⟨by omega, trivial⟩ | (exfalso; omega)
theorem r_lc_ge {pc2 len2 x2 y2 : Nat} {v2 : Int} {a b a' b' off : Int} (he : q_cat i pc .lcmp len x y v) (he2 : q_cat i pc2 (.ifCond .ge off) len2 x2 y2 v2) (hn1 : Nat.add pc len = pc2) (hn : Nat.add pc2 len2 = nx) (ha : q_w64 a = a') (hb : q_w64 b = b') (kt : (b' ≤ a') ∧ True → q_R Γ q_K 155 i P (x2, lo, st, hp, [], cl, sl)) (kf : (a' < b') ∧ True → q_R Γ q_K 155 i P (nx, lo, st, hp, [], cl, sl)) : q_R Γ q_K 155 i P (pc, lo, (1, b) :: (1, a) :: st, hp, [], cl, sl) := by
  refine r_lcmpn he hn1 ha hb ?_ ?_ ?_ <;> intro h9
  · refine r_if_ge he2 hn (show q_w32 (-1) = -1 from rfl) ?_ ?_ <;> intro h8
    · first | exact kt ⟨by omega, trivial⟩ | (exfalso; omega)
    · first | exact kf ⟨by omega, trivial⟩ | (exfalso; omega)
  · refine r_if_ge he2 hn (show q_w32 0 = 0 from rfl) ?_ ?_ <;> intro h8
    · first | exact kt ⟨by omega, trivial⟩ | (exfalso; omega)
    · first | exact kf ⟨by omega, trivial⟩ | (exfalso; omega)
  · refine r_if_ge he2 hn (show q_w32 1 = 1 from rfl) ?_ ?_ <;> intro h8
    · first | exact kt ⟨by omega, trivial⟩ | (exfalso; omega)
    · first | exact kf ⟨by omega, trivial⟩ | (exfalso; omega)
theorem r_lc_gt {pc2 len2 x2 y2 : Nat} {v2 : Int} {a b a' b' off : Int} (he : q_cat i pc .lcmp len x y v) (he2 : q_cat i pc2 (.ifCond .gt off) len2 x2 y2 v2) (hn1 : Nat.add pc len = pc2) (hn : Nat.add pc2 len2 = nx) (ha : q_w64 a = a') (hb : q_w64 b = b') (kt : (b' < a') ∧ True → q_R Γ q_K 155 i P (x2, lo, st, hp, [], cl, sl)) (kf : (a' ≤ b') ∧ True → q_R Γ q_K 155 i P (nx, lo, st, hp, [], cl, sl)) : q_R Γ q_K 155 i P (pc, lo, (1, b) :: (1, a) :: st, hp, [], cl, sl) := by
  refine r_lcmpn he hn1 ha hb ?_ ?_ ?_ <;> intro h9
  · refine r_if_gt he2 hn (show q_w32 (-1) = -1 from rfl) ?_ ?_ <;> intro h8
    · first | exact kt ⟨by omega, trivial⟩ | (exfalso; omega)
    · first | exact kf ⟨by omega, trivial⟩ | (exfalso; omega)
  · refine r_if_gt he2 hn (show q_w32 0 = 0 from rfl) ?_ ?_ <;> intro h8
    · first | exact kt ⟨by omega, trivial⟩ | (exfalso; omega)
    · first | exact kf ⟨by omega, trivial⟩ | (exfalso; omega)
  · refine r_if_gt he2 hn (show q_w32 1 = 1 from rfl) ?_ ?_ <;> intro h8
    · first | exact kt ⟨by omega, trivial⟩ | (exfalso; omega)
    · first | exact kf ⟨by omega, trivial⟩ | (exfalso; omega)
theorem r_lc_le {pc2 len2 x2 y2 : Nat} {v2 : Int} {a b a' b' off : Int} (he : q_cat i pc .lcmp len x y v) (he2 : q_cat i pc2 (.ifCond .le off) len2 x2 y2 v2) (hn1 : Nat.add pc len = pc2) (hn : Nat.add pc2 len2 = nx) (ha : q_w64 a = a') (hb : q_w64 b = b') (kt : (a' ≤ b') ∧ True → q_R Γ q_K 155 i P (x2, lo, st, hp, [], cl, sl)) (kf : (b' < a') ∧ True → q_R Γ q_K 155 i P (nx, lo, st, hp, [], cl, sl)) : q_R Γ q_K 155 i P (pc, lo, (1, b) :: (1, a) :: st, hp, [], cl, sl) := by
  refine r_lcmpn he hn1 ha hb ?_ ?_ ?_ <;> intro h9
  · refine r_if_le he2 hn (show q_w32 (-1) = -1 from rfl) ?_ ?_ <;> intro h8
    · first | exact kt ⟨by omega, trivial⟩ | (exfalso; omega)
    · first | exact kf ⟨by omega, trivial⟩ | (exfalso; omega)
  · refine r_if_le he2 hn (show q_w32 0 = 0 from rfl) ?_ ?_ <;> intro h8
    · first | exact kt ⟨by omega, trivial⟩ | (exfalso; omega)
    · first | exact kf ⟨by omega, trivial⟩ | (exfalso; omega)
  · refine r_if_le he2 hn (show q_w32 1 = 1 from rfl) ?_ ?_ <;> intro h8
    · first | exact kt ⟨by omega, trivial⟩ | (exfalso; omega)
    · first | exact kf ⟨by omega, trivial⟩ | (exfalso; omega)
theorem x_abs {idx : Nat} {a : Int} (he : q_cat i pc (.invokestatic idx) len x 8 v) (hm : q_mrm i 1 13 cl sl st = true) (hn : Nat.add pc len = nx) (ha : q_r32 a) (k : q_R Γ q_K 155 i P (nx, lo, (0, qx_ab a) :: st, hp, [], cl, sl)) : q_R Γ q_K 155 i P (pc, lo, (0, a) :: st, hp, [], cl, sl) :=
  r_abs he hm hn (by
    rw [q_w32_r ha, show (0 - Int32.ofInt a).toInt = q_w32 (-a) from by rw [show (0 : Int32) = Int32.ofInt 0 from rfl, q_sub32, q_w32_m, q_w32w, Int.zero_sub]]
    exact k)
theorem x_maxl {idx : Nat} {a b : Int} (he : q_cat i pc (.invokestatic idx) len x 10 v) (hm : q_mrm i 1 15 cl sl st = true) (hn : Nat.add pc len = nx) (ha : q_r64 a) (hb : q_r64 b) (k : q_R Γ q_K 155 i P (nx, lo, (1, qx_mx a b) :: st, hp, [], cl, sl)) : q_R Γ q_K 155 i P (pc, lo, (1, b) :: (1, a) :: st, hp, [], cl, sl) :=
  r_maxl he hm hn (by rw [q_w64_r ha, q_w64_r hb]; exact k)
theorem x_absl {idx : Nat} {a : Int} (he : q_cat i pc (.invokestatic idx) len x 11 v) (hm : q_mrm i 1 13 cl sl st = true) (hn : Nat.add pc len = nx) (ha : q_r64 a) (k : q_R Γ q_K 155 i P (nx, lo, (1, qx_abl a) :: st, hp, [], cl, sl)) : q_R Γ q_K 155 i P (pc, lo, (1, a) :: st, hp, [], cl, sl) :=
  r_absl he hm hn (by rw [q_w64_r ha]; exact k)
theorem x_bald {kk N jn : Nat} {ds : List q_Ds} {j : Int} (he : q_cat i pc .baload len x y v) (hk : kk < 155) (hK : q_K kk = (2, N, ds)) (hN2 : N ≤ 2048) (hj : q_r32 j) (hj0 : 0 ≤ j) (hj1 : j < N) (hjn : j.toNat = jn) (hn : Nat.add pc len = nx) (k : q_R Γ q_K 155 i P (nx, lo, (0, h kk jn) :: st, q_hp q_K 155 h, [], cl, sl)) : q_R Γ q_K 155 i P (pc, lo, (0, j) :: (2, Int.ofNat kk) :: st, q_hp q_K 155 h, [], cl, sl) := by
  subst hjn
  exact r_bald he hk (by decide) hK hN2 (q_w32_r hj) hj0 hj1 hn k
theorem x_bast {kk N jn : Nat} {ds : List q_Ds} {j w : Int} (hA : q_Al A B h) (he : q_cat i pc .bastore len x y v) (hk : kk < 155) (hK : q_K kk = (2, N, ds)) (hN2 : N ≤ 2048) (hj : q_r32 j) (hj0 : 0 ≤ j) (hj1 : j < N) (hjn : j.toNat = jn) (hn : Nat.add pc len = nx) (k : ∀ g, g = q_ud h kk jn (q_i8 w) → q_Al A B g → q_R Γ q_K 155 i P (nx, lo, st, q_hp q_K 155 g, [], cl, sl)) : q_R Γ q_K 155 i P (pc, lo, (0, w) :: (0, j) :: (2, Int.ofNat kk) :: st, q_hp q_K 155 h, [], cl, sl) := by
  subst hjn
  exact r_bast he hk (by decide) hK hN2 (q_df_i2b w) (q_w32_r hj) hj0 hj1 hn (k _ rfl (q_al_ud (ty := 4) hA (by rw [hK]; rfl) (q_i8r w)))
theorem x_dast {kk N jn : Nat} {ds : List q_Ds} {j w : Int} (hA : q_Al A B h) (he : q_cat i pc .dastore len x y v) (hk : kk < 155) (hK : q_K kk = (4, N, ds)) (hN2 : N ≤ 2048) (hj : q_r32 j) (hj0 : 0 ≤ j) (hj1 : j < N) (hjn : j.toNat = jn) (hn : Nat.add pc len = nx) (k : ∀ g, g = q_ud h kk jn w → q_Al A B g → q_R Γ q_K 155 i P (nx, lo, st, q_hp q_K 155 g, [], cl, sl)) : q_R Γ q_K 155 i P (pc, lo, (5, w) :: (0, j) :: (2, Int.ofNat kk) :: st, q_hp q_K 155 h, [], cl, sl) := by
  subst hjn
  exact r_dast he hk (by decide) hK hN2 (q_w32_r hj) hj0 hj1 hn (k _ rfl (q_al_ud (ty := 9) hA (by rw [hK]; rfl) trivial))
end q_xx
