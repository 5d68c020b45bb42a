/-! Part 99b: rules for the walk of the law's own body. -/
/-- the law's locals between two calls -/
def y_lo (i : Nat) : q_L := [(5, (0, (i : Int))), (0, (9, 0)), (1, (2, Int.ofNat 0)), (2, (2, Int.ofNat 139)), (3, (2, Int.ofNat 153)), (4, (2, Int.ofNat 154))]
/-- the law answers 1 -/
def y_P : Nat → q_V → q_F → Prop := fun t w _ => t = 1 ∧ w = (0, 1)
/-- what must hold behind a case -/
def y_K (Γ : q_Γ) (i cl sl : Nat) : Prop := ∀ (h' : q_F) (cl' sl' : Nat), q_Al 0 155 h' → (t_J h' ∧ h' 1 1 = h' 139 14) → cl' ≤ cl + 6 → sl' ≤ sl + 36 → q_R Γ q_K 155 368 y_P (2189, y_lo i, [], q_hp q_K 155 h', [], cl', sl')
theorem y_rms {x cl sl : Nat} {rest : List q_V} (h : q_rms 368 x 4000 40000 rest = true) (hc : cl ≤ 4000) (hs : sl ≤ 40000) : q_rms 368 x cl sl rest = true := by
  unfold q_rms at h ⊢
  obtain ⟨h1, h⟩ := q_and_i h
  obtain ⟨h2, h⟩ := q_and_i h
  obtain ⟨h3, h⟩ := q_and_i h
  obtain ⟨h4, h5⟩ := q_and_i h
  have k4 : Nat.add 4000 (q_mt x).2.2.1.2.2.1 ≤ (q_mt 368).2.2.1.2.2.1 := Nat.le_of_ble_eq_true h4
  have k5 : Nat.add 40000 (q_mt x).2.2.1.2.2.2 ≤ (q_mt 368).2.2.1.2.2.2 := Nat.le_of_ble_eq_true h5
  have e4 : Nat.ble (Nat.add cl (q_mt x).2.2.1.2.2.1) (q_mt 368).2.2.1.2.2.1 = true := Nat.ble_eq_true_of_le (Nat.le_trans (Nat.add_le_add_right hc _) k4)
  have e5 : Nat.ble (Nat.add sl (q_mt x).2.2.1.2.2.2) (q_mt 368).2.2.1.2.2.2 = true := Nat.ble_eq_true_of_le (Nat.le_trans (Nat.add_le_add_right hs _) k5)
  rw [h1, h2, h3, e4, e5]; rfl
def y_nzv (z : Int) : Int := if z = 0 then 0 else 1
theorem y_nz01 (z : Int) : y_nzv z = 0 ∨ y_nzv z = 1 := by unfold y_nzv; split <;> simp
section y_rows
variable {Γ : q_Γ} {P : Nat → q_V → q_F → Prop} {p x y a b cl sl : Nat} {v : Int} {lo : q_L} {st rest : List q_V} {h : q_F}
/-- script[i + c] -/
theorem y_arg {i c : Nat} {n : Int} (c0 : q_cat 368 p (.aload_n 0) 1 0 0 0) (c1 : q_cat 368 (p + 1) (.iload 5) 2 5 0 0) (c2 : q_cat 368 (p + 3) (.iconst n) 1 0 0 0) (c3 : q_cat 368 (p + 4) .iadd 1 0 0 0) (c4 : q_cat 368 (p + 5) .iaload 1 0 0 0)
    (hn : n = (c : Int)) (l0 : q_lk 0 lo = some (9, 0)) (l5 : q_lk 5 lo = some (0, (i : Int))) (hi : i + 6 ≤ Γ.2.2.2.1) (hL : Γ.2.2.2.1 ≤ 3072) (hc : c < 6) (k : q_R Γ q_K 155 368 P (p + 6, lo, (0, Γ.1 (i + c)) :: st, q_hp q_K 155 h, [], cl, sl)) : q_R Γ q_K 155 368 P (p, lo, st, q_hp q_K 155 h, [], cl, sl) := by
  subst hn
  refine r_aload9 c0 l0 rfl ?_
  refine r_iload c1 l5 rfl ?_
  refine r_iconst c2 rfl ?_
  refine r_iadd c3 (r := ((i + c : Nat) : Int)) (by rw [q_w32_id (by omega) (by omega)]; omega) rfl ?_
  refine r_sald c4 rfl (q_w32_id (by omega) (by omega)) (by omega) (by omega) rfl ?_
  rw [Int.toNat_natCast]
  exact k
/-- a value unequal to 0, as a truth value -/
theorem y_nz {pf pt : Nat} {o1 o2 z : Int} (c0 : q_cat 368 p (.ifCond .eq o1) 3 pf 0 0) (c1 : q_cat 368 (p + 3) (.iconst 1) 1 0 0 0) (c2 : q_cat 368 (p + 4) (.goto o2) 3 pt 0 0) (c3 : q_cat 368 pf (.iconst 0) 1 0 0 0) (hp : pf + 1 = pt) (hz : q_r32 z) (k : q_R Γ q_K 155 368 P (pt, lo, (0, y_nzv z) :: st, q_hp q_K 155 h, [], cl, sl)) : q_R Γ q_K 155 368 P (p, lo, (0, z) :: st, q_hp q_K 155 h, [], cl, sl) := by
  subst hp
  refine r_if_eq c0 rfl (q_w32_r hz) (fun h9 => ?_) (fun h9 => ?_)
  · rw [show y_nzv z = 0 from by unfold y_nzv; rw [if_pos h9.1]] at k
    exact r_iconst c3 rfl k
  · rw [show y_nzv z = 1 from by unfold y_nzv; rw [if_neg h9.1]] at k
    exact r_iconst c1 rfl (r_goto c2 k)
variable {kk N kd ty : Nat} {ds : List q_Ds} {ar : List q_V} {w : Int} {h' : q_F}
/-- a call of an object's method that may write -/
theorem y_cv {idx : Nat} (he : q_cat 368 p (.invokevirtual idx) 3 x 0 v) (hk : kk < 155) (hK : q_K kk = (0, N, ds)) (hC : (q_mt x).2.1.2.1 = N) (htk : q_take (q_mt x).2.1.2.2.1 st = some ((2, Int.ofNat kk) :: ar, rest)) (hrm : q_rms 368 x 4000 40000 rest = true) (hc : cl ≤ 4000) (hs : sl ≤ 40000)
    (ha : (q_mt x).2.2.1.2.2.1 = a) (hb : (q_mt x).2.2.1.2.2.2 = b) (hok : q_M Γ q_K 155 x ((2, Int.ofNat kk) :: ar) h (q_PW 0 155 kd ty (w, h'))) (k : q_in ty w → q_Al 0 155 h' → q_R Γ q_K 155 368 P (p + 3, lo, (kd, w) :: rest, q_hp q_K 155 h', [], cl + a, sl + b)) : q_R Γ q_K 155 368 P (p, lo, st, q_hp q_K 155 h, [], cl, sl) := by
  subst ha; subst hb
  refine r_vcG he hk (by decide) hK hC htk (y_rms hrm hc hs) hok ?_
  rintro t w9 h9 ⟨rfl, rfl, rfl, h1, h2⟩
  exact Or.inr (Or.inl ⟨rfl, k h1 h2⟩)
/-- .. that doesn't write -/
theorem y_cp {idx : Nat} (he : q_cat 368 p (.invokevirtual idx) 3 x 0 v) (hk : kk < 155) (hK : q_K kk = (0, N, ds)) (hC : (q_mt x).2.1.2.1 = N) (htk : q_take (q_mt x).2.1.2.2.1 st = some ((2, Int.ofNat kk) :: ar, rest)) (hrm : q_rms 368 x 4000 40000 rest = true) (hc : cl ≤ 4000) (hs : sl ≤ 40000)
    (ha : (q_mt x).2.2.1.2.2.1 = a) (hb : (q_mt x).2.2.1.2.2.2 = b) (hok : q_M Γ q_K 155 x ((2, Int.ofNat kk) :: ar) h (q_PP kd ty w h)) (k : q_in ty w → q_R Γ q_K 155 368 P (p + 3, lo, (kd, w) :: rest, q_hp q_K 155 h, [], cl + a, sl + b)) : q_R Γ q_K 155 368 P (p, lo, st, q_hp q_K 155 h, [], cl, sl) := by
  subst ha; subst hb
  refine r_vcG he hk (by decide) hK hC htk (y_rms hrm hc hs) hok ?_
  rintro t w9 h9 ⟨rfl, rfl, rfl, h1⟩
  exact Or.inr (Or.inl ⟨rfl, k h1⟩)
/-- a call of the law's own helper -/
theorem y_cs {idx : Nat} (he : q_cat 368 p (.invokestatic idx) 3 x 9 v) (htk : q_take (q_mt x).2.1.2.2.1 st = some (ar, rest)) (hrm : q_rms 368 x 4000 40000 rest = true) (hc : cl ≤ 4000) (hs : sl ≤ 40000)
    (ha : (q_mt x).2.2.1.2.2.1 = a) (hb : (q_mt x).2.2.1.2.2.2 = b) (hok : q_M Γ q_K 155 x ar h (q_PW 0 155 kd ty (w, h'))) (k : q_in ty w → q_Al 0 155 h' → q_R Γ q_K 155 368 P (p + 3, lo, (kd, w) :: rest, q_hp q_K 155 h', [], cl + a, sl + b)) : q_R Γ q_K 155 368 P (p, lo, st, q_hp q_K 155 h, [], cl, sl) := by
  subst ha; subst hb
  refine r_callG he (fun _ => rfl) htk (y_rms hrm hc hs) rfl hok ?_
  rintro t w9 h9 ⟨rfl, rfl, rfl, h1, h2⟩
  exact Or.inr (Or.inl ⟨rfl, k h1 h2⟩)
end y_rows
theorem y_ble1 {cl : Nat} (h : cl ≤ 601024) : Nat.ble cl (q_mt 368).2.2.1.2.2.1 = true := by
  rw [show (q_mt 368).2.2.1.2.2.1 = 601024 from rfl]; exact Nat.ble_eq_true_of_le h
theorem y_ble2 {sl : Nat} (h : sl ≤ 7293034) : Nat.ble sl (q_mt 368).2.2.1.2.2.2 = true := by
  rw [show (q_mt 368).2.2.1.2.2.2 = 7293034 from rfl]; exact Nat.ble_eq_true_of_le h
theorem y_and63 (z : Int) : 0 ≤ (Int32.ofInt z &&& Int32.ofInt 63).toInt ∧ (Int32.ofInt z &&& Int32.ofInt 63).toInt ≤ 63 := by
  have h : (Int32.ofInt z &&& 63).toBitVec.toNat ≤ 63 := by
    rw [Int32.toBitVec_and, BitVec.toNat_and]
    exact Nat.and_le_right
  have e : (Int32.ofInt z &&& 63).toInt = ((Int32.ofInt z &&& 63).toBitVec.toNat : Int) := by
    show (Int32.ofInt z &&& 63).toBitVec.toInt = _
    rw [BitVec.toInt_eq_toNat_cond, if_pos (by omega)]
  rw [show Int32.ofInt 63 = 63 from rfl]
  omega
