/-! Part 20: runs over open terms: what is known of the pure machine by rules, one for an instruction, over heaps that are functions. -/
/-- what stands all through: the script's ints, its address, the first new address, its length, its ints, the classes' numbers, the launch -/
abbrev q_Γ := (Nat → Int) × (Nat → Nat) × Nat × Nat × (Nat → Int32) × va_G × Launch
def q_Ok (Γ : q_Γ) (x : Nat) (ar : List q_V) (hp : q_H) (lfs : List q_Lf) : Prop :=
  ∀ (ws : va_W) (tys : List (ClassId × FieldType)) (arR : List Value), va_D (q_A Γ.2.2.1) ws → q_W Γ.1 Γ.2.1 ws tys hp → q_F2 (q_rv Γ.1 Γ.2.1 ws) ar arR →
    vx_Met Γ.2.2.2.2.2.2 (q_y x) (q_wsM x) (q_rm x) (q_Pre Γ.2.1 Γ.2.2.1 Γ.2.2.2.1 Γ.2.2.2.2.1 Γ.2.2.2.2.2.1 ws tys arR) (q_Qc Γ.1 Γ.2.1 Γ.2.2.1 Γ.2.2.2.2.2.1 ws lfs) (q_XC Γ.1 Γ.2.1 Γ.2.2.1 Γ.2.2.2.2.2.1 ws lfs) (q_rm x).cells (q_rm x).slots (q_A Γ.2.2.1)
def q_Cn (Γ : q_Γ) (cf : Nat → List q_V → q_H → q_I → Option (List q_Lf)) : Prop := q_Con Γ.1 Γ.2.1 Γ.2.2.1 Γ.2.2.2.1 Γ.2.2.2.2.1 Γ.2.2.2.2.2.1 Γ.2.2.2.2.2.2 cf
/-- some of the locals, in an order of one's own -/
noncomputable def q_pk : List Nat → q_L → Option q_L
  | [], _ => some []
  | k :: ks, lo => (q_lk k lo).bind fun a => (q_pk ks lo).bind fun l => some ((k, a) :: l)
theorem q_lk_m {k : Nat} : ∀ {lo : q_L} {a : q_V}, q_lk k lo = some a → (k, a) ∈ lo
  | [], a, h => by cases h
  | x :: lo, a, h => by
    have h' : (bif Nat.beq x.1 k then some x.2 else q_lk k lo) = some a := h
    cases hb : Nat.beq x.1 k with
    | true =>
      rw [hb] at h'
      cases q_so h'
      rw [← q_bq hb]
      exact List.mem_cons_self
    | false =>
      rw [hb] at h'
      exact List.mem_cons_of_mem _ (q_lk_m h')
theorem q_pk_m : ∀ {ks : List Nat} {lo lo' : q_L}, q_pk ks lo = some lo' → ∀ q ∈ lo', q ∈ lo
  | [], lo, lo', h, q, hq => by cases q_so h; cases hq
  | k :: ks, lo, lo', h, q, hq => by
    obtain ⟨a, h1, h⟩ := q_bd_i (show (q_lk k lo).bind _ = some lo' from h)
    obtain ⟨l, h2, h⟩ := q_bd_i h
    cases q_so h
    rcases List.mem_cons.mp hq with rfl | hq
    · exact q_lk_m h1
    · exact q_pk_m h2 q hq
/-- every state of a run of the method i from c on ends in LF -/
def q_To (Γ : q_Γ) (i : Nat) (LF : List q_Lf) (c : q_C) : Prop := ∀ G : q_C → Prop,
  (∀ c z cf, q_Cn Γ cf → q_step q_mt q_df cf Γ.2.2.2.1 (q_mt i) c = some z → (∀ c' ∈ z.1, G c') → (∀ lf ∈ z.2, lf ∈ LF) → G c) →
  (∀ (pc : Nat) (lo : q_L) (j : Nat) (st : List q_V) (hp : q_H) (cl sl : Nat), G (pc, lo, (0, Γ.1 j) :: st, hp, [], cl, sl) → G (pc, lo, (6, Int.ofNat j) :: st, hp, [], cl, sl)) →
  (∀ (pc : Nat) (lo lo' : q_L) (st : List q_V) (hp : q_H) (cl sl : Nat), (∀ q ∈ lo', q ∈ lo) → G (pc, lo', st, hp, [], cl, sl) → G (pc, lo, st, hp, [], cl, sl)) → G c
theorem q_To.st {Γ : q_Γ} {i : Nat} {LF : List q_Lf} {c : q_C} {z : List q_C × List q_Lf} {cf : Nat → List q_V → q_H → q_I → Option (List q_Lf)} (hcf : q_Cn Γ cf) (h : q_step q_mt q_df cf Γ.2.2.2.1 (q_mt i) c = some z) (h1 : ∀ c' ∈ z.1, q_To Γ i LF c') (h2 : ∀ lf ∈ z.2, lf ∈ LF) : q_To Γ i LF c :=
  fun G g1 g2 g3 => g1 c z cf hcf h (fun c' hc => h1 c' hc G g1 g2 g3) h2
theorem q_To.cv {Γ : q_Γ} {i : Nat} {LF : List q_Lf} {pc : Nat} {lo : q_L} {j : Nat} {st : List q_V} {hp : q_H} {cl sl : Nat} (h : q_To Γ i LF (pc, lo, (0, Γ.1 j) :: st, hp, [], cl, sl)) : q_To Γ i LF (pc, lo, (6, Int.ofNat j) :: st, hp, [], cl, sl) :=
  fun G g1 g2 g3 => g2 _ _ _ _ _ _ _ (h G g1 g2 g3)
theorem q_To.wk {Γ : q_Γ} {i : Nat} {LF : List q_Lf} {pc : Nat} {lo lo' : q_L} {st : List q_V} {hp : q_H} {cl sl : Nat} (hs : ∀ q ∈ lo', q ∈ lo) (h : q_To Γ i LF (pc, lo', st, hp, [], cl, sl)) : q_To Γ i LF (pc, lo, st, hp, [], cl, sl) :=
  fun G g1 g2 g3 => g3 _ _ _ _ _ _ _ hs (h G g1 g2 g3)
def q_cf0 : Nat → List q_V → q_H → q_I → Option (List q_Lf) := fun _ _ _ _ => none
theorem q_cf0_c (Γ : q_Γ) : q_Cn Γ q_cf0 := fun _ _ _ _ _ h => (by cases (show (none : Option (List q_Lf)) = some _ from h))
noncomputable def q_cf1 (x : Nat) (ar : List q_V) (hp : q_H) (lfs : List q_Lf) : Nat → List q_V → q_H → q_I → Option (List q_Lf) := fun x' ar' hp' _ => @ite _ (x' = x ∧ ar' = ar ∧ hp' = hp) (Classical.propDecidable _) (some lfs) none
theorem q_cf1_c {Γ : q_Γ} {x : Nat} {ar : List q_V} {hp : q_H} {lfs : List q_Lf} (h : q_Ok Γ x ar hp lfs) : q_Cn Γ (q_cf1 x ar hp lfs) := by
  intro x' ar' hp' iv' lfs' h' hx ho
  unfold q_cf1 at h'
  split at h'
  · rename_i h9
    obtain ⟨rfl, rfl, rfl⟩ := h9
    cases q_so h'
    exact h
  · cases h'
theorem q_cf1_e {x : Nat} {ar : List q_V} {hp : q_H} {lfs : List q_Lf} {iv : q_I} : q_cf1 x ar hp lfs x ar hp iv = some lfs := by
  unfold q_cf1
  rw [if_pos ⟨rfl, rfl, rfl⟩]
-- heaps as functions
theorem q_gt_s {A : Type} (d : Nat) (t : q_T A (d + 1)) (i : Nat) : q_get (d + 1) t i = if i % 2 = 1 then q_get d t.2 (i / 2) else q_get d t.1 (i / 2) := by
  rw [q_get_s]
  rcases q_beq1 i with ⟨b1, h1⟩ | ⟨b1, h1⟩ <;> rw [b1] <;> simp only [cond_true, cond_false]
  · rw [if_pos h1]
  · rw [if_neg (by omega)]
noncomputable def q_bld {A : Type} (d : Nat) : (Nat → A) → q_T A d :=
  Nat.rec (motive := fun d => (Nat → A) → q_T A d) (fun f => f 0) (fun _ ih f => (ih (fun i => f (2 * i)), ih (fun i => f (2 * i + 1)))) d
theorem q_gb {A : Type} : ∀ (d : Nat) (f : Nat → A) (i : Nat), i < 2 ^ d → q_get d (q_bld d f) i = f i := by
  intro d
  induction d with
  | zero =>
    intro f i hi
    have e : i = 0 := by simp at hi; omega
    subst e; rfl
  | succ d ih =>
    intro f i hi
    have hi2 : i / 2 < 2 ^ d := by rw [Nat.pow_succ] at hi; omega
    rw [q_gt_s]
    split
    · show q_get d (q_bld d (fun i => f (2 * i + 1))) (i / 2) = _
      rw [ih _ _ hi2]; congr 1; omega
    · show q_get d (q_bld d (fun i => f (2 * i))) (i / 2) = _
      rw [ih _ _ hi2]; congr 1; omega
theorem q_sbt {A : Type} : ∀ (d : Nat) (f : Nat → A) (i : Nat) (v : A), i < 2 ^ d → q_set d (q_bld d f) i v = q_bld d (fun j => if j = i then v else f j) := by
  intro d
  induction d with
  | zero =>
    intro f i v hi
    have e : i = 0 := by simp at hi; omega
    subst e
    show v = if 0 = 0 then v else f 0
    rw [if_pos rfl]
  | succ d ih =>
    intro f i v hi
    have hi2 : i / 2 < 2 ^ d := by rw [Nat.pow_succ] at hi; omega
    rw [q_set_s]
    show _ = (q_bld d (fun j => if 2 * j = i then v else f (2 * j)), q_bld d (fun j => if 2 * j + 1 = i then v else f (2 * j + 1)))
    rcases q_beq1 i with ⟨b1, h1⟩ | ⟨b1, h1⟩ <;> rw [b1] <;> simp only [cond_true, cond_false]
    · show (q_bld d (fun j => f (2 * j)), q_set d (q_bld d (fun j => f (2 * j + 1))) (i / 2) v) = _
      rw [ih _ _ _ hi2]
      congr 1
      · congr 1; funext j; rw [if_neg (by omega)]
      · congr 1; funext j
        by_cases e : j = i / 2
        · rw [if_pos e, if_pos (by omega)]
        · rw [if_neg e, if_neg (by omega)]
    · show (q_set d (q_bld d (fun j => f (2 * j))) (i / 2) v, q_bld d (fun j => f (2 * j + 1))) = _
      rw [ih _ _ _ hi2]
      congr 1
      · congr 1; funext j
        by_cases e : j = i / 2
        · rw [if_pos e, if_pos (by omega)]
        · rw [if_neg e, if_neg (by omega)]
      · congr 1; funext j; rw [if_neg (by omega)]
abbrev q_F := Nat → Nat → Int
/-- a field: (0, _) an int, (1, _) a long, (2, r) the object r for good -/
abbrev q_Ds := Nat × Int
/-- an object or array: kind, class or length, fields or (of rows of references) elements -/
abbrev q_Ly := Nat × Nat × List q_Ds
def q_fv1 (d : q_Ds) (v : Int) : q_V := (d.1, bif Nat.beq d.1 2 then d.2 else v)
def q_fvs (f : Nat → Int) : List q_Ds → Nat → List q_V
  | [], _ => []
  | d :: r, j => q_fv1 d (f j) :: q_fvs f r (j + 1)
theorem q_fvs_g (f : Nat → Int) : ∀ (ds : List q_Ds) (j y : Nat) (d : q_Ds), ds[y]? = some d → (q_fvs f ds j)[y]? = some (q_fv1 d (f (j + y)))
  | [], j, y, d, h => by cases y <;> cases h
  | x :: r, j, 0, d, h => by cases h; rfl
  | x :: r, j, y + 1, d, h => by
    have := q_fvs_g f r (j + 1) y d h
    show (q_fvs f r (j + 1))[y]? = _
    rw [this, show j + 1 + y = j + (y + 1) by omega]
theorem q_fvs_l (f : Nat → Int) : ∀ (ds : List q_Ds) (j : Nat), (q_fvs f ds j).length = ds.length
  | [], _ => rfl
  | x :: r, j => by show (q_fvs f r (j + 1)).length + 1 = r.length + 1; rw [q_fvs_l f r]
theorem q_fvs_c {f g : Nat → Int} : ∀ (ds : List q_Ds) (j : Nat), (∀ k, j ≤ k → f k = g k) → q_fvs f ds j = q_fvs g ds j
  | [], _, _ => rfl
  | x :: r, j, h => by
    show q_fv1 x (f j) :: q_fvs f r (j + 1) = q_fv1 x (g j) :: q_fvs g r (j + 1)
    rw [h j (Nat.le_refl _), q_fvs_c r (j + 1) (fun k hk => h k (by omega))]
theorem q_fvs_s (f : Nat → Int) : ∀ (ds : List q_Ds) (j y : Nat) (d : q_Ds) (v : Int), ds[y]? = some d → Nat.beq d.1 2 = false → (q_fvs f ds j).set y (d.1, v) = q_fvs (fun k => if k = j + y then v else f k) ds j
  | [], j, y, d, v, h, _ => by cases y <;> cases h
  | x :: r, j, 0, d, v, h, hd => by
    cases h
    show (x.1, v) :: q_fvs f r (j + 1) = q_fv1 x (if j = j + 0 then v else f j) :: q_fvs _ r (j + 1)
    rw [if_pos (show j = j + 0 from rfl)]
    unfold q_fv1
    rw [hd]
    congr 1
    exact q_fvs_c r (j + 1) (fun k hk => by rw [if_neg (by omega)])
  | x :: r, j, y + 1, d, v, h, hd => by
    have ih := q_fvs_s f r (j + 1) y d v h hd
    show q_fv1 x (f j) :: (q_fvs f r (j + 1)).set y (d.1, v) = q_fv1 x (if j = j + (y + 1) then v else f j) :: q_fvs _ r (j + 1)
    rw [if_neg (by omega), ih]
    congr 1
    exact q_fvs_c r (j + 1) (fun k hk => by rw [show j + 1 + y = j + (y + 1) by omega])
/-- the kind of what a row of a kind holds -/
def q_ek (k : Nat) : Nat := match k with
  | 3 => 1
  | 4 => 5
  | _ => 0
noncomputable def q_cel (y : q_Ly) (f : Nat → Int) : q_Ce := bif Nat.beq y.1 0 then (0, y.2.1, q_fvs f y.2.2 0, q_zT) else bif Nat.beq y.1 5 then (5, y.2.1, [], q_bld 11 (fun j => (2, ((y.2.2[j]?).getD (0, 0)).2))) else (y.1, y.2.1, [], q_bld 11 (fun j => (q_ek y.1, f j)))
noncomputable def q_hp (K : Nat → q_Ly) (n : Nat) (h : q_F) : q_H := (n, q_bld 8 (fun k => q_cel (K k) (h k)))
def q_ud (h : q_F) (k j : Nat) (v : Int) : q_F := fun k' j' => if k' = k ∧ j' = j then v else h k' j'
theorem q_ud_s (h : q_F) (k j : Nat) (v : Int) : q_ud h k j v k j = v := by unfold q_ud; rw [if_pos ⟨rfl, rfl⟩]
theorem q_ud_n {h : q_F} {k j : Nat} {v : Int} {k' j' : Nat} (hn : ¬ (k' = k ∧ j' = j)) : q_ud h k j v k' j' = h k' j' := by unfold q_ud; rw [if_neg hn]
theorem q_hp_at {K : Nat → q_Ly} {n : Nat} {h : q_F} {k : Nat} (hk : k < n) (hn : n ≤ 256) : q_at (q_hp K n h) (2, Int.ofNat k) = some (q_cel (K k) (h k)) := by
  unfold q_at q_hp
  have e1 : (bif Nat.beq 2 2 then Nat.ble (Nat.succ k) n else false) = true := by
    show Nat.ble (Nat.succ k) n = true
    exact Nat.ble_eq_true_of_le hk
  show q_if (bif Nat.beq 2 2 then Nat.ble (Nat.succ k) n else false) (some (q_get 8 (q_bld 8 (fun k => q_cel (K k) (h k))) k)) = _
  rw [e1, q_gb 8 _ k (by omega)]; rfl
theorem q_hp_put {K : Nat → q_Ly} {n : Nat} {h : q_F} {k j : Nat} {v : Int} (hk : k < n) (hn : n ≤ 256) {e : q_Ce} (he : e = q_cel (K k) (fun j' => if j' = j then v else h k j')) : q_put (q_hp K n h) k e = q_hp K n (q_ud h k j v) := by
  unfold q_put q_hp
  show (n, q_set 8 (q_bld 8 (fun k => q_cel (K k) (h k))) k e) = _
  rw [q_sbt 8 _ k e (by omega)]
  congr 1; congr 1; funext k'
  by_cases c : k' = k
  · subst c
    rw [if_pos rfl, he]
    congr 1; funext j'
    unfold q_ud
    by_cases c2 : j' = j
    · rw [if_pos c2, if_pos ⟨rfl, c2⟩]
    · rw [if_neg c2, if_neg (fun h => c2 h.2)]
  · rw [if_neg c]
    congr 1; funext j'
    unfold q_ud
    rw [if_neg (fun h => c h.1)]
