section -- [20.to]
/-! Part 20: runs over open terms: what is known of the pure machine by rules, one for an instruction, over heaps that are functions. -/
/-- what stands all through: the script's ints, its address, the first new address, its length, its ints, the classes' numbers, the launch -/
abbrev q_Γ := (Nat → Int) × (Nat → Nat) × Nat × Nat × (Nat → Int32) × va_G × Launch
def q_Ok (Γ : q_Γ) (x : Nat) (ar : List q_V) (hp : q_H) (lfs : List q_Lf) : Prop :=
  ∀ (ws : va_W) (tys : List (ClassId × FieldType)) (arR : List Value), va_D (q_A Γ.2.2.1) ws → q_W Γ.1 Γ.2.1 ws tys hp → q_F2 (q_rv Γ.1 Γ.2.1 ws) ar arR →
    vx_Met Γ.2.2.2.2.2.2 (q_y x) (q_wsM x) (q_rm x) (q_Pre Γ.2.1 Γ.2.2.1 Γ.2.2.2.1 Γ.2.2.2.2.1 Γ.2.2.2.2.2.1 ws tys arR) (q_Qc Γ.1 Γ.2.1 Γ.2.2.1 Γ.2.2.2.2.2.1 ws lfs) (q_XC Γ.1 Γ.2.1 Γ.2.2.1 Γ.2.2.2.2.2.1 ws lfs) (q_rm x).cells (q_rm x).slots (q_A Γ.2.2.1)
def q_Cn (Γ : q_Γ) (cf : Nat → List q_V → q_H → q_I → Option (List q_Lf)) : Prop := q_Con Γ.1 Γ.2.1 Γ.2.2.1 Γ.2.2.2.1 Γ.2.2.2.2.1 Γ.2.2.2.2.2.1 Γ.2.2.2.2.2.2 cf
/-- some of the locals, in an order of one's own -/
noncomputable def q_pk : List Nat → q_L → Option q_L
  | [], _ => some []
  | k :: ks, lo => (q_lk k lo).bind fun a => (q_pk ks lo).bind fun l => some ((k, a) :: l)
theorem q_lk_m {k : Nat} : ∀ {lo : q_L} {a : q_V}, q_lk k lo = some a → (k, a) ∈ lo
  | [], a, h => by cases h
  | x :: lo, a, h => by
    have h' : (bif Nat.beq x.1 k then some x.2 else q_lk k lo) = some a := h
    cases hb : Nat.beq x.1 k with
    | true =>
      rw [hb] at h'
      cases q_so h'
      rw [← q_bq hb]
      exact List.mem_cons_self
    | false =>
      rw [hb] at h'
      exact List.mem_cons_of_mem _ (q_lk_m h')
theorem q_pk_m : ∀ {ks : List Nat} {lo lo' : q_L}, q_pk ks lo = some lo' → ∀ q ∈ lo', q ∈ lo
  | [], lo, lo', h, q, hq => by cases q_so h; cases hq
  | k :: ks, lo, lo', h, q, hq => by
    obtain ⟨a, h1, h⟩ := q_bd_i (show (q_lk k lo).bind _ = some lo' from h)
    obtain ⟨l, h2, h⟩ := q_bd_i h
    cases q_so h
    rcases List.mem_cons.mp hq with rfl | hq
    · exact q_lk_m h1
    · exact q_pk_m h2 q hq
/-- every state of a run of the method i from c on ends in LF -/
def q_To (Γ : q_Γ) (i : Nat) (LF : List q_Lf) (c : q_C) : Prop := ∀ G : q_C → Prop,
  (∀ c z cf, q_Cn Γ cf → q_step q_mt q_df cf Γ.2.2.2.1 (q_mt i) c = some z → (∀ c' ∈ z.1, G c') → (∀ lf ∈ z.2, lf ∈ LF) → G c) →
  (∀ (pc : Nat) (lo : q_L) (j : Nat) (st : List q_V) (hp : q_H) (cl sl : Nat), G (pc, lo, (0, Γ.1 j) :: st, hp, [], cl, sl) → G (pc, lo, (6, Int.ofNat j) :: st, hp, [], cl, sl)) →
  (∀ (pc : Nat) (lo lo' : q_L) (st : List q_V) (hp : q_H) (cl sl : Nat), (∀ q ∈ lo', q ∈ lo) → G (pc, lo', st, hp, [], cl, sl) → G (pc, lo, st, hp, [], cl, sl)) → G c
theorem q_To.st {Γ : q_Γ} {i : Nat} {LF : List q_Lf} {c : q_C} {z : List q_C × List q_Lf} {cf : Nat → List q_V → q_H → q_I → Option (List q_Lf)} (hcf : q_Cn Γ cf) (h : q_step q_mt q_df cf Γ.2.2.2.1 (q_mt i) c = some z) (h1 : ∀ c' ∈ z.1, q_To Γ i LF c') (h2 : ∀ lf ∈ z.2, lf ∈ LF) : q_To Γ i LF c :=
  fun G g1 g2 g3 => g1 c z cf hcf h (fun c' hc => h1 c' hc G g1 g2 g3) h2
theorem q_To.cv {Γ : q_Γ} {i : Nat} {LF : List q_Lf} {pc : Nat} {lo : q_L} {j : Nat} {st : List q_V} {hp : q_H} {cl sl : Nat} (h : q_To Γ i LF (pc, lo, (0, Γ.1 j) :: st, hp, [], cl, sl)) : q_To Γ i LF (pc, lo, (6, Int.ofNat j) :: st, hp, [], cl, sl) :=
  fun G g1 g2 g3 => g2 _ _ _ _ _ _ _ (h G g1 g2 g3)
theorem q_To.wk {Γ : q_Γ} {i : Nat} {LF : List q_Lf} {pc : Nat} {lo lo' : q_L} {st : List q_V} {hp : q_H} {cl sl : Nat} (hs : ∀ q ∈ lo', q ∈ lo) (h : q_To Γ i LF (pc, lo', st, hp, [], cl, sl)) : q_To Γ i LF (pc, lo, st, hp, [], cl, sl) :=
  fun G g1 g2 g3 => g3 _ _ _ _ _ _ _ hs (h G g1 g2 g3)
def q_cf0 : Nat → List q_V → q_H → q_I → Option (List q_Lf) := fun _ _ _ _ => none
theorem q_cf0_c (Γ : q_Γ) : q_Cn Γ q_cf0 := fun _ _ _ _ _ h => (by cases (show (none : Option (List q_Lf)) = some _ from h))
noncomputable def q_cf1 (x : Nat) (ar : List q_V) (hp : q_H) (lfs : List q_Lf) : Nat → List q_V → q_H → q_I → Option (List q_Lf) := fun x' ar' hp' _ => @ite _ (x' = x ∧ ar' = ar ∧ hp' = hp) (Classical.propDecidable _) (some lfs) none
theorem q_cf1_c {Γ : q_Γ} {x : Nat} {ar : List q_V} {hp : q_H} {lfs : List q_Lf} (h : q_Ok Γ x ar hp lfs) : q_Cn Γ (q_cf1 x ar hp lfs) := by
  intro x' ar' hp' iv' lfs' h' hx ho
  unfold q_cf1 at h'
  split at h'
  · rename_i h9
    obtain ⟨rfl, rfl, rfl⟩ := h9
    cases q_so h'
    exact h
  · cases h'
theorem q_cf1_e {x : Nat} {ar : List q_V} {hp : q_H} {lfs : List q_Lf} {iv : q_I} : q_cf1 x ar hp lfs x ar hp iv = some lfs := by
  unfold q_cf1
  rw [if_pos ⟨rfl, rfl, rfl⟩]
-- heaps as functions
theorem q_gt_s {A : Type} (d : Nat) (t : q_T A (d + 1)) (i : Nat) : q_get (d + 1) t i = if i % 2 = 1 then q_get d t.2 (i / 2) else q_get d t.1 (i / 2) := by
  rw [q_get_s]
  rcases q_beq1 i with ⟨b1, h1⟩ | ⟨b1, h1⟩ <;> rw [b1] <;> simp only [cond_true, cond_false]
  · rw [if_pos h1]
  · rw [if_neg (by omega)]
noncomputable def q_bld {A : Type} (d : Nat) : (Nat → A) → q_T A d :=
  Nat.rec (motive := fun d => (Nat → A) → q_T A d) (fun f => f 0) (fun _ ih f => (ih (fun i => f (2 * i)), ih (fun i => f (2 * i + 1)))) d
theorem q_gb {A : Type} : ∀ (d : Nat) (f : Nat → A) (i : Nat), i < 2 ^ d → q_get d (q_bld d f) i = f i := by
  intro d
  induction d with
  | zero =>
    intro f i hi
    have e : i = 0 := by simp at hi; omega
    subst e; rfl
  | succ d ih =>
    intro f i hi
    have hi2 : i / 2 < 2 ^ d := by rw [Nat.pow_succ] at hi; omega
    rw [q_gt_s]
    split
    · show q_get d (q_bld d (fun i => f (2 * i + 1))) (i / 2) = _
      rw [ih _ _ hi2]; congr 1; omega
    · show q_get d (q_bld d (fun i => f (2 * i))) (i / 2) = _
      rw [ih _ _ hi2]; congr 1; omega
theorem q_sbt {A : Type} : ∀ (d : Nat) (f : Nat → A) (i : Nat) (v : A), i < 2 ^ d → q_set d (q_bld d f) i v = q_bld d (fun j => if j = i then v else f j) := by
  intro d
  induction d with
  | zero =>
    intro f i v hi
    have e : i = 0 := by simp at hi; omega
    subst e
    show v = if 0 = 0 then v else f 0
    rw [if_pos rfl]
  | succ d ih =>
    intro f i v hi
    have hi2 : i / 2 < 2 ^ d := by rw [Nat.pow_succ] at hi; omega
    rw [q_set_s]
    show _ = (q_bld d (fun j => if 2 * j = i then v else f (2 * j)), q_bld d (fun j => if 2 * j + 1 = i then v else f (2 * j + 1)))
    rcases q_beq1 i with ⟨b1, h1⟩ | ⟨b1, h1⟩ <;> rw [b1] <;> simp only [cond_true, cond_false]
    · show (q_bld d (fun j => f (2 * j)), q_set d (q_bld d (fun j => f (2 * j + 1))) (i / 2) v) = _
      rw [ih _ _ _ hi2]
      congr 1
      · congr 1; funext j; rw [if_neg (by omega)]
      · congr 1; funext j
        by_cases e : j = i / 2
        · rw [if_pos e, if_pos (by omega)]
        · rw [if_neg e, if_neg (by omega)]
    · show (q_set d (q_bld d (fun j => f (2 * j))) (i / 2) v, q_bld d (fun j => f (2 * j + 1))) = _
      rw [ih _ _ _ hi2]
      congr 1
      · congr 1; funext j
        by_cases e : j = i / 2
        · rw [if_pos e, if_pos (by omega)]
        · rw [if_neg e, if_neg (by omega)]
      · congr 1; funext j; rw [if_neg (by omega)]
abbrev q_F := Nat → Nat → Int
/-- a field: (0, _) an int, (1, _) a long, (2, r) the object r for good -/
abbrev q_Ds := Nat × Int
/-- an object or array: kind, class or length, fields or (of rows of references) elements -/
abbrev q_Ly := Nat × Nat × List q_Ds
def q_fv1 (d : q_Ds) (v : Int) : q_V := (d.1, bif Nat.beq d.1 2 then d.2 else v)
def q_fvs (f : Nat → Int) : List q_Ds → Nat → List q_V
  | [], _ => []
  | d :: r, j => q_fv1 d (f j) :: q_fvs f r (j + 1)
theorem q_fvs_g (f : Nat → Int) : ∀ (ds : List q_Ds) (j y : Nat) (d : q_Ds), ds[y]? = some d → (q_fvs f ds j)[y]? = some (q_fv1 d (f (j + y)))
  | [], j, y, d, h => by cases y <;> cases h
  | x :: r, j, 0, d, h => by cases h; rfl
  | x :: r, j, y + 1, d, h => by
    have := q_fvs_g f r (j + 1) y d h
    show (q_fvs f r (j + 1))[y]? = _
    rw [this, show j + 1 + y = j + (y + 1) by omega]
theorem q_fvs_l (f : Nat → Int) : ∀ (ds : List q_Ds) (j : Nat), (q_fvs f ds j).length = ds.length
  | [], _ => rfl
  | x :: r, j => by show (q_fvs f r (j + 1)).length + 1 = r.length + 1; rw [q_fvs_l f r]
theorem q_fvs_c {f g : Nat → Int} : ∀ (ds : List q_Ds) (j : Nat), (∀ k, j ≤ k → f k = g k) → q_fvs f ds j = q_fvs g ds j
  | [], _, _ => rfl
  | x :: r, j, h => by
    show q_fv1 x (f j) :: q_fvs f r (j + 1) = q_fv1 x (g j) :: q_fvs g r (j + 1)
    rw [h j (Nat.le_refl _), q_fvs_c r (j + 1) (fun k hk => h k (by omega))]
theorem q_fvs_s (f : Nat → Int) : ∀ (ds : List q_Ds) (j y : Nat) (d : q_Ds) (v : Int), ds[y]? = some d → Nat.beq d.1 2 = false → (q_fvs f ds j).set y (d.1, v) = q_fvs (fun k => if k = j + y then v else f k) ds j
  | [], j, y, d, v, h, _ => by cases y <;> cases h
  | x :: r, j, 0, d, v, h, hd => by
    cases h
    show (x.1, v) :: q_fvs f r (j + 1) = q_fv1 x (if j = j + 0 then v else f j) :: q_fvs _ r (j + 1)
    rw [if_pos (show j = j + 0 from rfl)]
    unfold q_fv1
    rw [hd]
    congr 1
    exact q_fvs_c r (j + 1) (fun k hk => by rw [if_neg (by omega)])
  | x :: r, j, y + 1, d, v, h, hd => by
    have ih := q_fvs_s f r (j + 1) y d v h hd
    show q_fv1 x (f j) :: (q_fvs f r (j + 1)).set y (d.1, v) = q_fv1 x (if j = j + (y + 1) then v else f j) :: q_fvs _ r (j + 1)
    rw [if_neg (by omega), ih]
    congr 1
    exact q_fvs_c r (j + 1) (fun k hk => by rw [show j + 1 + y = j + (y + 1) by omega])
/-- the kind of what a row of a kind holds -/
def q_ek (k : Nat) : Nat := match k with
  | 3 => 1
  | 4 => 5
  | _ => 0
noncomputable def q_cel (y : q_Ly) (f : Nat → Int) : q_Ce := bif Nat.beq y.1 0 then (0, y.2.1, q_fvs f y.2.2 0, q_zT) else bif Nat.beq y.1 5 then (5, y.2.1, [], q_bld 11 (fun j => (2, ((y.2.2[j]?).getD (0, 0)).2))) else (y.1, y.2.1, [], q_bld 11 (fun j => (q_ek y.1, f j)))
noncomputable def q_hp (K : Nat → q_Ly) (n : Nat) (h : q_F) : q_H := (n, q_bld 8 (fun k => q_cel (K k) (h k)))
def q_ud (h : q_F) (k j : Nat) (v : Int) : q_F := fun k' j' => if k' = k ∧ j' = j then v else h k' j'
theorem q_ud_s (h : q_F) (k j : Nat) (v : Int) : q_ud h k j v k j = v := by unfold q_ud; rw [if_pos ⟨rfl, rfl⟩]
theorem q_ud_n {h : q_F} {k j : Nat} {v : Int} {k' j' : Nat} (hn : ¬ (k' = k ∧ j' = j)) : q_ud h k j v k' j' = h k' j' := by unfold q_ud; rw [if_neg hn]
theorem q_hp_at {K : Nat → q_Ly} {n : Nat} {h : q_F} {k : Nat} (hk : k < n) (hn : n ≤ 256) : q_at (q_hp K n h) (2, Int.ofNat k) = some (q_cel (K k) (h k)) := by
  unfold q_at q_hp
  have e1 : (bif Nat.beq 2 2 then Nat.ble (Nat.succ k) n else false) = true := by
    show Nat.ble (Nat.succ k) n = true
    exact Nat.ble_eq_true_of_le hk
  show q_if (bif Nat.beq 2 2 then Nat.ble (Nat.succ k) n else false) (some (q_get 8 (q_bld 8 (fun k => q_cel (K k) (h k))) k)) = _
  rw [e1, q_gb 8 _ k (by omega)]; rfl
theorem q_hp_put {K : Nat → q_Ly} {n : Nat} {h : q_F} {k j : Nat} {v : Int} (hk : k < n) (hn : n ≤ 256) {e : q_Ce} (he : e = q_cel (K k) (fun j' => if j' = j then v else h k j')) : q_put (q_hp K n h) k e = q_hp K n (q_ud h k j v) := by
  unfold q_put q_hp
  show (n, q_set 8 (q_bld 8 (fun k => q_cel (K k) (h k))) k e) = _
  rw [q_sbt 8 _ k e (by omega)]
  congr 1; congr 1; funext k'
  by_cases c : k' = k
  · subst c
    rw [if_pos rfl, he]
    congr 1; funext j'
    unfold q_ud
    by_cases c2 : j' = j
    · rw [if_pos c2, if_pos ⟨rfl, c2⟩]
    · rw [if_neg c2, if_neg (fun h => c2 h.2)]
  · rw [if_neg c]
    congr 1; funext j'
    unfold q_ud
    rw [if_neg (fun h => c h.1)]
end -- [20.to]
section -- [21.rows]
/-! Part 21: the rules, one for an instruction. The body of the step is printed by a program out of part 06a. -/
noncomputable def q_stB (mt : Nat → q_MI) (df : Nat → List q_V) (cf : Nat → List q_V → q_H → q_I → Option (List q_Lf)) (sL : Nat) (mi : q_MI) (pc : Nat) (lo : q_L) (st : List q_V) (hp : q_H) (iv : q_I) (cl sl : Nat) (ins : Instr) (len x y : Nat) (v : Int) : q_O :=
  match ins with
  | .aload_n _ => q_oLoad q_isN x (Nat.add pc len) lo st hp iv cl sl
  | .aload _ => q_oLoad q_isN x (Nat.add pc len) lo st hp iv cl sl
  | .iload_n _ => q_oLoad q_isK x (Nat.add pc len) lo st hp iv cl sl
  | .iload _ => q_oLoad q_isK x (Nat.add pc len) lo st hp iv cl sl
  | .lload_n _ => q_oLoad q_isJ x (Nat.add pc len) lo st hp iv cl sl
  | .lload _ => q_oLoad q_isJ x (Nat.add pc len) lo st hp iv cl sl
  | .fload_n _ => q_oLoad (Nat.beq 4) x (Nat.add pc len) lo st hp iv cl sl
  | .fload _ => q_oLoad (Nat.beq 4) x (Nat.add pc len) lo st hp iv cl sl
  | .dload_n _ => q_oLoad (Nat.beq 5) x (Nat.add pc len) lo st hp iv cl sl
  | .dload _ => q_oLoad (Nat.beq 5) x (Nat.add pc len) lo st hp iv cl sl
  | .astore_n _ => q_oStore q_isN false x (Nat.add pc len) lo st hp iv cl sl
  | .astore _ => q_oStore q_isN false x (Nat.add pc len) lo st hp iv cl sl
  | .istore_n _ => q_oStore q_isI false x (Nat.add pc len) lo st hp iv cl sl
  | .istore _ => q_oStore q_isI false x (Nat.add pc len) lo st hp iv cl sl
  | .lstore_n _ => q_oStore q_isJ true x (Nat.add pc len) lo st hp iv cl sl
  | .lstore _ => q_oStore q_isJ true x (Nat.add pc len) lo st hp iv cl sl
  | .fstore_n _ => q_oStore (Nat.beq 4) false x (Nat.add pc len) lo st hp iv cl sl
  | .fstore _ => q_oStore (Nat.beq 4) false x (Nat.add pc len) lo st hp iv cl sl
  | .dstore_n _ => q_oStore (Nat.beq 5) true x (Nat.add pc len) lo st hp iv cl sl
  | .dstore _ => q_oStore (Nat.beq 5) true x (Nat.add pc len) lo st hp iv cl sl
  | .iconst n => q_one (0, n) (Nat.add pc len) lo st hp iv cl sl
  | .bipush n => q_one (0, n) (Nat.add pc len) lo st hp iv cl sl
  | .sipush n => q_one (0, n) (Nat.add pc len) lo st hp iv cl sl
  | .lconst _ => q_one (1, v) (Nat.add pc len) lo st hp iv cl sl
  | .fconst _ => q_one (4, v) (Nat.add pc len) lo st hp iv cl sl
  | .dconst _ => q_one (5, v) (Nat.add pc len) lo st hp iv cl sl
  | .ldc _ => q_one (bif Nat.beq y 0 then 0 else 9, v) (Nat.add pc len) lo st hp iv cl sl
  | .ldc_w _ => bif Nat.beq y 0 then none else q_one (9, v) (Nat.add pc len) lo st hp iv cl sl
  | .ldc2_w _ => q_one (bif Nat.beq y 0 then 1 else 5, v) (Nat.add pc len) lo st hp iv cl sl
  | .aconst_null => q_one (3, 0) (Nat.add pc len) lo st hp iv cl sl
  | .dup => q_oDup (Nat.add pc len) lo st hp iv cl sl
  | .dup2 => q_oDup2 (Nat.add pc len) lo st hp iv cl sl
  | .pop => q_oPop (Nat.add pc len) lo st hp iv cl sl
  | .pop2 => q_oPop2 (Nat.add pc len) lo st hp iv cl sl
  | .iadd => q_oBin 0 (fun a b => q_w32 (Int.add a b)) (Nat.add pc len) lo st hp iv cl sl
  | .isub => q_oBin 0 (fun a b => q_w32 (Int.sub a b)) (Nat.add pc len) lo st hp iv cl sl
  | .imul => q_oBin 0 (fun a b => q_w32 (Int.mul a b)) (Nat.add pc len) lo st hp iv cl sl
  | .idiv => q_oDiv 0 (fun a b => (Int32.ofInt a / Int32.ofInt b).toInt) q_w32 (Nat.add pc len) lo st hp iv cl sl
  | .irem => q_oDiv 0 (fun a b => (Int32.ofInt a - Int32.ofInt a / Int32.ofInt b * Int32.ofInt b).toInt) q_w32 (Nat.add pc len) lo st hp iv cl sl
  | .iand => q_oAnd (Nat.add pc len) lo st hp iv cl sl
  | .ior => q_oAny (fun a b => (Int32.ofInt a ||| Int32.ofInt b).toInt) (Nat.add pc len) lo st hp iv cl sl
  | .ishl => q_oAny (fun a b => (Int32.ofInt a <<< (Int32.ofInt b &&& 31)).toInt) (Nat.add pc len) lo st hp iv cl sl
  | .ishr => q_oAny (fun a b => (Int32.ofInt a >>> (Int32.ofInt b &&& 31)).toInt) (Nat.add pc len) lo st hp iv cl sl
  | .iushr => q_oAny (fun a b => ((Int32.ofInt a).toUInt32 >>> ((Int32.ofInt b).toUInt32 &&& Int32.toUInt32 31)).toInt32.toInt) (Nat.add pc len) lo st hp iv cl sl
  | .ineg => q_oNeg (Nat.add pc len) lo st hp iv cl sl
  | .ladd => q_oBin 1 (fun a b => q_w64 (Int.add a b)) (Nat.add pc len) lo st hp iv cl sl
  | .lsub => q_oBin 1 (fun a b => q_w64 (Int.sub a b)) (Nat.add pc len) lo st hp iv cl sl
  | .lmul => q_oBin 1 (fun a b => q_w64 (Int.mul a b)) (Nat.add pc len) lo st hp iv cl sl
  | .ldiv => q_oDiv 1 (fun a b => (Int64.ofInt a / Int64.ofInt b).toInt) q_w64 (Nat.add pc len) lo st hp iv cl sl
  | .lcmp => q_oLcmp (Nat.add pc len) lo st hp iv cl sl
  | .i2l => q_oI2l (Nat.add pc len) lo st hp iv cl sl
  | .l2i => q_oL2i (Nat.add pc len) lo st hp iv cl sl
  | .i2b => q_oUn 0 0 (fun a => ((Int32.ofInt a).toInt8.toInt32).toInt) (Nat.add pc len) lo st hp iv cl sl
  | .i2f => q_oUn 0 4 (fun a => Int.ofNat (FP.i2f (Int32.ofInt a)).toNat) (Nat.add pc len) lo st hp iv cl sl
  | .i2d => q_oUn 0 5 (fun a => Int.ofNat (FP.i2d (Int32.ofInt a)).toNat) (Nat.add pc len) lo st hp iv cl sl
  | .l2d => q_oUn 1 5 (fun a => Int.ofNat (FP.l2d (Int64.ofInt a)).toNat) (Nat.add pc len) lo st hp iv cl sl
  | .fneg => q_oUn 4 4 (fun a => Int.ofNat (FP.fneg (UInt32.ofNat a.toNat)).toNat) (Nat.add pc len) lo st hp iv cl sl
  | .fsub => q_oF2 FP.fsub (Nat.add pc len) lo st hp iv cl sl
  | .fdiv => q_oF2 FP.fdiv (Nat.add pc len) lo st hp iv cl sl
  | .dadd => q_oD2 FP.dadd (Nat.add pc len) lo st hp iv cl sl
  | .ddiv => q_oD2 FP.ddiv (Nat.add pc len) lo st hp iv cl sl
  | .fcmp o => q_oFc o (Nat.add pc len) lo st hp iv cl sl
  | .f2d => q_oF2d (Nat.add pc len) lo st hp iv cl sl
  | .dcmp o => q_oDc o (Nat.add pc len) lo st hp iv cl sl
  | .goto _ => q_nx x lo st hp iv cl sl
  | .ifCond c _ => q_oIf c x (Nat.add pc len) lo st hp iv cl sl
  | .if_icmp c _ => q_oIc c x (Nat.add pc len) lo st hp iv cl sl
  | .ifnull _ => q_oIfn x (Nat.add pc len) lo st hp iv cl sl
  | .tableswitch d l h o => q_oSw d l h o pc lo st hp iv cl sl
  | .iinc _ n => q_oInc x n (Nat.add pc len) lo st hp iv cl sl
  | .getfield _ => q_oGet x y (Nat.add pc len) lo st hp iv cl sl
  | .putfield _ => q_oPut x y v.toNat (Nat.add pc len) lo st hp iv cl sl
  | .getstatic _ => q_one (9, v) (Nat.add pc len) lo st hp iv cl sl
  | .arraylength => q_oLen sL (Nat.add pc len) lo st hp iv cl sl
  | .iaload => q_oAld 1 sL (Nat.add pc len) lo st hp iv cl sl
  | .baload => q_oAld 2 sL (Nat.add pc len) lo st hp iv cl sl
  | .laload => q_oAld 3 sL (Nat.add pc len) lo st hp iv cl sl
  | .daload => q_oAld 4 sL (Nat.add pc len) lo st hp iv cl sl
  | .aaload => q_oAld 5 sL (Nat.add pc len) lo st hp iv cl sl
  | .iastore => q_oAst 1 (Nat.add pc len) lo st hp iv cl sl
  | .bastore => q_oAst 2 (Nat.add pc len) lo st hp iv cl sl
  | .lastore => q_oAst 3 (Nat.add pc len) lo st hp iv cl sl
  | .dastore => q_oAst 4 (Nat.add pc len) lo st hp iv cl sl
  | .aastore => q_oAsr 6 (Nat.add pc len) lo st hp iv cl sl
  | .new _ => bif Nat.beq y 0 then q_oNew x (df x) mi.2.2.1.2.2.1 mi.2.2.1.2.2.2 (Nat.add pc len) lo st hp iv cl sl else q_oThr x mi st hp iv cl sl
  | .newarray _ => q_oNwa x (y, 0) mi.2.2.1.2.2.1 mi.2.2.1.2.2.2 (Nat.add pc len) lo st hp iv cl sl
  | .anewarray _ => q_oNwa 5 (3, 0) mi.2.2.1.2.2.1 mi.2.2.1.2.2.2 (Nat.add pc len) lo st hp iv cl sl
  | .invokevirtual _ => bif Nat.beq y 1 then q_oSl mi.2.2.1.1 mi.2.2.1.2.1 mi.2.2.1.2.2.1 mi.2.2.1.2.2.2 (Nat.add pc len) lo st hp iv cl sl else bif Nat.beq y 2 then q_oSc mi.2.2.1.1 mi.2.2.1.2.1 mi.2.2.1.2.2.1 mi.2.2.1.2.2.2 (Nat.add pc len) lo st hp iv cl sl else q_oCall cf mi (mt x) x y pc lo st hp iv cl sl
  | .invokestatic _ => bif Nat.beq y 10 then q_oMJ mi.2.2.1.1 mi.2.2.1.2.1 mi.2.2.1.2.2.1 mi.2.2.1.2.2.2 (Nat.add pc len) lo st hp iv cl sl else bif Nat.beq y 11 then q_oAJ mi.2.2.1.1 mi.2.2.1.2.1 mi.2.2.1.2.2.1 mi.2.2.1.2.2.2 (Nat.add pc len) lo st hp iv cl sl else bif Nat.beq y 12 then q_oMF mi.2.2.1.1 mi.2.2.1.2.1 mi.2.2.1.2.2.1 mi.2.2.1.2.2.2 (Nat.add pc len) lo st hp iv cl sl else bif Nat.beq y 6 then q_oM2 true mi.2.2.1.1 mi.2.2.1.2.1 mi.2.2.1.2.2.1 mi.2.2.1.2.2.2 (Nat.add pc len) lo st hp iv cl sl else bif Nat.beq y 7 then q_oM2 false mi.2.2.1.1 mi.2.2.1.2.1 mi.2.2.1.2.2.1 mi.2.2.1.2.2.2 (Nat.add pc len) lo st hp iv cl sl else bif Nat.beq y 8 then q_oAbs mi.2.2.1.1 mi.2.2.1.2.1 mi.2.2.1.2.2.1 mi.2.2.1.2.2.2 (Nat.add pc len) lo st hp iv cl sl else q_oCall cf mi (mt x) x y pc lo st hp iv cl sl
  | .invokespecial _ => bif Nat.beq y 5 then q_oObj mi.2.2.1.1 mi.2.2.1.2.1 (Nat.add pc len) lo st hp iv cl sl else q_oCall cf mi (mt x) x y pc lo st hp iv cl sl
  | .ireturn => bif Nat.beq mi.2.1.2.2.2 1 then q_ret 1 q_isI false mi st hp iv cl sl else q_ret 2 (Nat.beq 0) true mi st hp iv cl sl
  | .lreturn => q_ret 3 q_isJ false mi st hp iv cl sl
  | .freturn => q_ret 4 (Nat.beq 4) false mi st hp iv cl sl
  | .dreturn => q_ret 5 (Nat.beq 5) false mi st hp iv cl sl
  | .areturn => q_ret 6 (fun t => bif Nat.beq t 2 then true else bif Nat.beq t 3 then true else Nat.beq t 9) false mi st hp iv cl sl
  | .return_ => q_ret0 mi st hp iv cl sl
  | _ => none
theorem q_stB_e (mt : Nat → q_MI) (df : Nat → List q_V) (cf : Nat → List q_V → q_H → q_I → Option (List q_Lf)) (sL : Nat) (mi : q_MI) (pc : Nat) (lo : q_L) (st : List q_V) (hp : q_H) (iv : q_I) (cl sl : Nat) :
    q_step mt df cf sL mi (pc, lo, st, hp, iv, cl, sl) = q_if (Nat.ble (Nat.succ pc) mi.1.1) (q_stB mt df cf sL mi pc lo st hp iv cl sl (mi.1.2 pc).1 (mi.1.2 pc).2.1 (mi.1.2 pc).2.2.1 (mi.1.2 pc).2.2.2.1 (mi.1.2 pc).2.2.2.2) := rfl
def q_cat (i pc : Nat) (ins : Instr) (len x y : Nat) (v : Int) : Prop := Nat.ble (Nat.succ pc) (q_mt i).1.1 = true ∧ (q_mt i).1.2 pc = (ins, len, x, y, v)
theorem q_stp_c {i pc : Nat} {ins : Instr} {len x y : Nat} {v : Int} (he : q_cat i pc ins len x y v) (cf : Nat → List q_V → q_H → q_I → Option (List q_Lf)) (sL : Nat) (lo : q_L) (st : List q_V) (hp : q_H) (iv : q_I) (cl sl : Nat) :
    q_step q_mt q_df cf sL (q_mt i) (pc, lo, st, hp, iv, cl, sl) = q_stB q_mt q_df cf sL (q_mt i) pc lo st hp iv cl sl ins len x y v := by
  rw [q_stB_e, he.1, he.2]; rfl
section q_rows
variable {Γ : q_Γ} {K : Nat → q_Ly} {n i : Nat} {P : Nat → q_V → q_F → Prop}
/-- from c on the method i ends (kind of the end, answer, heap) as P says -/
def q_R (Γ : q_Γ) (K : Nat → q_Ly) (n i : Nat) (P : Nat → q_V → q_F → Prop) (c : q_C) : Prop := ∃ t v h, P t v h ∧ q_To Γ i [(t, v, q_hp K n h, [])] c
/-- the method x, called with ar in the heap h, ends as P says -/
def q_M (Γ : q_Γ) (K : Nat → q_Ly) (n x : Nat) (ar : List q_V) (h : q_F) (P : Nat → q_V → q_F → Prop) : Prop := ∃ t v h', P t v h' ∧ q_Ok Γ x ar (q_hp K n h) [(t, v, q_hp K n h', [])]
theorem q_R.st {c c' : q_C} (h : q_step q_mt q_df q_cf0 Γ.2.2.2.1 (q_mt i) c = some ([c'], [])) (k : q_R Γ K n i P c') : q_R Γ K n i P c := by
  obtain ⟨t, v, h', hP, hT⟩ := k
  exact ⟨t, v, h', hP, q_To.st (q_cf0_c Γ) h (fun c'' hc => by cases List.mem_singleton.mp hc; exact hT) (fun lf hl => by cases hl)⟩
theorem q_R.imp {c : q_C} {P' : Nat → q_V → q_F → Prop} (hP : ∀ t v h, P t v h → P' t v h) (k : q_R Γ K n i P c) : q_R Γ K n i P' c := by
  obtain ⟨t, v, h', h1, hT⟩ := k
  exact ⟨t, v, h', hP _ _ _ h1, hT⟩
theorem q_M.imp {x : Nat} {ar : List q_V} {h : q_F} {P' : Nat → q_V → q_F → Prop} (hP : ∀ t v h, P t v h → P' t v h) (k : q_M Γ K n x ar h P) : q_M Γ K n x ar h P' := by
  obtain ⟨t, v, h', h1, hT⟩ := k
  exact ⟨t, v, h', hP _ _ _ h1, hT⟩
variable {pc nx len x y : Nat} {v : Int} {lo lo' : q_L} {st : List q_V} {hp : q_H} {cl sl : Nat}
theorem q_ieq_t {a b : Int} (h : a = b) : q_ieq a b = true := by
  subst h
  rcases q_cmp_s a a with ⟨e, h1⟩ | ⟨e, h1⟩ | ⟨e, h1⟩
  · omega
  · unfold q_ieq; rw [e]; rfl
  · omega
theorem q_ieq_f {a b : Int} (h : a ≠ b) : q_ieq a b = false := by
  cases h1 : q_ieq a b with
  | false => rfl
  | true => exact absurd (q_ieq_i h1) h
theorem q_ile_t {a b : Int} (h : a ≤ b) : q_ile a b = true := by
  cases h1 : q_ile a b with
  | true => rfl
  | false => have := q_ile_n h1; omega
theorem q_ile_f {a b : Int} (h : b < a) : q_ile a b = false := by
  cases h1 : q_ile a b with
  | false => rfl
  | true => have := q_ile_i h1; omega
/-- the step of a state whose code is known -/
theorem q_R.sB {ins : Instr} {c' : q_C} (he : q_cat i pc ins len x y v) (h : q_stB q_mt q_df q_cf0 Γ.2.2.2.1 (q_mt i) pc lo st hp [] cl sl ins len x y v = some ([c'], [])) (k : q_R Γ K n i P c') : q_R Γ K n i P (pc, lo, st, hp, [], cl, sl) :=
  k.st ((q_stp_c he _ _ _ _ _ _ _ _).trans h)
theorem r_iload_n {kk : Fin 4} {z : Int} (he : q_cat i pc (.iload_n kk) len x y v) (hl : q_lk x lo = some (0, z)) (hn : Nat.add pc len = nx) (k : q_R Γ K n i P (nx, lo, (0, z) :: st, hp, [], cl, sl)) : q_R Γ K n i P (pc, lo, st, hp, [], cl, sl) := by
  subst hn
  exact q_R.sB he (by
    show q_oLoad q_isK x _ lo st hp [] cl sl = _
    unfold q_oLoad
    rw [hl]; rfl) k
theorem r_iload {kk : Nat} {z : Int} (he : q_cat i pc (.iload kk) len x y v) (hl : q_lk x lo = some (0, z)) (hn : Nat.add pc len = nx) (k : q_R Γ K n i P (nx, lo, (0, z) :: st, hp, [], cl, sl)) : q_R Γ K n i P (pc, lo, st, hp, [], cl, sl) := by
  subst hn
  exact q_R.sB he (by
    show q_oLoad q_isK x _ lo st hp [] cl sl = _
    unfold q_oLoad
    rw [hl]; rfl) k
theorem r_lload_n {kk : Fin 4} {z : Int} (he : q_cat i pc (.lload_n kk) len x y v) (hl : q_lk x lo = some (1, z)) (hn : Nat.add pc len = nx) (k : q_R Γ K n i P (nx, lo, (1, z) :: st, hp, [], cl, sl)) : q_R Γ K n i P (pc, lo, st, hp, [], cl, sl) := by
  subst hn
  exact q_R.sB he (by
    show q_oLoad q_isJ x _ lo st hp [] cl sl = _
    unfold q_oLoad
    rw [hl]; rfl) k
theorem r_lload {kk : Nat} {z : Int} (he : q_cat i pc (.lload kk) len x y v) (hl : q_lk x lo = some (1, z)) (hn : Nat.add pc len = nx) (k : q_R Γ K n i P (nx, lo, (1, z) :: st, hp, [], cl, sl)) : q_R Γ K n i P (pc, lo, st, hp, [], cl, sl) := by
  subst hn
  exact q_R.sB he (by
    show q_oLoad q_isJ x _ lo st hp [] cl sl = _
    unfold q_oLoad
    rw [hl]; rfl) k
theorem r_dload_n {kk : Fin 4} {z : Int} (he : q_cat i pc (.dload_n kk) len x y v) (hl : q_lk x lo = some (5, z)) (hn : Nat.add pc len = nx) (k : q_R Γ K n i P (nx, lo, (5, z) :: st, hp, [], cl, sl)) : q_R Γ K n i P (pc, lo, st, hp, [], cl, sl) := by
  subst hn
  exact q_R.sB he (by
    show q_oLoad (Nat.beq 5) x _ lo st hp [] cl sl = _
    unfold q_oLoad
    rw [hl]; rfl) k
theorem r_dload {kk : Nat} {z : Int} (he : q_cat i pc (.dload kk) len x y v) (hl : q_lk x lo = some (5, z)) (hn : Nat.add pc len = nx) (k : q_R Γ K n i P (nx, lo, (5, z) :: st, hp, [], cl, sl)) : q_R Γ K n i P (pc, lo, st, hp, [], cl, sl) := by
  subst hn
  exact q_R.sB he (by
    show q_oLoad (Nat.beq 5) x _ lo st hp [] cl sl = _
    unfold q_oLoad
    rw [hl]; rfl) k
theorem r_fload_n {kk : Fin 4} {z : Int} (he : q_cat i pc (.fload_n kk) len x y v) (hl : q_lk x lo = some (4, z)) (hn : Nat.add pc len = nx) (k : q_R Γ K n i P (nx, lo, (4, z) :: st, hp, [], cl, sl)) : q_R Γ K n i P (pc, lo, st, hp, [], cl, sl) := by
  subst hn
  exact q_R.sB he (by
    show q_oLoad (Nat.beq 4) x _ lo st hp [] cl sl = _
    unfold q_oLoad
    rw [hl]; rfl) k
theorem r_fload {kk : Nat} {z : Int} (he : q_cat i pc (.fload kk) len x y v) (hl : q_lk x lo = some (4, z)) (hn : Nat.add pc len = nx) (k : q_R Γ K n i P (nx, lo, (4, z) :: st, hp, [], cl, sl)) : q_R Γ K n i P (pc, lo, st, hp, [], cl, sl) := by
  subst hn
  exact q_R.sB he (by
    show q_oLoad (Nat.beq 4) x _ lo st hp [] cl sl = _
    unfold q_oLoad
    rw [hl]; rfl) k
theorem r_aload_n {kk : Fin 4} {z : Int} (he : q_cat i pc (.aload_n kk) len x y v) (hl : q_lk x lo = some (2, z)) (hn : Nat.add pc len = nx) (k : q_R Γ K n i P (nx, lo, (2, z) :: st, hp, [], cl, sl)) : q_R Γ K n i P (pc, lo, st, hp, [], cl, sl) := by
  subst hn
  exact q_R.sB he (by
    show q_oLoad q_isN x _ lo st hp [] cl sl = _
    unfold q_oLoad
    rw [hl]; rfl) k
theorem r_aload {kk : Nat} {z : Int} (he : q_cat i pc (.aload kk) len x y v) (hl : q_lk x lo = some (2, z)) (hn : Nat.add pc len = nx) (k : q_R Γ K n i P (nx, lo, (2, z) :: st, hp, [], cl, sl)) : q_R Γ K n i P (pc, lo, st, hp, [], cl, sl) := by
  subst hn
  exact q_R.sB he (by
    show q_oLoad q_isN x _ lo st hp [] cl sl = _
    unfold q_oLoad
    rw [hl]; rfl) k
theorem r_aload9 {kk : Fin 4} {z : Int} (he : q_cat i pc (.aload_n kk) len x y v) (hl : q_lk x lo = some (9, z)) (hn : Nat.add pc len = nx) (k : q_R Γ K n i P (nx, lo, (9, z) :: st, hp, [], cl, sl)) : q_R Γ K n i P (pc, lo, st, hp, [], cl, sl) := by
  subst hn
  exact q_R.sB he (by
    show q_oLoad q_isN x _ lo st hp [] cl sl = _
    unfold q_oLoad
    rw [hl]; rfl) k
theorem r_istore_n {kk : Fin 4} {z : Int} (he : q_cat i pc (.istore_n kk) len x y v) (hs : q_sto x false (0, z) lo = lo') (hlen : Nat.ble (q_len lo') 32 = true) (hn : Nat.add pc len = nx) (k : q_R Γ K n i P (nx, lo', st, hp, [], cl, sl)) : q_R Γ K n i P (pc, lo, (0, z) :: st, hp, [], cl, sl) := by
  subst hn
  exact q_R.sB he (by
    show q_oStore q_isI false x _ lo (_ :: st) hp [] cl sl = _
    unfold q_oStore
    show q_if _ (q_if _ (q_nx _ (q_sto x false (0, z) lo) st hp [] cl sl)) = _
    rw [hs, hlen]; rfl) k
theorem r_istore {kk : Nat} {z : Int} (he : q_cat i pc (.istore kk) len x y v) (hs : q_sto x false (0, z) lo = lo') (hlen : Nat.ble (q_len lo') 32 = true) (hn : Nat.add pc len = nx) (k : q_R Γ K n i P (nx, lo', st, hp, [], cl, sl)) : q_R Γ K n i P (pc, lo, (0, z) :: st, hp, [], cl, sl) := by
  subst hn
  exact q_R.sB he (by
    show q_oStore q_isI false x _ lo (_ :: st) hp [] cl sl = _
    unfold q_oStore
    show q_if _ (q_if _ (q_nx _ (q_sto x false (0, z) lo) st hp [] cl sl)) = _
    rw [hs, hlen]; rfl) k
theorem r_lstore_n {kk : Fin 4} {z : Int} (he : q_cat i pc (.lstore_n kk) len x y v) (hs : q_sto x true (1, z) lo = lo') (hlen : Nat.ble (q_len lo') 32 = true) (hn : Nat.add pc len = nx) (k : q_R Γ K n i P (nx, lo', st, hp, [], cl, sl)) : q_R Γ K n i P (pc, lo, (1, z) :: st, hp, [], cl, sl) := by
  subst hn
  exact q_R.sB he (by
    show q_oStore q_isJ true x _ lo (_ :: st) hp [] cl sl = _
    unfold q_oStore
    show q_if _ (q_if _ (q_nx _ (q_sto x true (1, z) lo) st hp [] cl sl)) = _
    rw [hs, hlen]; rfl) k
theorem r_lstore {kk : Nat} {z : Int} (he : q_cat i pc (.lstore kk) len x y v) (hs : q_sto x true (1, z) lo = lo') (hlen : Nat.ble (q_len lo') 32 = true) (hn : Nat.add pc len = nx) (k : q_R Γ K n i P (nx, lo', st, hp, [], cl, sl)) : q_R Γ K n i P (pc, lo, (1, z) :: st, hp, [], cl, sl) := by
  subst hn
  exact q_R.sB he (by
    show q_oStore q_isJ true x _ lo (_ :: st) hp [] cl sl = _
    unfold q_oStore
    show q_if _ (q_if _ (q_nx _ (q_sto x true (1, z) lo) st hp [] cl sl)) = _
    rw [hs, hlen]; rfl) k
theorem r_dstore_n {kk : Fin 4} {z : Int} (he : q_cat i pc (.dstore_n kk) len x y v) (hs : q_sto x true (5, z) lo = lo') (hlen : Nat.ble (q_len lo') 32 = true) (hn : Nat.add pc len = nx) (k : q_R Γ K n i P (nx, lo', st, hp, [], cl, sl)) : q_R Γ K n i P (pc, lo, (5, z) :: st, hp, [], cl, sl) := by
  subst hn
  exact q_R.sB he (by
    show q_oStore (Nat.beq 5) true x _ lo (_ :: st) hp [] cl sl = _
    unfold q_oStore
    show q_if _ (q_if _ (q_nx _ (q_sto x true (5, z) lo) st hp [] cl sl)) = _
    rw [hs, hlen]; rfl) k
theorem r_dstore {kk : Nat} {z : Int} (he : q_cat i pc (.dstore kk) len x y v) (hs : q_sto x true (5, z) lo = lo') (hlen : Nat.ble (q_len lo') 32 = true) (hn : Nat.add pc len = nx) (k : q_R Γ K n i P (nx, lo', st, hp, [], cl, sl)) : q_R Γ K n i P (pc, lo, (5, z) :: st, hp, [], cl, sl) := by
  subst hn
  exact q_R.sB he (by
    show q_oStore (Nat.beq 5) true x _ lo (_ :: st) hp [] cl sl = _
    unfold q_oStore
    show q_if _ (q_if _ (q_nx _ (q_sto x true (5, z) lo) st hp [] cl sl)) = _
    rw [hs, hlen]; rfl) k
theorem r_fstore_n {kk : Fin 4} {z : Int} (he : q_cat i pc (.fstore_n kk) len x y v) (hs : q_sto x false (4, z) lo = lo') (hlen : Nat.ble (q_len lo') 32 = true) (hn : Nat.add pc len = nx) (k : q_R Γ K n i P (nx, lo', st, hp, [], cl, sl)) : q_R Γ K n i P (pc, lo, (4, z) :: st, hp, [], cl, sl) := by
  subst hn
  exact q_R.sB he (by
    show q_oStore (Nat.beq 4) false x _ lo (_ :: st) hp [] cl sl = _
    unfold q_oStore
    show q_if _ (q_if _ (q_nx _ (q_sto x false (4, z) lo) st hp [] cl sl)) = _
    rw [hs, hlen]; rfl) k
theorem r_fstore {kk : Nat} {z : Int} (he : q_cat i pc (.fstore kk) len x y v) (hs : q_sto x false (4, z) lo = lo') (hlen : Nat.ble (q_len lo') 32 = true) (hn : Nat.add pc len = nx) (k : q_R Γ K n i P (nx, lo', st, hp, [], cl, sl)) : q_R Γ K n i P (pc, lo, (4, z) :: st, hp, [], cl, sl) := by
  subst hn
  exact q_R.sB he (by
    show q_oStore (Nat.beq 4) false x _ lo (_ :: st) hp [] cl sl = _
    unfold q_oStore
    show q_if _ (q_if _ (q_nx _ (q_sto x false (4, z) lo) st hp [] cl sl)) = _
    rw [hs, hlen]; rfl) k
theorem r_astore_n {kk : Fin 4} {z : Int} (he : q_cat i pc (.astore_n kk) len x y v) (hs : q_sto x false (2, z) lo = lo') (hlen : Nat.ble (q_len lo') 32 = true) (hn : Nat.add pc len = nx) (k : q_R Γ K n i P (nx, lo', st, hp, [], cl, sl)) : q_R Γ K n i P (pc, lo, (2, z) :: st, hp, [], cl, sl) := by
  subst hn
  exact q_R.sB he (by
    show q_oStore q_isN false x _ lo (_ :: st) hp [] cl sl = _
    unfold q_oStore
    show q_if _ (q_if _ (q_nx _ (q_sto x false (2, z) lo) st hp [] cl sl)) = _
    rw [hs, hlen]; rfl) k
theorem r_astore {kk : Nat} {z : Int} (he : q_cat i pc (.astore kk) len x y v) (hs : q_sto x false (2, z) lo = lo') (hlen : Nat.ble (q_len lo') 32 = true) (hn : Nat.add pc len = nx) (k : q_R Γ K n i P (nx, lo', st, hp, [], cl, sl)) : q_R Γ K n i P (pc, lo, (2, z) :: st, hp, [], cl, sl) := by
  subst hn
  exact q_R.sB he (by
    show q_oStore q_isN false x _ lo (_ :: st) hp [] cl sl = _
    unfold q_oStore
    show q_if _ (q_if _ (q_nx _ (q_sto x false (2, z) lo) st hp [] cl sl)) = _
    rw [hs, hlen]; rfl) k
theorem r_iconst {nn : Int} (he : q_cat i pc (.iconst nn) len x y v) (hn : Nat.add pc len = nx) (k : q_R Γ K n i P (nx, lo, (0, nn) :: st, hp, [], cl, sl)) : q_R Γ K n i P (pc, lo, st, hp, [], cl, sl) := by
  subst hn
  exact q_R.sB he rfl k
theorem r_bipush {nn : Int} (he : q_cat i pc (.bipush nn) len x y v) (hn : Nat.add pc len = nx) (k : q_R Γ K n i P (nx, lo, (0, nn) :: st, hp, [], cl, sl)) : q_R Γ K n i P (pc, lo, st, hp, [], cl, sl) := by
  subst hn
  exact q_R.sB he rfl k
theorem r_sipush {nn : Int} (he : q_cat i pc (.sipush nn) len x y v) (hn : Nat.add pc len = nx) (k : q_R Γ K n i P (nx, lo, (0, nn) :: st, hp, [], cl, sl)) : q_R Γ K n i P (pc, lo, st, hp, [], cl, sl) := by
  subst hn
  exact q_R.sB he rfl k
theorem r_lconst {nn : Fin 2} (he : q_cat i pc (.lconst nn) len x y v) (hn : Nat.add pc len = nx) (k : q_R Γ K n i P (nx, lo, (1, v) :: st, hp, [], cl, sl)) : q_R Γ K n i P (pc, lo, st, hp, [], cl, sl) := by
  subst hn
  exact q_R.sB he rfl k
theorem r_ldc {nn : Nat} (he : q_cat i pc (.ldc nn) len x y v) (hy : y = 0) (hn : Nat.add pc len = nx) (k : q_R Γ K n i P (nx, lo, (0, v) :: st, hp, [], cl, sl)) : q_R Γ K n i P (pc, lo, st, hp, [], cl, sl) := by
  subst hn
  exact q_R.sB he (by subst hy; rfl) k
theorem r_ldc2 {nn : Nat} (he : q_cat i pc (.ldc2_w nn) len x y v) (hy : y = 0) (hn : Nat.add pc len = nx) (k : q_R Γ K n i P (nx, lo, (1, v) :: st, hp, [], cl, sl)) : q_R Γ K n i P (pc, lo, st, hp, [], cl, sl) := by
  subst hn
  exact q_R.sB he (by subst hy; rfl) k
theorem r_dup {q : q_V} (he : q_cat i pc (.dup) len x y v) (h2 : q_is2 q.1 = false) (hn : Nat.add pc len = nx) (k : q_R Γ K n i P (nx, lo, q :: q :: st, hp, [], cl, sl)) : q_R Γ K n i P (pc, lo, q :: st, hp, [], cl, sl) := by
  subst hn
  exact q_R.sB he (by
    show (bif q_is2 q.1 then none else q_nx _ lo (q :: q :: st) hp [] cl sl) = _
    rw [h2]; rfl) k
theorem r_dup2w {q : q_V} (he : q_cat i pc (.dup2) len x y v) (h2 : q_is2 q.1 = true) (hn : Nat.add pc len = nx) (k : q_R Γ K n i P (nx, lo, q :: q :: st, hp, [], cl, sl)) : q_R Γ K n i P (pc, lo, q :: st, hp, [], cl, sl) := by
  subst hn
  exact q_R.sB he (by
    show (bif q_is2 q.1 then q_nx _ lo (q :: q :: st) hp [] cl sl else _) = _
    rw [h2]; rfl) k
theorem r_dup2 {q r : q_V} (he : q_cat i pc (.dup2) len x y v) (h1 : q_is2 q.1 = false) (h2 : q_is2 r.1 = false) (hn : Nat.add pc len = nx) (k : q_R Γ K n i P (nx, lo, q :: r :: q :: r :: st, hp, [], cl, sl)) : q_R Γ K n i P (pc, lo, q :: r :: st, hp, [], cl, sl) := by
  subst hn
  exact q_R.sB he (by
    show (bif q_is2 q.1 then _ else (bif q_is2 r.1 then none else q_nx _ lo (q :: r :: q :: r :: st) hp [] cl sl)) = _
    rw [h1, h2]; rfl) k
theorem r_pop {q : q_V} (he : q_cat i pc (.pop) len x y v) (h2 : q_is2 q.1 = false) (hn : Nat.add pc len = nx) (k : q_R Γ K n i P (nx, lo, st, hp, [], cl, sl)) : q_R Γ K n i P (pc, lo, q :: st, hp, [], cl, sl) := by
  subst hn
  exact q_R.sB he (by
    show (bif q_is2 q.1 then none else q_nx _ lo st hp [] cl sl) = _
    rw [h2]; rfl) k
theorem r_iadd {a b r : Int} (he : q_cat i pc (.iadd) len x y v) (hr : q_w32 (a + b) = r) (hn : Nat.add pc len = nx) (k : q_R Γ K n i P (nx, lo, (0, r) :: st, hp, [], cl, sl)) : q_R Γ K n i P (pc, lo, (0, b) :: (0, a) :: st, hp, [], cl, sl) := by
  subst hn
  exact q_R.sB he (by rw [← hr]; rfl) k
theorem r_isub {a b r : Int} (he : q_cat i pc (.isub) len x y v) (hr : q_w32 (a - b) = r) (hn : Nat.add pc len = nx) (k : q_R Γ K n i P (nx, lo, (0, r) :: st, hp, [], cl, sl)) : q_R Γ K n i P (pc, lo, (0, b) :: (0, a) :: st, hp, [], cl, sl) := by
  subst hn
  exact q_R.sB he (by rw [← hr]; rfl) k
theorem r_imul {a b r : Int} (he : q_cat i pc (.imul) len x y v) (hr : q_w32 (a * b) = r) (hn : Nat.add pc len = nx) (k : q_R Γ K n i P (nx, lo, (0, r) :: st, hp, [], cl, sl)) : q_R Γ K n i P (pc, lo, (0, b) :: (0, a) :: st, hp, [], cl, sl) := by
  subst hn
  exact q_R.sB he (by rw [← hr]; rfl) k
theorem r_ladd {a b r : Int} (he : q_cat i pc (.ladd) len x y v) (hr : q_w64 (a + b) = r) (hn : Nat.add pc len = nx) (k : q_R Γ K n i P (nx, lo, (1, r) :: st, hp, [], cl, sl)) : q_R Γ K n i P (pc, lo, (1, b) :: (1, a) :: st, hp, [], cl, sl) := by
  subst hn
  exact q_R.sB he (by rw [← hr]; rfl) k
theorem r_lsub {a b r : Int} (he : q_cat i pc (.lsub) len x y v) (hr : q_w64 (a - b) = r) (hn : Nat.add pc len = nx) (k : q_R Γ K n i P (nx, lo, (1, r) :: st, hp, [], cl, sl)) : q_R Γ K n i P (pc, lo, (1, b) :: (1, a) :: st, hp, [], cl, sl) := by
  subst hn
  exact q_R.sB he (by rw [← hr]; rfl) k
theorem r_lmul {a b r : Int} (he : q_cat i pc (.lmul) len x y v) (hr : q_w64 (a * b) = r) (hn : Nat.add pc len = nx) (k : q_R Γ K n i P (nx, lo, (1, r) :: st, hp, [], cl, sl)) : q_R Γ K n i P (pc, lo, (1, b) :: (1, a) :: st, hp, [], cl, sl) := by
  subst hn
  exact q_R.sB he (by rw [← hr]; rfl) k
theorem r_idiv {a b r : Int} (he : q_cat i pc (.idiv) len x y v) (h0 : q_w32 b ≠ 0) (hr : (Int32.ofInt a / Int32.ofInt b).toInt = r) (hn : Nat.add pc len = nx) (k : q_R Γ K n i P (nx, lo, (0, r) :: st, hp, [], cl, sl)) : q_R Γ K n i P (pc, lo, (0, b) :: (0, a) :: st, hp, [], cl, sl) := by
  subst hn
  exact q_R.sB he (by
    show q_if (bif q_ieq (q_w32 b) 0 then false else true) (q_nx _ lo _ hp [] cl sl) = _
    rw [q_ieq_f h0, ← hr]; rfl) k
theorem r_irem {a b r : Int} (he : q_cat i pc (.irem) len x y v) (h0 : q_w32 b ≠ 0) (hr : (Int32.ofInt a - Int32.ofInt a / Int32.ofInt b * Int32.ofInt b).toInt = r) (hn : Nat.add pc len = nx) (k : q_R Γ K n i P (nx, lo, (0, r) :: st, hp, [], cl, sl)) : q_R Γ K n i P (pc, lo, (0, b) :: (0, a) :: st, hp, [], cl, sl) := by
  subst hn
  exact q_R.sB he (by
    show q_if (bif q_ieq (q_w32 b) 0 then false else true) (q_nx _ lo _ hp [] cl sl) = _
    rw [q_ieq_f h0, ← hr]; rfl) k
theorem r_ldiv {a b r : Int} (he : q_cat i pc (.ldiv) len x y v) (h0 : q_w64 b ≠ 0) (hr : (Int64.ofInt a / Int64.ofInt b).toInt = r) (hn : Nat.add pc len = nx) (k : q_R Γ K n i P (nx, lo, (1, r) :: st, hp, [], cl, sl)) : q_R Γ K n i P (pc, lo, (1, b) :: (1, a) :: st, hp, [], cl, sl) := by
  subst hn
  exact q_R.sB he (by
    show q_if (bif q_ieq (q_w64 b) 0 then false else true) (q_nx _ lo _ hp [] cl sl) = _
    rw [q_ieq_f h0, ← hr]; rfl) k
theorem r_ior {a b r : Int} (he : q_cat i pc (.ior) len x y v) (hr : (Int32.ofInt a ||| Int32.ofInt b).toInt = r) (hn : Nat.add pc len = nx) (k : q_R Γ K n i P (nx, lo, (0, r) :: st, hp, [], cl, sl)) : q_R Γ K n i P (pc, lo, (0, b) :: (0, a) :: st, hp, [], cl, sl) := by
  subst hn
  exact q_R.sB he (by rw [← hr]; rfl) k
theorem r_ishl {a b r : Int} (he : q_cat i pc (.ishl) len x y v) (hr : (Int32.ofInt a <<< (Int32.ofInt b &&& 31)).toInt = r) (hn : Nat.add pc len = nx) (k : q_R Γ K n i P (nx, lo, (0, r) :: st, hp, [], cl, sl)) : q_R Γ K n i P (pc, lo, (0, b) :: (0, a) :: st, hp, [], cl, sl) := by
  subst hn
  exact q_R.sB he (by rw [← hr]; rfl) k
theorem r_ishr {a b r : Int} (he : q_cat i pc (.ishr) len x y v) (hr : (Int32.ofInt a >>> (Int32.ofInt b &&& 31)).toInt = r) (hn : Nat.add pc len = nx) (k : q_R Γ K n i P (nx, lo, (0, r) :: st, hp, [], cl, sl)) : q_R Γ K n i P (pc, lo, (0, b) :: (0, a) :: st, hp, [], cl, sl) := by
  subst hn
  exact q_R.sB he (by rw [← hr]; rfl) k
theorem r_iushr {a b r : Int} (he : q_cat i pc (.iushr) len x y v) (hr : ((Int32.ofInt a).toUInt32 >>> ((Int32.ofInt b).toUInt32 &&& Int32.toUInt32 31)).toInt32.toInt = r) (hn : Nat.add pc len = nx) (k : q_R Γ K n i P (nx, lo, (0, r) :: st, hp, [], cl, sl)) : q_R Γ K n i P (pc, lo, (0, b) :: (0, a) :: st, hp, [], cl, sl) := by
  subst hn
  exact q_R.sB he (by rw [← hr]; rfl) k
theorem r_iand {a b r : Int} (he : q_cat i pc (.iand) len x y v) (hr : (Int32.ofInt a &&& Int32.ofInt b).toInt = r) (hn : Nat.add pc len = nx) (k : q_R Γ K n i P (nx, lo, (0, r) :: st, hp, [], cl, sl)) : q_R Γ K n i P (pc, lo, (0, b) :: (0, a) :: st, hp, [], cl, sl) := by
  subst hn
  exact q_R.sB he (by rw [← hr]; rfl) k
theorem r_ineg {a r : Int} (he : q_cat i pc (.ineg) len x y v) (hr : (-(Int32.ofInt a)).toInt = r) (hn : Nat.add pc len = nx) (k : q_R Γ K n i P (nx, lo, (0, r) :: st, hp, [], cl, sl)) : q_R Γ K n i P (pc, lo, (0, a) :: st, hp, [], cl, sl) := by
  subst hn
  exact q_R.sB he (by rw [← hr]; rfl) k
theorem r_i2l {a r : Int} (he : q_cat i pc (.i2l) len x y v) (hr : q_w32 a = r) (hn : Nat.add pc len = nx) (k : q_R Γ K n i P (nx, lo, (1, r) :: st, hp, [], cl, sl)) : q_R Γ K n i P (pc, lo, (0, a) :: st, hp, [], cl, sl) := by
  subst hn
  exact q_R.sB he (by rw [← hr]; rfl) k
theorem r_l2i {a r : Int} (he : q_cat i pc (.l2i) len x y v) (hr : q_w32 a = r) (hn : Nat.add pc len = nx) (k : q_R Γ K n i P (nx, lo, (0, r) :: st, hp, [], cl, sl)) : q_R Γ K n i P (pc, lo, (1, a) :: st, hp, [], cl, sl) := by
  subst hn
  exact q_R.sB he (by rw [← hr]; rfl) k
theorem r_i2b {a r : Int} (he : q_cat i pc (.i2b) len x y v) (hr : ((Int32.ofInt a).toInt8.toInt32).toInt = r) (hn : Nat.add pc len = nx) (k : q_R Γ K n i P (nx, lo, (0, r) :: st, hp, [], cl, sl)) : q_R Γ K n i P (pc, lo, (0, a) :: st, hp, [], cl, sl) := by
  subst hn
  exact q_R.sB he (by rw [← hr]; rfl) k
theorem r_i2f {a r : Int} (he : q_cat i pc (.i2f) len x y v) (hr : Int.ofNat (FP.i2f (Int32.ofInt a)).toNat = r) (hn : Nat.add pc len = nx) (k : q_R Γ K n i P (nx, lo, (4, r) :: st, hp, [], cl, sl)) : q_R Γ K n i P (pc, lo, (0, a) :: st, hp, [], cl, sl) := by
  subst hn
  exact q_R.sB he (by rw [← hr]; rfl) k
theorem r_i2d {a r : Int} (he : q_cat i pc (.i2d) len x y v) (hr : Int.ofNat (FP.i2d (Int32.ofInt a)).toNat = r) (hn : Nat.add pc len = nx) (k : q_R Γ K n i P (nx, lo, (5, r) :: st, hp, [], cl, sl)) : q_R Γ K n i P (pc, lo, (0, a) :: st, hp, [], cl, sl) := by
  subst hn
  exact q_R.sB he (by rw [← hr]; rfl) k
theorem r_l2d {a r : Int} (he : q_cat i pc (.l2d) len x y v) (hr : Int.ofNat (FP.l2d (Int64.ofInt a)).toNat = r) (hn : Nat.add pc len = nx) (k : q_R Γ K n i P (nx, lo, (5, r) :: st, hp, [], cl, sl)) : q_R Γ K n i P (pc, lo, (1, a) :: st, hp, [], cl, sl) := by
  subst hn
  exact q_R.sB he (by rw [← hr]; rfl) k
theorem r_fneg {a r : Int} (he : q_cat i pc (.fneg) len x y v) (hr : Int.ofNat (FP.fneg (UInt32.ofNat a.toNat)).toNat = r) (hn : Nat.add pc len = nx) (k : q_R Γ K n i P (nx, lo, (4, r) :: st, hp, [], cl, sl)) : q_R Γ K n i P (pc, lo, (4, a) :: st, hp, [], cl, sl) := by
  subst hn
  exact q_R.sB he (by rw [← hr]; rfl) k
theorem r_fsub {a b r : Int} (he : q_cat i pc (.fsub) len x y v) (hne : q_n32 (FP.fsub (UInt32.ofNat a.toNat) (UInt32.ofNat b.toNat)) = true) (hr : Int.ofNat (FP.fsub (UInt32.ofNat a.toNat) (UInt32.ofNat b.toNat)).toNat = r) (hn : Nat.add pc len = nx) (k : q_R Γ K n i P (nx, lo, (4, r) :: st, hp, [], cl, sl)) : q_R Γ K n i P (pc, lo, (4, b) :: (4, a) :: st, hp, [], cl, sl) := by
  subst hn
  exact q_R.sB he (by
    rw [← hr]
    show q_if (q_n32 (FP.fsub (UInt32.ofNat a.toNat) (UInt32.ofNat b.toNat))) _ = _
    rw [hne]; rfl) k
theorem r_fdiv {a b r : Int} (he : q_cat i pc (.fdiv) len x y v) (hne : q_n32 (FP.fdiv (UInt32.ofNat a.toNat) (UInt32.ofNat b.toNat)) = true) (hr : Int.ofNat (FP.fdiv (UInt32.ofNat a.toNat) (UInt32.ofNat b.toNat)).toNat = r) (hn : Nat.add pc len = nx) (k : q_R Γ K n i P (nx, lo, (4, r) :: st, hp, [], cl, sl)) : q_R Γ K n i P (pc, lo, (4, b) :: (4, a) :: st, hp, [], cl, sl) := by
  subst hn
  exact q_R.sB he (by
    rw [← hr]
    show q_if (q_n32 (FP.fdiv (UInt32.ofNat a.toNat) (UInt32.ofNat b.toNat))) _ = _
    rw [hne]; rfl) k
theorem r_dadd {a b r : Int} (he : q_cat i pc (.dadd) len x y v) (hne : q_n64 (FP.dadd (UInt64.ofNat a.toNat) (UInt64.ofNat b.toNat)) = true) (hr : Int.ofNat (FP.dadd (UInt64.ofNat a.toNat) (UInt64.ofNat b.toNat)).toNat = r) (hn : Nat.add pc len = nx) (k : q_R Γ K n i P (nx, lo, (5, r) :: st, hp, [], cl, sl)) : q_R Γ K n i P (pc, lo, (5, b) :: (5, a) :: st, hp, [], cl, sl) := by
  subst hn
  exact q_R.sB he (by
    rw [← hr]
    show q_if (q_n64 (FP.dadd (UInt64.ofNat a.toNat) (UInt64.ofNat b.toNat))) _ = _
    rw [hne]; rfl) k
theorem r_ddiv {a b r : Int} (he : q_cat i pc (.ddiv) len x y v) (hne : q_n64 (FP.ddiv (UInt64.ofNat a.toNat) (UInt64.ofNat b.toNat)) = true) (hr : Int.ofNat (FP.ddiv (UInt64.ofNat a.toNat) (UInt64.ofNat b.toNat)).toNat = r) (hn : Nat.add pc len = nx) (k : q_R Γ K n i P (nx, lo, (5, r) :: st, hp, [], cl, sl)) : q_R Γ K n i P (pc, lo, (5, b) :: (5, a) :: st, hp, [], cl, sl) := by
  subst hn
  exact q_R.sB he (by
    rw [← hr]
    show q_if (q_n64 (FP.ddiv (UInt64.ofNat a.toNat) (UInt64.ofNat b.toNat))) _ = _
    rw [hne]; rfl) k
theorem r_f2d {a r : Int} (he : q_cat i pc (.f2d) len x y v) (hne : q_n64 (FP.f2d (UInt32.ofNat a.toNat)) = true) (hr : Int.ofNat (FP.f2d (UInt32.ofNat a.toNat)).toNat = r) (hn : Nat.add pc len = nx) (k : q_R Γ K n i P (nx, lo, (5, r) :: st, hp, [], cl, sl)) : q_R Γ K n i P (pc, lo, (4, a) :: st, hp, [], cl, sl) := by
  subst hn
  exact q_R.sB he (by
    rw [← hr]
    show q_if (q_n64 (FP.f2d (UInt32.ofNat a.toNat))) _ = _
    rw [hne]; rfl) k
theorem r_fcmp {a b r : Int} {o : CmpOp} (he : q_cat i pc (.fcmp o) len x y v) (hr : (Op.cmpValue (FP.fcmp (UInt32.ofNat a.toNat) (UInt32.ofNat b.toNat)) o).toInt = r) (hn : Nat.add pc len = nx) (k : q_R Γ K n i P (nx, lo, (0, r) :: st, hp, [], cl, sl)) : q_R Γ K n i P (pc, lo, (4, b) :: (4, a) :: st, hp, [], cl, sl) := by
  subst hn
  exact q_R.sB he (by rw [← hr]; rfl) k
theorem r_dcmp {a b r : Int} {o : CmpOp} (he : q_cat i pc (.dcmp o) len x y v) (hr : (Op.cmpValue (FP.dcmp (UInt64.ofNat a.toNat) (UInt64.ofNat b.toNat)) o).toInt = r) (hn : Nat.add pc len = nx) (k : q_R Γ K n i P (nx, lo, (0, r) :: st, hp, [], cl, sl)) : q_R Γ K n i P (pc, lo, (5, b) :: (5, a) :: st, hp, [], cl, sl) := by
  subst hn
  exact q_R.sB he (by rw [← hr]; rfl) k
theorem r_fconst {nn : Fin 3} (he : q_cat i pc (.fconst nn) len x y v) (hn : Nat.add pc len = nx) (k : q_R Γ K n i P (nx, lo, (4, v) :: st, hp, [], cl, sl)) : q_R Γ K n i P (pc, lo, st, hp, [], cl, sl) := by
  subst hn
  exact q_R.sB he rfl k
theorem r_dconst {nn : Fin 2} (he : q_cat i pc (.dconst nn) len x y v) (hn : Nat.add pc len = nx) (k : q_R Γ K n i P (nx, lo, (5, v) :: st, hp, [], cl, sl)) : q_R Γ K n i P (pc, lo, st, hp, [], cl, sl) := by
  subst hn
  exact q_R.sB he rfl k
theorem r_anull (he : q_cat i pc (.aconst_null) len x y v) (hn : Nat.add pc len = nx) (k : q_R Γ K n i P (nx, lo, (3, 0) :: st, hp, [], cl, sl)) : q_R Γ K n i P (pc, lo, st, hp, [], cl, sl) := by
  subst hn
  exact q_R.sB he rfl k
theorem r_aloadN {kk : Fin 4} {z : Int} (he : q_cat i pc (.aload_n kk) len x y v) (hl : q_lk x lo = some (10, z)) (hn : Nat.add pc len = nx) (k : q_R Γ K n i P (nx, lo, (10, z) :: st, hp, [], cl, sl)) : q_R Γ K n i P (pc, lo, st, hp, [], cl, sl) := by
  subst hn
  exact q_R.sB he (by
    show q_oLoad q_isN x _ lo st hp [] cl sl = _
    unfold q_oLoad
    rw [hl]; rfl) k
theorem r_astore10_n {kk : Fin 4} {z : Int} (he : q_cat i pc (.astore_n kk) len x y v) (hs : q_sto x false (10, z) lo = lo') (hlen : Nat.ble (q_len lo') 32 = true) (hn : Nat.add pc len = nx) (k : q_R Γ K n i P (nx, lo', st, hp, [], cl, sl)) : q_R Γ K n i P (pc, lo, (10, z) :: st, hp, [], cl, sl) := by
  subst hn
  exact q_R.sB he (by
    show q_oStore q_isN false x _ lo (_ :: st) hp [] cl sl = _
    unfold q_oStore
    show q_if _ (q_if _ (q_nx _ (q_sto x false (10, z) lo) st hp [] cl sl)) = _
    rw [hs, hlen]; rfl) k
theorem r_astore10 {kk : Nat} {z : Int} (he : q_cat i pc (.astore kk) len x y v) (hs : q_sto x false (10, z) lo = lo') (hlen : Nat.ble (q_len lo') 32 = true) (hn : Nat.add pc len = nx) (k : q_R Γ K n i P (nx, lo', st, hp, [], cl, sl)) : q_R Γ K n i P (pc, lo, (10, z) :: st, hp, [], cl, sl) := by
  subst hn
  exact q_R.sB he (by
    show q_oStore q_isN false x _ lo (_ :: st) hp [] cl sl = _
    unfold q_oStore
    show q_if _ (q_if _ (q_nx _ (q_sto x false (10, z) lo) st hp [] cl sl)) = _
    rw [hs, hlen]; rfl) k
theorem r_aload3_n {kk : Fin 4} {z : Int} (he : q_cat i pc (.aload_n kk) len x y v) (hl : q_lk x lo = some (3, z)) (hn : Nat.add pc len = nx) (k : q_R Γ K n i P (nx, lo, (3, z) :: st, hp, [], cl, sl)) : q_R Γ K n i P (pc, lo, st, hp, [], cl, sl) := by
  subst hn
  exact q_R.sB he (by
    show q_oLoad q_isN x _ lo st hp [] cl sl = _
    unfold q_oLoad
    rw [hl]; rfl) k
theorem r_astore3_n {kk : Fin 4} {z : Int} (he : q_cat i pc (.astore_n kk) len x y v) (hs : q_sto x false (3, z) lo = lo') (hlen : Nat.ble (q_len lo') 32 = true) (hn : Nat.add pc len = nx) (k : q_R Γ K n i P (nx, lo', st, hp, [], cl, sl)) : q_R Γ K n i P (pc, lo, (3, z) :: st, hp, [], cl, sl) := by
  subst hn
  exact q_R.sB he (by
    show q_oStore q_isN false x _ lo (_ :: st) hp [] cl sl = _
    unfold q_oStore
    show q_if _ (q_if _ (q_nx _ (q_sto x false (3, z) lo) st hp [] cl sl)) = _
    rw [hs, hlen]; rfl) k
theorem r_astore3 {kk : Nat} {z : Int} (he : q_cat i pc (.astore kk) len x y v) (hs : q_sto x false (3, z) lo = lo') (hlen : Nat.ble (q_len lo') 32 = true) (hn : Nat.add pc len = nx) (k : q_R Γ K n i P (nx, lo', st, hp, [], cl, sl)) : q_R Γ K n i P (pc, lo, (3, z) :: st, hp, [], cl, sl) := by
  subst hn
  exact q_R.sB he (by
    show q_oStore q_isN false x _ lo (_ :: st) hp [] cl sl = _
    unfold q_oStore
    show q_if _ (q_if _ (q_nx _ (q_sto x false (3, z) lo) st hp [] cl sl)) = _
    rw [hs, hlen]; rfl) k
theorem r_aload9w {kk : Nat} {z : Int} (he : q_cat i pc (.aload kk) len x y v) (hl : q_lk x lo = some (9, z)) (hn : Nat.add pc len = nx) (k : q_R Γ K n i P (nx, lo, (9, z) :: st, hp, [], cl, sl)) : q_R Γ K n i P (pc, lo, st, hp, [], cl, sl) := by
  subst hn
  exact q_R.sB he (by
    show q_oLoad q_isN x _ lo st hp [] cl sl = _
    unfold q_oLoad
    rw [hl]; rfl) k
theorem r_gstat {nn : Nat} (he : q_cat i pc (.getstatic nn) len x y v) (hn : Nat.add pc len = nx) (k : q_R Γ K n i P (nx, lo, (9, v) :: st, hp, [], cl, sl)) : q_R Γ K n i P (pc, lo, st, hp, [], cl, sl) := by
  subst hn
  exact q_R.sB he rfl k
theorem r_ldcs {nn : Nat} (he : q_cat i pc (.ldc nn) len x y v) (hy : y = 1) (hn : Nat.add pc len = nx) (k : q_R Γ K n i P (nx, lo, (9, v) :: st, hp, [], cl, sl)) : q_R Γ K n i P (pc, lo, st, hp, [], cl, sl) := by
  subst hn
  exact q_R.sB he (by subst hy; rfl) k
theorem r_ldcsw {nn : Nat} (he : q_cat i pc (.ldc_w nn) len x y v) (hy : y = 1) (hn : Nat.add pc len = nx) (k : q_R Γ K n i P (nx, lo, (9, v) :: st, hp, [], cl, sl)) : q_R Γ K n i P (pc, lo, st, hp, [], cl, sl) := by
  subst hn
  exact q_R.sB he (by subst hy; rfl) k
theorem r_pop2 {q : q_V} (he : q_cat i pc (.pop2) len x y v) (h2 : q_is2 q.1 = true) (hn : Nat.add pc len = nx) (k : q_R Γ K n i P (nx, lo, st, hp, [], cl, sl)) : q_R Γ K n i P (pc, lo, q :: st, hp, [], cl, sl) := by
  subst hn
  exact q_R.sB he (by
    show (bif q_is2 q.1 then q_nx _ lo st hp [] cl sl else none) = _
    rw [h2]; rfl) k
theorem r_ldc2d {nn : Nat} (he : q_cat i pc (.ldc2_w nn) len x y v) (hy : y = 1) (hn : Nat.add pc len = nx) (k : q_R Γ K n i P (nx, lo, (5, v) :: st, hp, [], cl, sl)) : q_R Γ K n i P (pc, lo, st, hp, [], cl, sl) := by
  subst hn
  exact q_R.sB he (by subst hy; rfl) k
theorem r_lcmp {a b : Int} (he : q_cat i pc .lcmp len x y v) (hn : Nat.add pc len = nx)
    (kl : q_w64 a < q_w64 b → q_R Γ K n i P (nx, lo, (0, -1) :: st, hp, [], cl, sl)) (ke : q_w64 a = q_w64 b → q_R Γ K n i P (nx, lo, (0, 0) :: st, hp, [], cl, sl)) (kg : q_w64 b < q_w64 a → q_R Γ K n i P (nx, lo, (0, 1) :: st, hp, [], cl, sl)) : q_R Γ K n i P (pc, lo, (1, b) :: (1, a) :: st, hp, [], cl, sl) := by
  subst hn
  have hs : ∀ r, q_cmp (q_w64 a) (q_w64 b) = r → q_stB q_mt q_df q_cf0 Γ.2.2.2.1 (q_mt i) pc lo ((1, b) :: (1, a) :: st) hp [] cl sl .lcmp len x y v = some ([(Nat.add pc len, lo, (0, Int.sub (Int.ofNat r) 1) :: st, hp, [], cl, sl)], []) := fun r hr => by rw [← hr]; rfl
  rcases q_cmp_s (q_w64 a) (q_w64 b) with ⟨e, h1⟩ | ⟨e, h1⟩ | ⟨e, h1⟩
  · exact q_R.sB he (hs _ e) (kl h1)
  · exact q_R.sB he (hs _ e) (ke h1)
  · exact q_R.sB he (hs _ e) (kg h1)
/-- both ways of a comparison -/
theorem q_c3_i {c : ClassFile.Cond} {a b : Int} {T : Prop} (h0 : a < b → q_tk c 0 = true → T) (h0' : a < b → q_tk c 0 = false → T) (h1 : a = b → q_tk c 1 = true → T) (h1' : a = b → q_tk c 1 = false → T) (h2 : b < a → q_tk c 2 = true → T) (h2' : b < a → q_tk c 2 = false → T) : T := by
  rcases q_cmp_s a b with ⟨-, h⟩ | ⟨-, h⟩ | ⟨-, h⟩
  · cases hc : q_tk c 0
    · exact h0' h hc
    · exact h0 h hc
  · cases hc : q_tk c 1
    · exact h1' h hc
    · exact h1 h hc
  · cases hc : q_tk c 2
    · exact h2' h hc
    · exact h2 h hc
def q_ci (c : ClassFile.Cond) (a b : Int) : Prop := match c with
  | .eq => a = b
  | .ne => a ≠ b
  | .lt => a < b
  | .ge => b ≤ a
  | .gt => b < a
  | .le => a ≤ b
theorem q_tk_c {c : ClassFile.Cond} {a b : Int} {r : Nat} (hr : q_cmp a b = r) : (q_tk c r = true ∧ q_ci c a b) ∨ (q_tk c r = false ∧ ¬ q_ci c a b) := by
  subst hr
  rcases q_cmp_s a b with ⟨e, h⟩ | ⟨e, h⟩ | ⟨e, h⟩ <;> rw [e] <;> cases c <;> first | exact Or.inl ⟨rfl, by unfold q_ci; dsimp only; omega⟩ | exact Or.inr ⟨rfl, by unfold q_ci; dsimp only; omega⟩
theorem r_if {c : ClassFile.Cond} {off : Int} {a : Int} (he : q_cat i pc (.ifCond c off) len x y v) (hn : Nat.add pc len = nx) (kt : q_ci c (q_w32 a) 0 → q_R Γ K n i P (x, lo, st, hp, [], cl, sl)) (kf : ¬ q_ci c (q_w32 a) 0 → q_R Γ K n i P (nx, lo, st, hp, [], cl, sl)) : q_R Γ K n i P (pc, lo, (0, a) :: st, hp, [], cl, sl) := by
  subst hn
  have hs : q_stB q_mt q_df q_cf0 Γ.2.2.2.1 (q_mt i) pc lo ((0, a) :: st) hp [] cl sl (.ifCond c off) len x y v = some ([(bif q_tk c (q_cmp (q_w32 a) 0) then x else Nat.add pc len, lo, st, hp, [], cl, sl)], []) := rfl
  rcases q_tk_c (c := c) (a := q_w32 a) (b := 0) rfl with ⟨e, h⟩ | ⟨e, h⟩ <;> rw [e] at hs
  · exact q_R.sB he hs (kt h)
  · exact q_R.sB he hs (kf h)
theorem r_ic {c : ClassFile.Cond} {off : Int} {a b : Int} (he : q_cat i pc (.if_icmp c off) len x y v) (hn : Nat.add pc len = nx) (kt : q_ci c (q_w32 a) (q_w32 b) → q_R Γ K n i P (x, lo, st, hp, [], cl, sl)) (kf : ¬ q_ci c (q_w32 a) (q_w32 b) → q_R Γ K n i P (nx, lo, st, hp, [], cl, sl)) : q_R Γ K n i P (pc, lo, (0, b) :: (0, a) :: st, hp, [], cl, sl) := by
  subst hn
  have hs : q_stB q_mt q_df q_cf0 Γ.2.2.2.1 (q_mt i) pc lo ((0, b) :: (0, a) :: st) hp [] cl sl (.if_icmp c off) len x y v = some ([(bif q_tk c (q_cmp (q_w32 a) (q_w32 b)) then x else Nat.add pc len, lo, st, hp, [], cl, sl)], []) := rfl
  rcases q_tk_c (c := c) (a := q_w32 a) (b := q_w32 b) rfl with ⟨e, h⟩ | ⟨e, h⟩ <;> rw [e] at hs
  · exact q_R.sB he hs (kt h)
  · exact q_R.sB he hs (kf h)
theorem r_goto {off : Int} (he : q_cat i pc (.goto off) len x y v) (k : q_R Γ K n i P (x, lo, st, hp, [], cl, sl)) : q_R Γ K n i P (pc, lo, st, hp, [], cl, sl) := q_R.sB he rfl k
theorem r_ifnn {off : Int} {z : Int} (he : q_cat i pc (.ifnull off) len x y v) (hn : Nat.add pc len = nx) (k : q_R Γ K n i P (nx, lo, st, hp, [], cl, sl)) : q_R Γ K n i P (pc, lo, (2, z) :: st, hp, [], cl, sl) := by
  subst hn
  exact q_R.sB he rfl k
theorem r_iinc {kk : Nat} {nn z r : Int} (he : q_cat i pc (.iinc kk nn) len x y v) (hl : q_lk x lo = some (0, z)) (hr : q_w32 (z + nn) = r) (hs : q_sto x false (0, r) lo = lo') (hlen : Nat.ble (q_len lo') 32 = true) (hn : Nat.add pc len = nx) (k : q_R Γ K n i P (nx, lo', st, hp, [], cl, sl)) : q_R Γ K n i P (pc, lo, st, hp, [], cl, sl) := by
  subst hn; subst hr
  refine q_R.sB he ?_ k
  show q_oInc x nn (Nat.add pc len) lo st hp [] cl sl = _
  unfold q_oInc
  rw [hl]
  show q_if (Nat.ble (q_len (q_sto x false (0, q_w32 (z + nn)) lo)) 32) (q_nx (Nat.add pc len) (q_sto x false (0, q_w32 (z + nn)) lo) st hp [] cl sl) = _
  rw [hs, hlen]; rfl
variable {h : q_F}
theorem q_conc_nil (a : q_V) : q_conc [] a = a := by
  unfold q_conc
  cases Nat.ble 6 a.1
  · rfl
  · cases Nat.ble a.1 7
    · rfl
    · rfl
theorem r_get {idx kk : Nat} {ds : List q_Ds} {d : q_Ds} (he : q_cat i pc (.getfield idx) len x y v) (hk : kk < n) (hN : n ≤ 256) (hK : K kk = (0, x, ds)) (hd : ds[y]? = some d) (ht : Nat.ble 6 d.1 = false) (hn : Nat.add pc len = nx) (k : q_R Γ K n i P (nx, lo, q_fv1 d (h kk y) :: st, q_hp K n h, [], cl, sl)) : q_R Γ K n i P (pc, lo, (2, Int.ofNat kk) :: st, q_hp K n h, [], cl, sl) := by
  subst hn
  refine q_R.sB he ?_ k
  show q_oGet x y (Nat.add pc len) lo ((2, Int.ofNat kk) :: st) (q_hp K n h) [] cl sl = _
  unfold q_oGet
  show (q_at (q_hp K n h) (2, Int.ofNat kk)).bind _ = _
  rw [q_hp_at hk hN, hK]
  show q_if (bif Nat.beq 0 0 then Nat.beq x x else false) ((q_nth (q_fvs (h kk) ds 0) y).bind _) = _
  rw [Nat.beq_refl x, q_nth_g, q_fvs_g (h kk) ds 0 y d hd, Nat.zero_add]
  show some ([(Nat.add pc len, lo, q_conc [] (q_fv1 d (h kk y)) :: st, q_hp K n h, [], cl, sl)], []) = _
  rw [q_conc_nil]
theorem r_put {idx kk : Nat} {ds : List q_Ds} {d : q_Ds} {w : Int} (he : q_cat i pc (.putfield idx) len x y v) (hk : kk < n) (hN : n ≤ 256) (hK : K kk = (0, x, ds)) (hd : ds[y]? = some d) (hd2 : Nat.beq d.1 2 = false) (hf : q_fit v.toNat (d.1, w) = true) (hn : Nat.add pc len = nx) (k : q_R Γ K n i P (nx, lo, st, q_hp K n (q_ud h kk y w), [], cl, sl)) : q_R Γ K n i P (pc, lo, (d.1, w) :: (2, Int.ofNat kk) :: st, q_hp K n h, [], cl, sl) := by
  subst hn
  refine q_R.sB he ?_ k
  show q_oPut x y v.toNat (Nat.add pc len) lo ((d.1, w) :: (2, Int.ofNat kk) :: st) (q_hp K n h) [] cl sl = _
  unfold q_oPut
  show (q_at (q_hp K n h) (2, Int.ofNat kk)).bind _ = _
  rw [q_hp_at hk hN, hK]
  have hy : y < ds.length := (List.getElem?_eq_some_iff.mp hd).1
  show q_if (bif Nat.beq 0 0 then (bif Nat.beq x x then (bif q_fit v.toNat (d.1, w) then Nat.ble (Nat.succ y) (q_len (q_fvs (h kk) ds 0)) else false) else false) else false) (q_nx (Nat.add pc len) lo st (q_put (q_hp K n h) kk (0, x, q_up (q_fvs (h kk) ds 0) y (d.1, w), q_zT)) [] cl sl) = _
  rw [Nat.beq_refl x, hf, q_len_g, q_fvs_l, Nat.ble_eq_true_of_le (show Nat.succ y ≤ ds.length from hy), q_up_g, q_fvs_s (h kk) ds 0 y d w hd hd2, q_hp_put (h := h) (j := y) (v := w) hk hN]
  · rfl
  · rw [hK, Nat.zero_add]; rfl
/-- the place of an index -/
theorem q_ix2 {z : Int} {N : Nat} (h0 : 0 ≤ z) (h1 : z < N) : (bif q_ile 0 z then Nat.ble (Nat.succ z.toNat) N else false) = true := by
  rw [q_ile_t h0]
  exact Nat.ble_eq_true_of_le (by omega)
theorem q_oAld_h {k9 kk N sL : Nat} {ds : List q_Ds} {j : Int} (hk : kk < n) (hN : n ≤ 256) (hK : K kk = (k9, N, ds)) (hk9 : k9 = 1 ∨ k9 = 2 ∨ k9 = 3 ∨ k9 = 4) (hj0 : 0 ≤ q_w32 j) (hj1 : q_w32 j < N) (hN2 : N ≤ 2048) :
    q_oAld k9 sL nx lo ((0, j) :: (2, Int.ofNat kk) :: st) (q_hp K n h) [] cl sl = some ([(nx, lo, (q_ek k9, h kk (q_w32 j).toNat) :: st, q_hp K n h, [], cl, sl)], []) := by
  unfold q_oAld
  show (q_at (q_hp K n h) (2, Int.ofNat kk)).bind _ = _
  rw [q_hp_at hk hN, hK]
  have hc : q_cel (k9, N, ds) (h kk) = (k9, N, [], q_bld 11 (fun j => (q_ek k9, h kk j))) := by
    rcases hk9 with rfl | rfl | rfl | rfl <;> rfl
  rw [hc]
  show q_if (Nat.beq k9 k9) ((q_enum [] (0, j)).bind _) = _
  rw [Nat.beq_refl]
  show (q_all _ [(q_w32 j, [])]).bind _ = _
  have hq : (q_if (bif q_ile 0 (q_w32 j) then Nat.ble (Nat.succ (q_w32 j).toNat) N else false) (some ((nx, lo, q_conc [] (q_get 11 (q_bld 11 (fun j => (q_ek k9, h kk j))) (q_w32 j).toNat) :: st, q_hp K n h, ([] : q_I), cl, sl) : q_C))) = some ((nx, lo, (q_ek k9, h kk (q_w32 j).toNat) :: st, q_hp K n h, [], cl, sl) : q_C) := by
    rw [q_ix2 hj0 hj1, q_gb 11 _ _ (by omega)]
    rcases hk9 with rfl | rfl | rfl | rfl <;> rfl
  show ((q_if (bif q_ile 0 (q_w32 j) then Nat.ble (Nat.succ (q_w32 j).toNat) N else false) (some ((nx, lo, q_conc [] (q_get 11 (q_bld 11 (fun j => (q_ek k9, h kk j))) (q_w32 j).toNat) :: st, q_hp K n h, ([] : q_I), cl, sl) : q_C))).bind fun b => (some []).bind fun bs => some (b :: bs)).bind _ = _
  rw [hq]; rfl
theorem q_oAst_h {k9 kk N : Nat} {ds : List q_Ds} {j w : Int} (hk : kk < n) (hN : n ≤ 256) (hK : K kk = (k9, N, ds)) (hk9 : k9 = 1 ∨ k9 = 3 ∨ k9 = 4) (hj0 : 0 ≤ q_w32 j) (hj1 : q_w32 j < N) (hN2 : N ≤ 2048) :
    q_oAst k9 nx lo ((q_ek k9, w) :: (0, j) :: (2, Int.ofNat kk) :: st) (q_hp K n h) [] cl sl = some ([(nx, lo, st, q_hp K n (q_ud h kk (q_w32 j).toNat w), [], cl, sl)], []) := by
  unfold q_oAst
  have hkp : q_kp k9 (q_ek k9, w) = some (q_ek k9, w) := by rcases hk9 with rfl | rfl | rfl <;> rfl
  show (q_kp k9 (q_ek k9, w)).bind _ = _
  rw [hkp]
  show (q_at (q_hp K n h) (2, Int.ofNat kk)).bind _ = _
  rw [q_hp_at hk hN, hK]
  have hc : ∀ f, q_cel (k9, N, ds) f = (k9, N, [], q_bld 11 (fun j => (q_ek k9, f j))) := by
    intro f
    rcases hk9 with rfl | rfl | rfl <;> rfl
  rw [hc]
  show q_if (Nat.beq k9 k9) ((q_enum [] (0, j)).bind _) = _
  rw [Nat.beq_refl]
  have hq : (q_if (bif q_ile 0 (q_w32 j) then Nat.ble (Nat.succ (q_w32 j).toNat) N else false) (some ((nx, lo, st, q_put (q_hp K n h) kk (k9, N, [], q_set 11 (q_bld 11 (fun j => (q_ek k9, h kk j))) (q_w32 j).toNat (q_ek k9, w)), ([] : q_I), cl, sl) : q_C))) = some ((nx, lo, st, q_hp K n (q_ud h kk (q_w32 j).toNat w), [], cl, sl) : q_C) := by
    rw [q_ix2 hj0 hj1, q_sbt 11 _ _ _ (by omega), q_hp_put (h := h) (j := (q_w32 j).toNat) (v := w) hk hN]
    · rfl
    · rw [hK, hc]
      congr 4; funext j'
      split <;> rfl
  show ((q_if (bif q_ile 0 (q_w32 j) then Nat.ble (Nat.succ (q_w32 j).toNat) N else false) (some ((nx, lo, st, q_put (q_hp K n h) kk (k9, N, [], q_set 11 (q_bld 11 (fun j => (q_ek k9, h kk j))) (q_w32 j).toNat (q_ek k9, w)), ([] : q_I), cl, sl) : q_C))).bind fun b => (some []).bind fun bs => some (b :: bs)).bind _ = _
  rw [hq]; rfl
theorem r_iald {kk N : Nat} {ds : List q_Ds} {j j' : Int} (he : q_cat i pc .iaload len x y v) (hk : kk < n) (hN : n ≤ 256) (hK : K kk = (1, N, ds)) (hN2 : N ≤ 2048) (hj : q_w32 j = j') (hj0 : 0 ≤ j') (hj1 : j' < N) (hn : Nat.add pc len = nx) (k : q_R Γ K n i P (nx, lo, (0, h kk j'.toNat) :: st, q_hp K n h, [], cl, sl)) : q_R Γ K n i P (pc, lo, (0, j) :: (2, Int.ofNat kk) :: st, q_hp K n h, [], cl, sl) := by
  subst hn; subst hj
  exact q_R.sB he (q_oAld_h hk hN hK (Or.inl rfl) hj0 hj1 hN2) k
theorem r_lald {kk N : Nat} {ds : List q_Ds} {j j' : Int} (he : q_cat i pc .laload len x y v) (hk : kk < n) (hN : n ≤ 256) (hK : K kk = (3, N, ds)) (hN2 : N ≤ 2048) (hj : q_w32 j = j') (hj0 : 0 ≤ j') (hj1 : j' < N) (hn : Nat.add pc len = nx) (k : q_R Γ K n i P (nx, lo, (1, h kk j'.toNat) :: st, q_hp K n h, [], cl, sl)) : q_R Γ K n i P (pc, lo, (0, j) :: (2, Int.ofNat kk) :: st, q_hp K n h, [], cl, sl) := by
  subst hn; subst hj
  exact q_R.sB he (q_oAld_h hk hN hK (Or.inr (Or.inr (Or.inl rfl))) hj0 hj1 hN2) k
theorem r_iast {kk N : Nat} {ds : List q_Ds} {j j' w : Int} (he : q_cat i pc .iastore len x y v) (hk : kk < n) (hN : n ≤ 256) (hK : K kk = (1, N, ds)) (hN2 : N ≤ 2048) (hj : q_w32 j = j') (hj0 : 0 ≤ j') (hj1 : j' < N) (hn : Nat.add pc len = nx) (k : q_R Γ K n i P (nx, lo, st, q_hp K n (q_ud h kk j'.toNat w), [], cl, sl)) : q_R Γ K n i P (pc, lo, (0, w) :: (0, j) :: (2, Int.ofNat kk) :: st, q_hp K n h, [], cl, sl) := by
  subst hn; subst hj
  exact q_R.sB he (q_oAst_h hk hN hK (Or.inl rfl) hj0 hj1 hN2) k
theorem r_last {kk N : Nat} {ds : List q_Ds} {j j' w : Int} (he : q_cat i pc .lastore len x y v) (hk : kk < n) (hN : n ≤ 256) (hK : K kk = (3, N, ds)) (hN2 : N ≤ 2048) (hj : q_w32 j = j') (hj0 : 0 ≤ j') (hj1 : j' < N) (hn : Nat.add pc len = nx) (k : q_R Γ K n i P (nx, lo, st, q_hp K n (q_ud h kk j'.toNat w), [], cl, sl)) : q_R Γ K n i P (pc, lo, (1, w) :: (0, j) :: (2, Int.ofNat kk) :: st, q_hp K n h, [], cl, sl) := by
  subst hn; subst hj
  exact q_R.sB he (q_oAst_h hk hN hK (Or.inr (Or.inl rfl)) hj0 hj1 hN2) k
theorem r_alen {kk N k9 : Nat} {ds : List q_Ds} (he : q_cat i pc .arraylength len x y v) (hk : kk < n) (hN : n ≤ 256) (hK : K kk = (k9, N, ds)) (hk9 : k9 = 1 ∨ k9 = 2 ∨ k9 = 3 ∨ k9 = 4 ∨ k9 = 5) (hn : Nat.add pc len = nx) (k : q_R Γ K n i P (nx, lo, (0, (N : Int)) :: st, q_hp K n h, [], cl, sl)) : q_R Γ K n i P (pc, lo, (2, Int.ofNat kk) :: st, q_hp K n h, [], cl, sl) := by
  subst hn
  refine q_R.sB he ?_ k
  show q_oLen _ (Nat.add pc len) lo ((2, Int.ofNat kk) :: st) (q_hp K n h) [] cl sl = _
  unfold q_oLen
  show (q_at (q_hp K n h) (2, Int.ofNat kk)).bind _ = _
  rw [q_hp_at hk hN, hK]
  rcases hk9 with rfl | rfl | rfl | rfl | rfl <;> rfl
-- the ends
theorem q_R.end {c : q_C} {t : Nat} {w : q_V} (hs : q_step q_mt q_df q_cf0 Γ.2.2.2.1 (q_mt i) c = some ([], [(t, w, q_hp K n h, [])])) (hP : P t w h) : q_R Γ K n i P c :=
  ⟨t, w, h, hP, q_To.st (q_cf0_c Γ) hs (fun c hc => by cases hc) (fun lf hl => hl)⟩
/-- kind of answer, cells and slots of a method -/
def q_mk3 (i r : Nat) (cl sl : Nat) : Prop := (q_mt i).2.1.2.2.2 = r ∧ Nat.ble cl (q_mt i).2.2.1.2.2.1 = true ∧ Nat.ble sl (q_mt i).2.2.1.2.2.2 = true
theorem r_iret {a : Int} (he : q_cat i pc .ireturn len x y v) (hm : q_mk3 i 1 cl sl) (hP : P 1 (0, a) h) : q_R Γ K n i P (pc, lo, [(0, a)], q_hp K n h, [], cl, sl) := by
  refine q_R.end ((q_stp_c he _ _ _ _ _ _ _ _).trans ?_) hP
  show (bif Nat.beq (q_mt i).2.1.2.2.2 1 then q_ret 1 q_isI false (q_mt i) [(0, a)] (q_hp K n h) [] cl sl else _) = _
  rw [hm.1]
  show q_if (bif Nat.beq (q_mt i).2.1.2.2.2 1 then (bif q_isI 0 then (bif Nat.ble cl (q_mt i).2.2.1.2.2.1 then (bif Nat.ble sl (q_mt i).2.2.1.2.2.2 then _ else false) else false) else false) else false) _ = _
  rw [hm.1, hm.2.1, hm.2.2]; rfl
theorem r_zret {a : Int} (he : q_cat i pc .ireturn len x y v) (hm : q_mk3 i 2 cl sl) (h01 : a = 0 ∨ a = 1) (hP : P 1 (0, a) h) : q_R Γ K n i P (pc, lo, [(0, a)], q_hp K n h, [], cl, sl) := by
  refine q_R.end ((q_stp_c he _ _ _ _ _ _ _ _).trans ?_) hP
  show (bif Nat.beq (q_mt i).2.1.2.2.2 1 then _ else q_ret 2 (Nat.beq 0) true (q_mt i) [(0, a)] (q_hp K n h) [] cl sl) = _
  rw [hm.1]
  show q_if (bif Nat.beq (q_mt i).2.1.2.2.2 2 then (bif Nat.beq 0 0 then (bif Nat.ble cl (q_mt i).2.2.1.2.2.1 then (bif Nat.ble sl (q_mt i).2.2.1.2.2.2 then (bif true then (bif q_ieq a 0 then true else q_ieq a 1) else false) else false) else false) else false) else false) _ = _
  rw [hm.1, hm.2.1, hm.2.2]
  rcases h01 with rfl | rfl <;> rfl
theorem r_lret {a : Int} (he : q_cat i pc .lreturn len x y v) (hm : q_mk3 i 3 cl sl) (hP : P 1 (1, a) h) : q_R Γ K n i P (pc, lo, [(1, a)], q_hp K n h, [], cl, sl) := by
  refine q_R.end ((q_stp_c he _ _ _ _ _ _ _ _).trans ?_) hP
  show q_if (bif Nat.beq (q_mt i).2.1.2.2.2 3 then (bif q_isJ 1 then (bif Nat.ble cl (q_mt i).2.2.1.2.2.1 then (bif Nat.ble sl (q_mt i).2.2.1.2.2.2 then _ else false) else false) else false) else false) _ = _
  rw [hm.1, hm.2.1, hm.2.2]; rfl
theorem r_aret {a : Int} (he : q_cat i pc .areturn len x y v) (hm : q_mk3 i 6 cl sl) (hP : P 1 (2, a) h) : q_R Γ K n i P (pc, lo, [(2, a)], q_hp K n h, [], cl, sl) := by
  refine q_R.end ((q_stp_c he _ _ _ _ _ _ _ _).trans ?_) hP
  show q_if (bif Nat.beq (q_mt i).2.1.2.2.2 6 then (bif (bif Nat.beq 2 2 then true else Nat.beq 2 3) then (bif Nat.ble cl (q_mt i).2.2.1.2.2.1 then (bif Nat.ble sl (q_mt i).2.2.1.2.2.2 then _ else false) else false) else false) else false) _ = _
  rw [hm.1, hm.2.1, hm.2.2]; rfl
theorem r_vret (he : q_cat i pc .return_ len x y v) (hm : q_mk3 i 0 cl sl) (hP : P 0 q_z0 h) : q_R Γ K n i P (pc, lo, [], q_hp K n h, [], cl, sl) := by
  refine q_R.end ((q_stp_c he _ _ _ _ _ _ _ _).trans ?_) hP
  show q_if (bif Nat.beq (q_mt i).2.1.2.2.2 0 then (bif Nat.ble cl (q_mt i).2.2.1.2.2.1 then (bif Nat.ble sl (q_mt i).2.2.1.2.2.2 then true else false) else false) else false) _ = _
  rw [hm.1, hm.2.1, hm.2.2]; rfl
noncomputable def q_thm (mi : q_MI) (st : List q_V) (cl sl : Nat) : Bool := bif Nat.ble 6 mi.2.2.1.1 then (bif Nat.ble (Nat.add (q_wid st) 82) mi.2.2.1.2.1 then (bif Nat.ble (Nat.succ cl) mi.2.2.1.2.2.1 then (bif Nat.ble (Nat.add sl 6) mi.2.2.1.2.2.2 then (match mi.2.2.2 with
    | [] => true
    | _ :: _ => false) else false) else false) else false) else false
theorem r_thr {idx : Nat} {E : Nat} (he : q_cat i pc (.new idx) len E (Nat.succ y) v) (hm : q_thm (q_mt i) st cl sl = true) (hP : P (Nat.add E 2) q_z0 h) : q_R Γ K n i P (pc, lo, st, q_hp K n h, [], cl, sl) := by
  refine q_R.end ((q_stp_c he _ _ _ _ _ _ _ _).trans ?_) hP
  show q_if (q_thm (q_mt i) st cl sl) (some ([], [(Nat.add E 2, q_z0, q_hp K n h, [])])) = _
  rw [hm]; rfl
-- calls
/-- what a call asks of the rooms of both methods -/
noncomputable def q_rms (i x cl sl : Nat) (rest : List q_V) : Bool := bif Nat.ble (q_wid rest) 8 then (bif Nat.ble (Nat.succ (q_mt x).2.2.1.1) (q_mt i).2.2.1.1 then (bif Nat.ble (Nat.add (Nat.add (q_mt x).2.1.1 19) (q_mt x).2.2.1.2.1) (q_mt i).2.2.1.2.1 then (bif Nat.ble (Nat.add cl (q_mt x).2.2.1.2.2.1) (q_mt i).2.2.1.2.2.1 then Nat.ble (Nat.add sl (q_mt x).2.2.1.2.2.2) (q_mt i).2.2.1.2.2.2 else false) else false) else false) else false

theorem q_rg1 (z : Int) : -2147483648 ≤ q_w32 z := (q_w32_s z).1
theorem q_rg2 (z : Int) : q_w32 z < 2147483648 := (q_w32_s z).2.1
theorem q_rg3 (z : Int) : -9223372036854775808 ≤ q_w64 z := (q_w64_s z).1
theorem q_rg4 (z : Int) : q_w64 z < 9223372036854775808 := (q_w64_s z).2.1
theorem q_w32w (z : Int) : q_w32 (q_w32 z) = q_w32 z := q_w32_id (q_rg1 z) (q_rg2 z)
theorem r_if_eq {off : Int} {a a' : Int} (he : q_cat i pc (.ifCond .eq off) len x y v) (hn : Nat.add pc len = nx) (ha : q_w32 a = a') (kt : (a' = 0) ∧ -2147483648 ≤ a' ∧ a' < 2147483648 → q_R Γ K n i P (x, lo, st, hp, [], cl, sl)) (kf : (¬ a' = 0) ∧ -2147483648 ≤ a' ∧ a' < 2147483648 → q_R Γ K n i P (nx, lo, st, hp, [], cl, sl)) : q_R Γ K n i P (pc, lo, (0, a) :: st, hp, [], cl, sl) := by
  subst ha
  exact r_if he hn (fun h => kt ⟨h, q_rg1 _, q_rg2 _⟩) (fun h => kf ⟨by first | exact h | exact Decidable.not_not.mp h | (have h : ¬ _ < _ := h; omega) | (have h : ¬ _ ≤ _ := h; omega), q_rg1 _, q_rg2 _⟩)
theorem r_ic_eq {off : Int} {a a' : Int} {b b' : Int} (he : q_cat i pc (.if_icmp .eq off) len x y v) (hn : Nat.add pc len = nx) (ha : q_w32 a = a') (hb : q_w32 b = b') (kt : (a' = b') ∧ -2147483648 ≤ a' ∧ a' < 2147483648 ∧ -2147483648 ≤ b' ∧ b' < 2147483648 → q_R Γ K n i P (x, lo, st, hp, [], cl, sl)) (kf : (¬ a' = b') ∧ -2147483648 ≤ a' ∧ a' < 2147483648 ∧ -2147483648 ≤ b' ∧ b' < 2147483648 → q_R Γ K n i P (nx, lo, st, hp, [], cl, sl)) : q_R Γ K n i P (pc, lo, (0, b) :: (0, a) :: st, hp, [], cl, sl) := by
  subst ha; subst hb
  exact r_ic he hn (fun h => kt ⟨h, q_rg1 _, q_rg2 _, q_rg1 _, q_rg2 _⟩) (fun h => kf ⟨by first | exact h | exact Decidable.not_not.mp h | (have h : ¬ _ < _ := h; omega) | (have h : ¬ _ ≤ _ := h; omega), q_rg1 _, q_rg2 _, q_rg1 _, q_rg2 _⟩)
theorem r_if_ne {off : Int} {a a' : Int} (he : q_cat i pc (.ifCond .ne off) len x y v) (hn : Nat.add pc len = nx) (ha : q_w32 a = a') (kt : (¬ a' = 0) ∧ -2147483648 ≤ a' ∧ a' < 2147483648 → q_R Γ K n i P (x, lo, st, hp, [], cl, sl)) (kf : (a' = 0) ∧ -2147483648 ≤ a' ∧ a' < 2147483648 → q_R Γ K n i P (nx, lo, st, hp, [], cl, sl)) : q_R Γ K n i P (pc, lo, (0, a) :: st, hp, [], cl, sl) := by
  subst ha
  exact r_if he hn (fun h => kt ⟨h, q_rg1 _, q_rg2 _⟩) (fun h => kf ⟨by first | exact h | exact Decidable.not_not.mp h | (have h : ¬ _ < _ := h; omega) | (have h : ¬ _ ≤ _ := h; omega), q_rg1 _, q_rg2 _⟩)
theorem r_ic_ne {off : Int} {a a' : Int} {b b' : Int} (he : q_cat i pc (.if_icmp .ne off) len x y v) (hn : Nat.add pc len = nx) (ha : q_w32 a = a') (hb : q_w32 b = b') (kt : (¬ a' = b') ∧ -2147483648 ≤ a' ∧ a' < 2147483648 ∧ -2147483648 ≤ b' ∧ b' < 2147483648 → q_R Γ K n i P (x, lo, st, hp, [], cl, sl)) (kf : (a' = b') ∧ -2147483648 ≤ a' ∧ a' < 2147483648 ∧ -2147483648 ≤ b' ∧ b' < 2147483648 → q_R Γ K n i P (nx, lo, st, hp, [], cl, sl)) : q_R Γ K n i P (pc, lo, (0, b) :: (0, a) :: st, hp, [], cl, sl) := by
  subst ha; subst hb
  exact r_ic he hn (fun h => kt ⟨h, q_rg1 _, q_rg2 _, q_rg1 _, q_rg2 _⟩) (fun h => kf ⟨by first | exact h | exact Decidable.not_not.mp h | (have h : ¬ _ < _ := h; omega) | (have h : ¬ _ ≤ _ := h; omega), q_rg1 _, q_rg2 _, q_rg1 _, q_rg2 _⟩)
theorem r_if_lt {off : Int} {a a' : Int} (he : q_cat i pc (.ifCond .lt off) len x y v) (hn : Nat.add pc len = nx) (ha : q_w32 a = a') (kt : (a' < 0) ∧ -2147483648 ≤ a' ∧ a' < 2147483648 → q_R Γ K n i P (x, lo, st, hp, [], cl, sl)) (kf : (0 ≤ a') ∧ -2147483648 ≤ a' ∧ a' < 2147483648 → q_R Γ K n i P (nx, lo, st, hp, [], cl, sl)) : q_R Γ K n i P (pc, lo, (0, a) :: st, hp, [], cl, sl) := by
  subst ha
  exact r_if he hn (fun h => kt ⟨h, q_rg1 _, q_rg2 _⟩) (fun h => kf ⟨by first | exact h | exact Decidable.not_not.mp h | (have h : ¬ _ < _ := h; omega) | (have h : ¬ _ ≤ _ := h; omega), q_rg1 _, q_rg2 _⟩)
theorem r_ic_lt {off : Int} {a a' : Int} {b b' : Int} (he : q_cat i pc (.if_icmp .lt off) len x y v) (hn : Nat.add pc len = nx) (ha : q_w32 a = a') (hb : q_w32 b = b') (kt : (a' < b') ∧ -2147483648 ≤ a' ∧ a' < 2147483648 ∧ -2147483648 ≤ b' ∧ b' < 2147483648 → q_R Γ K n i P (x, lo, st, hp, [], cl, sl)) (kf : (b' ≤ a') ∧ -2147483648 ≤ a' ∧ a' < 2147483648 ∧ -2147483648 ≤ b' ∧ b' < 2147483648 → q_R Γ K n i P (nx, lo, st, hp, [], cl, sl)) : q_R Γ K n i P (pc, lo, (0, b) :: (0, a) :: st, hp, [], cl, sl) := by
  subst ha; subst hb
  exact r_ic he hn (fun h => kt ⟨h, q_rg1 _, q_rg2 _, q_rg1 _, q_rg2 _⟩) (fun h => kf ⟨by first | exact h | exact Decidable.not_not.mp h | (have h : ¬ _ < _ := h; omega) | (have h : ¬ _ ≤ _ := h; omega), q_rg1 _, q_rg2 _, q_rg1 _, q_rg2 _⟩)
theorem r_if_ge {off : Int} {a a' : Int} (he : q_cat i pc (.ifCond .ge off) len x y v) (hn : Nat.add pc len = nx) (ha : q_w32 a = a') (kt : (0 ≤ a') ∧ -2147483648 ≤ a' ∧ a' < 2147483648 → q_R Γ K n i P (x, lo, st, hp, [], cl, sl)) (kf : (a' < 0) ∧ -2147483648 ≤ a' ∧ a' < 2147483648 → q_R Γ K n i P (nx, lo, st, hp, [], cl, sl)) : q_R Γ K n i P (pc, lo, (0, a) :: st, hp, [], cl, sl) := by
  subst ha
  exact r_if he hn (fun h => kt ⟨h, q_rg1 _, q_rg2 _⟩) (fun h => kf ⟨by first | exact h | exact Decidable.not_not.mp h | (have h : ¬ _ < _ := h; omega) | (have h : ¬ _ ≤ _ := h; omega), q_rg1 _, q_rg2 _⟩)
theorem r_ic_ge {off : Int} {a a' : Int} {b b' : Int} (he : q_cat i pc (.if_icmp .ge off) len x y v) (hn : Nat.add pc len = nx) (ha : q_w32 a = a') (hb : q_w32 b = b') (kt : (b' ≤ a') ∧ -2147483648 ≤ a' ∧ a' < 2147483648 ∧ -2147483648 ≤ b' ∧ b' < 2147483648 → q_R Γ K n i P (x, lo, st, hp, [], cl, sl)) (kf : (a' < b') ∧ -2147483648 ≤ a' ∧ a' < 2147483648 ∧ -2147483648 ≤ b' ∧ b' < 2147483648 → q_R Γ K n i P (nx, lo, st, hp, [], cl, sl)) : q_R Γ K n i P (pc, lo, (0, b) :: (0, a) :: st, hp, [], cl, sl) := by
  subst ha; subst hb
  exact r_ic he hn (fun h => kt ⟨h, q_rg1 _, q_rg2 _, q_rg1 _, q_rg2 _⟩) (fun h => kf ⟨by first | exact h | exact Decidable.not_not.mp h | (have h : ¬ _ < _ := h; omega) | (have h : ¬ _ ≤ _ := h; omega), q_rg1 _, q_rg2 _, q_rg1 _, q_rg2 _⟩)
theorem r_if_gt {off : Int} {a a' : Int} (he : q_cat i pc (.ifCond .gt off) len x y v) (hn : Nat.add pc len = nx) (ha : q_w32 a = a') (kt : (0 < a') ∧ -2147483648 ≤ a' ∧ a' < 2147483648 → q_R Γ K n i P (x, lo, st, hp, [], cl, sl)) (kf : (a' ≤ 0) ∧ -2147483648 ≤ a' ∧ a' < 2147483648 → q_R Γ K n i P (nx, lo, st, hp, [], cl, sl)) : q_R Γ K n i P (pc, lo, (0, a) :: st, hp, [], cl, sl) := by
  subst ha
  exact r_if he hn (fun h => kt ⟨h, q_rg1 _, q_rg2 _⟩) (fun h => kf ⟨by first | exact h | exact Decidable.not_not.mp h | (have h : ¬ _ < _ := h; omega) | (have h : ¬ _ ≤ _ := h; omega), q_rg1 _, q_rg2 _⟩)
theorem r_ic_gt {off : Int} {a a' : Int} {b b' : Int} (he : q_cat i pc (.if_icmp .gt off) len x y v) (hn : Nat.add pc len = nx) (ha : q_w32 a = a') (hb : q_w32 b = b') (kt : (b' < a') ∧ -2147483648 ≤ a' ∧ a' < 2147483648 ∧ -2147483648 ≤ b' ∧ b' < 2147483648 → q_R Γ K n i P (x, lo, st, hp, [], cl, sl)) (kf : (a' ≤ b') ∧ -2147483648 ≤ a' ∧ a' < 2147483648 ∧ -2147483648 ≤ b' ∧ b' < 2147483648 → q_R Γ K n i P (nx, lo, st, hp, [], cl, sl)) : q_R Γ K n i P (pc, lo, (0, b) :: (0, a) :: st, hp, [], cl, sl) := by
  subst ha; subst hb
  exact r_ic he hn (fun h => kt ⟨h, q_rg1 _, q_rg2 _, q_rg1 _, q_rg2 _⟩) (fun h => kf ⟨by first | exact h | exact Decidable.not_not.mp h | (have h : ¬ _ < _ := h; omega) | (have h : ¬ _ ≤ _ := h; omega), q_rg1 _, q_rg2 _, q_rg1 _, q_rg2 _⟩)
theorem r_if_le {off : Int} {a a' : Int} (he : q_cat i pc (.ifCond .le off) len x y v) (hn : Nat.add pc len = nx) (ha : q_w32 a = a') (kt : (a' ≤ 0) ∧ -2147483648 ≤ a' ∧ a' < 2147483648 → q_R Γ K n i P (x, lo, st, hp, [], cl, sl)) (kf : (0 < a') ∧ -2147483648 ≤ a' ∧ a' < 2147483648 → q_R Γ K n i P (nx, lo, st, hp, [], cl, sl)) : q_R Γ K n i P (pc, lo, (0, a) :: st, hp, [], cl, sl) := by
  subst ha
  exact r_if he hn (fun h => kt ⟨h, q_rg1 _, q_rg2 _⟩) (fun h => kf ⟨by first | exact h | exact Decidable.not_not.mp h | (have h : ¬ _ < _ := h; omega) | (have h : ¬ _ ≤ _ := h; omega), q_rg1 _, q_rg2 _⟩)
theorem r_ic_le {off : Int} {a a' : Int} {b b' : Int} (he : q_cat i pc (.if_icmp .le off) len x y v) (hn : Nat.add pc len = nx) (ha : q_w32 a = a') (hb : q_w32 b = b') (kt : (a' ≤ b') ∧ -2147483648 ≤ a' ∧ a' < 2147483648 ∧ -2147483648 ≤ b' ∧ b' < 2147483648 → q_R Γ K n i P (x, lo, st, hp, [], cl, sl)) (kf : (b' < a') ∧ -2147483648 ≤ a' ∧ a' < 2147483648 ∧ -2147483648 ≤ b' ∧ b' < 2147483648 → q_R Γ K n i P (nx, lo, st, hp, [], cl, sl)) : q_R Γ K n i P (pc, lo, (0, b) :: (0, a) :: st, hp, [], cl, sl) := by
  subst ha; subst hb
  exact r_ic he hn (fun h => kt ⟨h, q_rg1 _, q_rg2 _, q_rg1 _, q_rg2 _⟩) (fun h => kf ⟨by first | exact h | exact Decidable.not_not.mp h | (have h : ¬ _ < _ := h; omega) | (have h : ¬ _ ≤ _ := h; omega), q_rg1 _, q_rg2 _, q_rg1 _, q_rg2 _⟩)
theorem r_geti {idx kk : Nat} {ds : List q_Ds} {d2 : Int} (he : q_cat i pc (.getfield idx) len x y v) (hk : kk < n) (hN : n ≤ 256) (hK : K kk = (0, x, ds)) (hd : ds[y]? = some (0, d2)) (hn : Nat.add pc len = nx) (k : q_R Γ K n i P (nx, lo, (0, h kk y) :: st, q_hp K n h, [], cl, sl)) : q_R Γ K n i P (pc, lo, (2, Int.ofNat kk) :: st, q_hp K n h, [], cl, sl) := r_get he hk hN hK hd rfl hn k
theorem r_getl {idx kk : Nat} {ds : List q_Ds} {d2 : Int} (he : q_cat i pc (.getfield idx) len x y v) (hk : kk < n) (hN : n ≤ 256) (hK : K kk = (0, x, ds)) (hd : ds[y]? = some (1, d2)) (hn : Nat.add pc len = nx) (k : q_R Γ K n i P (nx, lo, (1, h kk y) :: st, q_hp K n h, [], cl, sl)) : q_R Γ K n i P (pc, lo, (2, Int.ofNat kk) :: st, q_hp K n h, [], cl, sl) := r_get he hk hN hK hd rfl hn k
theorem r_getr {idx kk : Nat} {ds : List q_Ds} {d2 : Int} (he : q_cat i pc (.getfield idx) len x y v) (hk : kk < n) (hN : n ≤ 256) (hK : K kk = (0, x, ds)) (hd : ds[y]? = some (2, d2)) (hn : Nat.add pc len = nx) (k : q_R Γ K n i P (nx, lo, (2, d2) :: st, q_hp K n h, [], cl, sl)) : q_R Γ K n i P (pc, lo, (2, Int.ofNat kk) :: st, q_hp K n h, [], cl, sl) := r_get he hk hN hK hd rfl hn k
theorem r_puti {idx kk : Nat} {ds : List q_Ds} {d2 : Int} {w : Int} (he : q_cat i pc (.putfield idx) len x y v) (hk : kk < n) (hN : n ≤ 256) (hK : K kk = (0, x, ds)) (hd : ds[y]? = some (0, d2)) (hf : q_fit v.toNat (0, w) = true) (hn : Nat.add pc len = nx) (k : q_R Γ K n i P (nx, lo, st, q_hp K n (q_ud h kk y w), [], cl, sl)) : q_R Γ K n i P (pc, lo, (0, w) :: (2, Int.ofNat kk) :: st, q_hp K n h, [], cl, sl) := r_put he hk hN hK hd rfl hf hn k
theorem r_putl {idx kk : Nat} {ds : List q_Ds} {d2 : Int} {w : Int} (he : q_cat i pc (.putfield idx) len x y v) (hk : kk < n) (hN : n ≤ 256) (hK : K kk = (0, x, ds)) (hd : ds[y]? = some (1, d2)) (hf : q_fit v.toNat (1, w) = true) (hn : Nat.add pc len = nx) (k : q_R Γ K n i P (nx, lo, st, q_hp K n (q_ud h kk y w), [], cl, sl)) : q_R Γ K n i P (pc, lo, (1, w) :: (2, Int.ofNat kk) :: st, q_hp K n h, [], cl, sl) := r_put he hk hN hK hd rfl hf hn k
theorem q_fit_b {w : Int} (h01 : w = 0 ∨ w = 1) : q_fit 1 (0, w) = true := by rcases h01 with rfl | rfl <;> rfl
theorem r_bald {kk N : Nat} {ds : List q_Ds} {j j' : Int} (he : q_cat i pc .baload len x y v) (hk : kk < n) (hN : n ≤ 256) (hK : K kk = (2, N, ds)) (hN2 : N ≤ 2048) (hj : q_w32 j = j') (hj0 : 0 ≤ j') (hj1 : j' < N) (hn : Nat.add pc len = nx) (k : q_R Γ K n i P (nx, lo, (0, h kk j'.toNat) :: st, q_hp K n h, [], cl, sl)) : q_R Γ K n i P (pc, lo, (0, j) :: (2, Int.ofNat kk) :: st, q_hp K n h, [], cl, sl) := by
  subst hn; subst hj
  exact q_R.sB he (q_oAld_h hk hN hK (Or.inr (Or.inl rfl)) hj0 hj1 hN2) k
theorem r_dald {kk N : Nat} {ds : List q_Ds} {j j' : Int} (he : q_cat i pc .daload len x y v) (hk : kk < n) (hN : n ≤ 256) (hK : K kk = (4, N, ds)) (hN2 : N ≤ 2048) (hj : q_w32 j = j') (hj0 : 0 ≤ j') (hj1 : j' < N) (hn : Nat.add pc len = nx) (k : q_R Γ K n i P (nx, lo, (5, h kk j'.toNat) :: st, q_hp K n h, [], cl, sl)) : q_R Γ K n i P (pc, lo, (0, j) :: (2, Int.ofNat kk) :: st, q_hp K n h, [], cl, sl) := by
  subst hn; subst hj
  exact q_R.sB he (q_oAld_h hk hN hK (Or.inr (Or.inr (Or.inr rfl))) hj0 hj1 hN2) k
theorem r_dast {kk N : Nat} {ds : List q_Ds} {j j' w : Int} (he : q_cat i pc .dastore len x y v) (hk : kk < n) (hN : n ≤ 256) (hK : K kk = (4, N, ds)) (hN2 : N ≤ 2048) (hj : q_w32 j = j') (hj0 : 0 ≤ j') (hj1 : j' < N) (hn : Nat.add pc len = nx) (k : q_R Γ K n i P (nx, lo, st, q_hp K n (q_ud h kk j'.toNat w), [], cl, sl)) : q_R Γ K n i P (pc, lo, (5, w) :: (0, j) :: (2, Int.ofNat kk) :: st, q_hp K n h, [], cl, sl) := by
  subst hn; subst hj
  exact q_R.sB he (q_oAst_h hk hN hK (Or.inr (Or.inr rfl)) hj0 hj1 hN2) k
theorem q_oAst_b {k9 kk N : Nat} {ds : List q_Ds} {j w : Int} (hk : kk < n) (hN : n ≤ 256) (hK : K kk = (2, N, ds)) (hk9 : k9 = 2) (hj0 : 0 ≤ q_w32 j) (hj1 : q_w32 j < N) (hN2 : N ≤ 2048) :
    q_oAst k9 nx lo ((0, w) :: (0, j) :: (2, Int.ofNat kk) :: st) (q_hp K n h) [] cl sl = some ([(nx, lo, st, q_hp K n (q_ud h kk (q_w32 j).toNat ((Int32.ofInt w).toInt8.toInt32).toInt), [], cl, sl)], []) := by
  unfold q_oAst
  have hkp : q_kp k9 ((0, w) : q_V) = some (0, ((Int32.ofInt w).toInt8.toInt32).toInt) := by rw [hk9]; rfl
  show (q_kp k9 ((0, w) : q_V)).bind _ = _
  rw [hkp]
  show (q_at (q_hp K n h) (2, Int.ofNat kk)).bind _ = _
  rw [q_hp_at hk hN, hK]
  have hc : ∀ f, q_cel (2, N, ds) f = (2, N, [], q_bld 11 (fun j => ((0, f j) : q_V))) := fun f => rfl
  rw [hc]
  show q_if (Nat.beq 2 k9) ((q_enum [] (0, j)).bind _) = _
  rw [hk9]
  have hq : (q_if (bif q_ile 0 (q_w32 j) then Nat.ble (Nat.succ (q_w32 j).toNat) N else false) (some ((nx, lo, st, q_put (q_hp K n h) kk (2, N, [], q_set 11 (q_bld 11 (fun j => ((0, h kk j) : q_V))) (q_w32 j).toNat (0, ((Int32.ofInt w).toInt8.toInt32).toInt)), ([] : q_I), cl, sl) : q_C))) = some ((nx, lo, st, q_hp K n (q_ud h kk (q_w32 j).toNat ((Int32.ofInt w).toInt8.toInt32).toInt), [], cl, sl) : q_C) := by
    rw [q_ix2 hj0 hj1, q_sbt 11 _ _ _ (by omega), q_hp_put (h := h) (j := (q_w32 j).toNat) (v := ((Int32.ofInt w).toInt8.toInt32).toInt) hk hN]
    · rfl
    · rw [hK, hc]
      congr 4; funext j'
      split <;> rfl
  show ((q_if (bif q_ile 0 (q_w32 j) then Nat.ble (Nat.succ (q_w32 j).toNat) N else false) (some ((nx, lo, st, q_put (q_hp K n h) kk (2, N, [], q_set 11 (q_bld 11 (fun j => ((0, h kk j) : q_V))) (q_w32 j).toNat (0, ((Int32.ofInt w).toInt8.toInt32).toInt)), ([] : q_I), cl, sl) : q_C))).bind fun b => (some []).bind fun bs => some (b :: bs)).bind _ = _
  rw [hq]; rfl
theorem r_bast {kk N : Nat} {ds : List q_Ds} {j j' w w' : Int} (he : q_cat i pc .bastore len x y v) (hk : kk < n) (hN : n ≤ 256) (hK : K kk = (2, N, ds)) (hN2 : N ≤ 2048) (hw : ((Int32.ofInt w).toInt8.toInt32).toInt = w') (hj : q_w32 j = j') (hj0 : 0 ≤ j') (hj1 : j' < N) (hn : Nat.add pc len = nx) (k : q_R Γ K n i P (nx, lo, st, q_hp K n (q_ud h kk j'.toNat w'), [], cl, sl)) : q_R Γ K n i P (pc, lo, (0, w) :: (0, j) :: (2, Int.ofNat kk) :: st, q_hp K n h, [], cl, sl) := by
  subst hn; subst hj; subst hw
  exact q_R.sB he (q_oAst_b hk hN hK rfl hj0 hj1 hN2) k
/-- a row of references -/
theorem r_aald {kk N r : Nat} {ds : List q_Ds} {j j' : Int} (he : q_cat i pc .aaload len x y v) (hk : kk < n) (hN : n ≤ 256) (hK : K kk = (5, N, ds)) (hN2 : N ≤ 2048) (hj : q_w32 j = j') (hj0 : 0 ≤ j') (hj1 : j' < N) (hd : ds[j'.toNat]? = some (2, Int.ofNat r)) (hn : Nat.add pc len = nx) (k : q_R Γ K n i P (nx, lo, (2, Int.ofNat r) :: st, q_hp K n h, [], cl, sl)) : q_R Γ K n i P (pc, lo, (0, j) :: (2, Int.ofNat kk) :: st, q_hp K n h, [], cl, sl) := by
  subst hn; subst hj
  refine q_R.sB he ?_ k
  show q_oAld 5 _ (Nat.add pc len) lo ((0, j) :: (2, Int.ofNat kk) :: st) (q_hp K n h) [] cl sl = _
  unfold q_oAld
  show (q_at (q_hp K n h) (2, Int.ofNat kk)).bind _ = _
  rw [q_hp_at hk hN, hK]
  have hc : q_cel (5, N, ds) (h kk) = (5, N, [], q_bld 11 (fun j => ((2, ((ds[j]?).getD (0, 0)).2) : q_V))) := rfl
  rw [hc]
  show ((q_if (bif q_ile 0 (q_w32 j) then Nat.ble (Nat.succ (q_w32 j).toNat) N else false) (some ((Nat.add pc len, lo, q_conc [] (q_get 11 (q_bld 11 (fun j => ((2, ((ds[j]?).getD (0, 0)).2) : q_V))) (q_w32 j).toNat) :: st, q_hp K n h, ([] : q_I), cl, sl) : q_C))).bind fun b => (some []).bind fun bs => some (b :: bs)).bind _ = _
  rw [q_ix2 hj0 hj1, q_gb 11 _ _ (by omega), hd]; rfl
/-- the rows besides: the script, and the class's two -/
theorem r_alen9 {z : Int} {m9 : Int} (he : q_cat i pc .arraylength len x y v) (hz : z.toNat ≤ 2) (hm : ((q_ln Γ.2.2.2.1 z.toNat : Nat) : Int) = m9) (hn : Nat.add pc len = nx) (k : q_R Γ K n i P (nx, lo, (0, m9) :: st, hp, [], cl, sl)) : q_R Γ K n i P (pc, lo, (9, z) :: st, hp, [], cl, sl) := by
  subst hn; subst hm
  refine q_R.sB he ?_ k
  show q_if (Nat.ble z.toNat 2) _ = _
  rw [Nat.ble_eq_true_of_le hz]; rfl
theorem r_iald9 {z j j' r : Int} (he : q_cat i pc .iaload len x y v) (hz : z.toNat = 1 ∨ z.toNat = 2) (hj : q_w32 j = j') (hj0 : 0 ≤ j') (hj1 : j' < 6) (hr : q_lg z.toNat j'.toNat = r) (hn : Nat.add pc len = nx) (k : q_R Γ K n i P (nx, lo, (0, r) :: st, hp, [], cl, sl)) : q_R Γ K n i P (pc, lo, (0, j) :: (9, z) :: st, hp, [], cl, sl) := by
  subst hn; subst hj; subst hr
  refine q_R.sB he ?_ k
  show q_if (bif Nat.ble z.toNat 2 then (bif Nat.beq 1 1 then (bif Nat.beq 0 0 then (bif q_ile 0 (q_w32 j) then Nat.ble (Nat.succ (q_w32 j).toNat) (q_ln Γ.2.2.2.1 z.toNat) else false) else false) else false) else false) (q_nx (Nat.add pc len) lo ((bif Nat.beq z.toNat 0 then q_conc [] (6, q_w32 j) else (0, q_lg z.toNat (q_w32 j).toNat)) :: st) hp [] cl sl) = _
  have h6 : q_ln Γ.2.2.2.1 z.toNat = 6 := by rcases hz with e | e <;> rw [e] <;> rfl
  rw [h6, q_ix2 (N := 6) hj0 hj1]
  rcases hz with e | e <;> rw [e] <;> rfl
theorem r_sald {j j' : Int} {z : Int} (he : q_cat i pc .iaload len x y v) (hz : z.toNat = 0) (hj : q_w32 j = j') (hj0 : 0 ≤ j') (hj1 : j' < Γ.2.2.2.1) (hn : Nat.add pc len = nx) (k : q_R Γ K n i P (nx, lo, (0, Γ.1 j'.toNat) :: st, hp, [], cl, sl)) : q_R Γ K n i P (pc, lo, (0, j) :: (9, z) :: st, hp, [], cl, sl) := by
  subst hn; subst hj
  obtain ⟨t, v9, h', hP, hT⟩ := k
  refine ⟨t, v9, h', hP, ?_⟩
  refine q_To.st (q_cf0_c Γ) (z := ([(Nat.add pc len, lo, (6, q_w32 j) :: st, hp, [], cl, sl)], [])) ((q_stp_c he _ _ _ _ _ _ _ _).trans ?_) (fun c'' hc => ?_) (fun lf hl => by cases hl)
  · show q_if (bif Nat.ble z.toNat 2 then (bif Nat.beq 1 1 then (bif Nat.beq 0 0 then (bif q_ile 0 (q_w32 j) then Nat.ble (Nat.succ (q_w32 j).toNat) (q_ln Γ.2.2.2.1 z.toNat) else false) else false) else false) else false) (q_nx (Nat.add pc len) lo ((bif Nat.beq z.toNat 0 then q_conc [] (6, q_w32 j) else (0, q_lg z.toNat (q_w32 j).toNat)) :: st) hp [] cl sl) = _
    rw [hz, show q_ln Γ.2.2.2.1 0 = Γ.2.2.2.1 from rfl, q_ix2 (N := Γ.2.2.2.1) hj0 hj1]
    rfl
  · cases List.mem_singleton.mp hc
    have e : q_w32 j = Int.ofNat (q_w32 j).toNat := by show q_w32 j = ((q_w32 j).toNat : Int); omega
    rw [e]
    exact hT.cv
/-- a switch -/
theorem r_tsw {d lo9 hi9 a a' : Int} {offs : Array Int} {td : Nat} (he : q_cat i pc (.tableswitch d lo9 hi9 offs) len x y v) (ha : q_w32 a = a') (hl : q_w32 lo9 = lo9) (hh : q_w32 hi9 = hi9) (hd1 : q_tgt pc d lo9 hi9 offs (lo9 - 1) = some td) (hd2 : q_tgt pc d lo9 hi9 offs (hi9 + 1) = some td)
    (kd : a' < lo9 ∨ hi9 < a' → q_R Γ K n i P (td, lo, st, hp, [], cl, sl)) (kc : lo9 ≤ a' → a' ≤ hi9 → ∃ t, q_tgt pc d lo9 hi9 offs a' = some t ∧ q_R Γ K n i P (t, lo, st, hp, [], cl, sl)) : q_R Γ K n i P (pc, lo, (0, a) :: st, hp, [], cl, sl) := by
  subst ha
  have hs : q_stB q_mt q_df q_cf0 Γ.2.2.2.1 (q_mt i) pc lo ((0, a) :: st) hp [] cl sl (.tableswitch d lo9 hi9 offs) len x y v = q_oSw d lo9 hi9 offs pc lo ((0, a) :: st) hp [] cl sl := rfl
  have hrun : ∀ t, (∃ r1, q_cmp (q_w32 a) lo9 = r1 ∧ ((Nat.beq r1 0 = true ∧ q_tgt pc d lo9 hi9 offs (lo9 - 1) = some t) ∨ (Nat.beq r1 0 = false ∧ ∃ r2, q_cmp (q_w32 a) hi9 = r2 ∧ ((Nat.beq r2 2 = true ∧ q_tgt pc d lo9 hi9 offs (hi9 + 1) = some t) ∨ (Nat.beq r2 2 = false ∧ q_tgt pc d lo9 hi9 offs (q_w32 a) = some t))))) → q_oSw d lo9 hi9 offs pc lo ((0, a) :: st) hp [] cl sl = some ([(t, lo, st, hp, [], cl, sl)], []) := by
    rintro t ⟨r1, e1, ⟨b1, g1⟩ | ⟨b1, r2, e2, ⟨b2, g2⟩ | ⟨b2, g2⟩⟩⟩
    · unfold q_oSw
      show (q_all (fun q1 : Nat × q_I => bif Nat.beq q1.1 0 then (q_tgt pc d lo9 hi9 offs (lo9 - 1)).bind fun t => some [((t, lo, st, hp, q1.2, cl, sl) : q_C)] else _) [(q_cmp (q_w32 a) (q_w32 lo9), ([] : q_I))]).bind _ = _
      rw [hl, e1]
      show ((bif Nat.beq r1 0 then (q_tgt pc d lo9 hi9 offs (lo9 - 1)).bind fun t => some [((t, lo, st, hp, ([] : q_I), cl, sl) : q_C)] else _).bind _).bind _ = _
      rw [b1, g1]; rfl
    · unfold q_oSw
      show (q_all (fun q1 : Nat × q_I => bif Nat.beq q1.1 0 then (q_tgt pc d lo9 hi9 offs (lo9 - 1)).bind fun t => some [((t, lo, st, hp, q1.2, cl, sl) : q_C)] else (q_c3 q1.2 (q_conc q1.2 (0, a)) (0, hi9)).bind fun l2 => _) [(q_cmp (q_w32 a) (q_w32 lo9), ([] : q_I))]).bind _ = _
      rw [hl, e1]
      show ((bif Nat.beq r1 0 then _ else (some [(q_cmp (q_w32 a) (q_w32 hi9), ([] : q_I))]).bind fun l2 => (q_all (fun q2 : Nat × q_I => bif Nat.beq q2.1 2 then (q_tgt pc d lo9 hi9 offs (hi9 + 1)).bind fun t => some [((t, lo, st, hp, q2.2, cl, sl) : q_C)] else _) l2).bind _).bind _).bind _ = _
      rw [b1, hh, e2]
      show ((((bif Nat.beq r2 2 then (q_tgt pc d lo9 hi9 offs (hi9 + 1)).bind fun t => some [((t, lo, st, hp, ([] : q_I), cl, sl) : q_C)] else _).bind _).bind _).bind _).bind _ = _
      rw [b2, g2]; rfl
    · unfold q_oSw
      show (q_all (fun q1 : Nat × q_I => bif Nat.beq q1.1 0 then (q_tgt pc d lo9 hi9 offs (lo9 - 1)).bind fun t => some [((t, lo, st, hp, q1.2, cl, sl) : q_C)] else (q_c3 q1.2 (q_conc q1.2 (0, a)) (0, hi9)).bind fun l2 => _) [(q_cmp (q_w32 a) (q_w32 lo9), ([] : q_I))]).bind _ = _
      rw [hl, e1]
      show ((bif Nat.beq r1 0 then _ else (some [(q_cmp (q_w32 a) (q_w32 hi9), ([] : q_I))]).bind fun l2 => (q_all (fun q2 : Nat × q_I => bif Nat.beq q2.1 2 then (q_tgt pc d lo9 hi9 offs (hi9 + 1)).bind fun t => some [((t, lo, st, hp, q2.2, cl, sl) : q_C)] else (some [(q_w32 a, q2.2)]).bind fun l3 => q_all (fun q3 : Int × q_I => (q_tgt pc d lo9 hi9 offs q3.1).bind fun t => some ((t, lo, st, hp, q3.2, cl, sl) : q_C)) l3) l2).bind _).bind _).bind _ = _
      rw [b1, hh, e2]
      show ((((bif Nat.beq r2 2 then _ else ((q_tgt pc d lo9 hi9 offs (q_w32 a)).bind fun t => some ((t, lo, st, hp, ([] : q_I), cl, sl) : q_C)).bind fun b => (some []).bind fun bs => some (b :: bs)).bind _).bind _).bind _).bind _ = _
      rw [b2, g2]; rfl
  rcases q_cmp_s (q_w32 a) lo9 with ⟨e1, h1⟩ | ⟨e1, h1⟩ | ⟨e1, h1⟩
  · exact q_R.sB he (hs.trans (hrun td ⟨0, e1, Or.inl ⟨rfl, hd1⟩⟩)) (kd (Or.inl h1))
  all_goals
    rcases q_cmp_s (q_w32 a) hi9 with ⟨e2, h2⟩ | ⟨e2, h2⟩ | ⟨e2, h2⟩
    · obtain ⟨t, ht, kR⟩ := kc (by omega) (by omega)
      exact q_R.sB he (hs.trans (hrun t ⟨_, e1, Or.inr ⟨rfl, _, e2, Or.inr ⟨rfl, ht⟩⟩⟩)) kR
    · obtain ⟨t, ht, kR⟩ := kc (by omega) (by omega)
      exact q_R.sB he (hs.trans (hrun t ⟨_, e1, Or.inr ⟨rfl, _, e2, Or.inr ⟨rfl, ht⟩⟩⟩)) kR
    · exact q_R.sB he (hs.trans (hrun td ⟨_, e1, Or.inr ⟨rfl, _, e2, Or.inl ⟨rfl, hd2⟩⟩⟩)) (kd (Or.inr h2))
theorem r_fret {a : Int} (he : q_cat i pc .freturn len x y v) (hm : q_mk3 i 4 cl sl) (hP : P 1 (4, a) h) : q_R Γ K n i P (pc, lo, [(4, a)], q_hp K n h, [], cl, sl) := by
  refine q_R.end ((q_stp_c he _ _ _ _ _ _ _ _).trans ?_) hP
  show q_if (bif Nat.beq (q_mt i).2.1.2.2.2 4 then (bif Nat.beq 4 4 then (bif Nat.ble cl (q_mt i).2.2.1.2.2.1 then (bif Nat.ble sl (q_mt i).2.2.1.2.2.2 then _ else false) else false) else false) else false) _ = _
  rw [hm.1, hm.2.1, hm.2.2]; rfl
theorem r_dret {a : Int} (he : q_cat i pc .dreturn len x y v) (hm : q_mk3 i 5 cl sl) (hP : P 1 (5, a) h) : q_R Γ K n i P (pc, lo, [(5, a)], q_hp K n h, [], cl, sl) := by
  refine q_R.end ((q_stp_c he _ _ _ _ _ _ _ _).trans ?_) hP
  show q_if (bif Nat.beq (q_mt i).2.1.2.2.2 5 then (bif Nat.beq 5 5 then (bif Nat.ble cl (q_mt i).2.2.1.2.2.1 then (bif Nat.ble sl (q_mt i).2.2.1.2.2.2 then _ else false) else false) else false) else false) _ = _
  rw [hm.1, hm.2.1, hm.2.2]; rfl
theorem r_aretN {a : Int} (he : q_cat i pc .areturn len x y v) (hm : q_mk3 i 6 cl sl) (hP : P 1 (3, a) h) : q_R Γ K n i P (pc, lo, [(3, a)], q_hp K n h, [], cl, sl) := by
  refine q_R.end ((q_stp_c he _ _ _ _ _ _ _ _).trans ?_) hP
  show q_if (bif Nat.beq (q_mt i).2.1.2.2.2 6 then (bif (bif Nat.beq 3 2 then true else Nat.beq 3 3) then (bif Nat.ble cl (q_mt i).2.2.1.2.2.1 then (bif Nat.ble sl (q_mt i).2.2.1.2.2.2 then _ else false) else false) else false) else false) _ = _
  rw [hm.1, hm.2.1, hm.2.2]; rfl
theorem q_R.wk {ks : List Nat} (hs : q_pk ks lo = some lo') (k : q_R Γ K n i P (pc, lo', st, hp, [], cl, sl)) : q_R Γ K n i P (pc, lo, st, hp, [], cl, sl) := by
  obtain ⟨t, v9, h', hP, hT⟩ := k
  exact ⟨t, v9, h', hP, hT.wk (q_pk_m hs)⟩
/-- the room that a call of the class library wants -/
noncomputable def q_mrm (i fr lc cl sl : Nat) (st : List q_V) : Bool := bif Nat.ble fr (q_mt i).2.2.1.1 then (bif Nat.ble (Nat.add (q_wid st) lc) (q_mt i).2.2.1.2.1 then (bif Nat.ble cl (q_mt i).2.2.1.2.2.1 then Nat.ble sl (q_mt i).2.2.1.2.2.2 else false) else false) else false
theorem r_max {idx : Nat} {a b : Int} (he : q_cat i pc (.invokestatic idx) len x 6 v) (hm : q_mrm i 1 13 cl sl st = true) (hn : Nat.add pc len = nx) (k : q_R Γ K n i P (nx, lo, (0, if q_w32 a ≤ q_w32 b then b else a) :: st, hp, [], cl, sl)) : q_R Γ K n i P (pc, lo, (0, b) :: (0, a) :: st, hp, [], cl, sl) := by
  subst hn
  refine q_R.sB he ?_ k
  show q_if (q_mrm i 1 13 cl sl st) (q_nx (Nat.add pc len) lo ((bif q_ile (q_w32 a) (q_w32 b) then (0, b) else (0, a)) :: st) hp [] cl sl) = _
  rw [hm]
  by_cases h9 : q_w32 a ≤ q_w32 b
  · rw [if_pos h9, q_ile_t h9]; rfl
  · rw [if_neg h9, q_ile_f (by omega)]; rfl
theorem r_min {idx : Nat} {a b : Int} (he : q_cat i pc (.invokestatic idx) len x 7 v) (hm : q_mrm i 1 13 cl sl st = true) (hn : Nat.add pc len = nx) (k : q_R Γ K n i P (nx, lo, (0, if q_w32 a ≤ q_w32 b then a else b) :: st, hp, [], cl, sl)) : q_R Γ K n i P (pc, lo, (0, b) :: (0, a) :: st, hp, [], cl, sl) := by
  subst hn
  refine q_R.sB he ?_ k
  show q_if (q_mrm i 1 13 cl sl st) (q_nx (Nat.add pc len) lo ((bif q_ile (q_w32 a) (q_w32 b) then (0, a) else (0, b)) :: st) hp [] cl sl) = _
  rw [hm]
  by_cases h9 : q_w32 a ≤ q_w32 b
  · rw [if_pos h9, q_ile_t h9]; rfl
  · rw [if_neg h9, q_ile_f (by omega)]; rfl
theorem r_abs {idx : Nat} {a : Int} (he : q_cat i pc (.invokestatic idx) len x 8 v) (hm : q_mrm i 1 13 cl sl st = true) (hn : Nat.add pc len = nx) (k : q_R Γ K n i P (nx, lo, (0, if 0 ≤ q_w32 a then a else (0 - Int32.ofInt a).toInt) :: st, hp, [], cl, sl)) : q_R Γ K n i P (pc, lo, (0, a) :: st, hp, [], cl, sl) := by
  subst hn
  refine q_R.sB he ?_ k
  show q_if (q_mrm i 1 13 cl sl st) (q_if (Nat.beq 0 0) (q_nx (Nat.add pc len) lo ((0, bif q_ile 0 (q_w32 a) then a else (0 - Int32.ofInt a).toInt) :: st) hp [] cl sl)) = _
  rw [hm]
  by_cases h9 : 0 ≤ q_w32 a
  · rw [if_pos h9, q_ile_t h9]; rfl
  · rw [if_neg h9, q_ile_f (by omega)]; rfl
theorem r_maxl {idx : Nat} {a b : Int} (he : q_cat i pc (.invokestatic idx) len x 10 v) (hm : q_mrm i 1 15 cl sl st = true) (hn : Nat.add pc len = nx) (k : q_R Γ K n i P (nx, lo, (1, if q_w64 a ≤ q_w64 b then b else a) :: st, hp, [], cl, sl)) : q_R Γ K n i P (pc, lo, (1, b) :: (1, a) :: st, hp, [], cl, sl) := by
  subst hn
  refine q_R.sB he ?_ k
  show q_if (q_mrm i 1 15 cl sl st) (q_nx (Nat.add pc len) lo ((bif q_ile (q_w64 a) (q_w64 b) then (1, b) else (1, a)) :: st) hp [] cl sl) = _
  rw [hm]
  by_cases h9 : q_w64 a ≤ q_w64 b
  · rw [if_pos h9, q_ile_t h9]; rfl
  · rw [if_neg h9, q_ile_f (by omega)]; rfl
theorem r_absl {idx : Nat} {a : Int} (he : q_cat i pc (.invokestatic idx) len x 11 v) (hm : q_mrm i 1 13 cl sl st = true) (hn : Nat.add pc len = nx) (k : q_R Γ K n i P (nx, lo, (1, if q_w64 a ≤ 0 then q_w64 (-a) else a) :: st, hp, [], cl, sl)) : q_R Γ K n i P (pc, lo, (1, a) :: st, hp, [], cl, sl) := by
  subst hn
  refine q_R.sB he ?_ k
  show q_if (q_mrm i 1 13 cl sl st) (q_nx (Nat.add pc len) lo ((1, bif q_ile (q_w64 a) 0 then q_w64 (Int.neg a) else a) :: st) hp [] cl sl) = _
  rw [hm]
  by_cases h9 : q_w64 a ≤ 0
  · rw [if_pos h9, q_ile_t h9]; rfl
  · rw [if_neg h9, q_ile_f (by omega)]; rfl
theorem r_maxf {idx : Nat} {a b : Int} (he : q_cat i pc (.invokestatic idx) len x 12 v) (hm : q_mrm i 5 150 cl sl st = true) (hn : Nat.add pc len = nx) (ha : q_n32 (UInt32.ofNat a.toNat) = true) (hb : q_n32 (UInt32.ofNat b.toNat) = true) (k : q_R Γ K n i P (nx, lo, (4, Int.ofNat (q_fmx (UInt32.ofNat a.toNat) (UInt32.ofNat b.toNat)).toNat) :: st, hp, [], cl, sl)) : q_R Γ K n i P (pc, lo, (4, b) :: (4, a) :: st, hp, [], cl, sl) := by
  subst hn
  refine q_R.sB he ?_ k
  show q_if (q_mrm i 5 150 cl sl st) _ = _
  rw [hm]
  show q_if (bif q_n32 (UInt32.ofNat a.toNat) then q_n32 (UInt32.ofNat b.toNat) else false) _ = _
  rw [ha, hb]; rfl
theorem q_sb_l (n : Nat) : (q_sb n).length ≤ 10 := by
  unfold q_sb
  split <;> exact Nat.le_of_ble_eq_true rfl
theorem r_slen {idx : Nat} {z : Int} (he : q_cat i pc (.invokevirtual idx) len x 1 v) (hm : q_mrm i 5 150 cl sl st = true) (h3 : 3 ≤ z.toNat) (h9 : z.toNat ≤ 9) (hn : Nat.add pc len = nx) (k : ∀ L : Int, L = ((q_sb (q_sw z)).length : Int) → 0 ≤ L → L ≤ 10 → q_R Γ K n i P (nx, lo, (0, L) :: st, hp, [], cl, sl)) : q_R Γ K n i P (pc, lo, (9, z) :: st, hp, [], cl, sl) := by
  subst hn
  have hl := q_sb_l (q_sw z)
  refine q_R.sB he ?_ (k _ rfl (by omega) (by omega))
  show q_if (bif Nat.beq 9 9 then (bif Nat.ble 3 z.toNat then (bif Nat.ble z.toNat 9 then q_mrm i 5 150 cl sl st else false) else false) else false) (q_nx (Nat.add pc len) lo ((0, Int.ofNat (q_len (q_sb (q_sw z)))) :: st) hp [] cl sl) = _
  rw [Nat.ble_eq_true_of_le h3, Nat.ble_eq_true_of_le h9, hm, q_len_g]; rfl
theorem r_schar {idx : Nat} {z j j' : Int} (he : q_cat i pc (.invokevirtual idx) len x 2 v) (hm : q_mrm i 5 150 cl sl st = true) (h3 : 3 ≤ z.toNat) (h9 : z.toNat ≤ 9) (hj : q_w32 j = j') (hj0 : 0 ≤ j') (hj1 : j' < ((q_sb (q_sw z)).length : Int)) (hn : Nat.add pc len = nx) (k : ∀ c, (q_sb (q_sw z))[j'.toNat]? = some c → q_R Γ K n i P (nx, lo, (0, c) :: st, hp, [], cl, sl)) : q_R Γ K n i P (pc, lo, (0, j) :: (9, z) :: st, hp, [], cl, sl) := by
  subst hn; subst hj
  have hlt : (q_w32 j).toNat < (q_sb (q_sw z)).length := by omega
  have hc : (q_sb (q_sw z))[(q_w32 j).toNat]? = some ((q_sb (q_sw z))[(q_w32 j).toNat]) := List.getElem?_eq_getElem hlt
  refine q_R.sB he ?_ (k _ hc)
  show q_if (bif Nat.beq 0 0 then (bif Nat.beq 9 9 then (bif Nat.ble 3 z.toNat then (bif Nat.ble z.toNat 9 then q_mrm i 5 150 cl sl st else false) else false) else false) else false) (q_if (bif q_ile 0 (q_w32 j) then Nat.ble (Nat.succ (q_w32 j).toNat) (q_len (q_sb (q_sw z))) else false) ((q_nth (q_sb (q_sw z)) (q_w32 j).toNat).bind fun c => q_nx (Nat.add pc len) lo ((0, c) :: st) hp [] cl sl)) = _
  rw [Nat.ble_eq_true_of_le h3, Nat.ble_eq_true_of_le h9, hm, q_len_g, q_ix2 hj0 hj1, q_nth_g, hc]; rfl
theorem r_aret9 {a : Int} (he : q_cat i pc .areturn len x y v) (hm : q_mk3 i 6 cl sl) (hP : P 1 (9, a) h) : q_R Γ K n i P (pc, lo, [(9, a)], q_hp K n h, [], cl, sl) := by
  refine q_R.end ((q_stp_c he _ _ _ _ _ _ _ _).trans ?_) hP
  show q_if (bif Nat.beq (q_mt i).2.1.2.2.2 6 then (bif (bif Nat.beq 9 2 then true else bif Nat.beq 9 3 then true else Nat.beq 9 9) then (bif Nat.ble cl (q_mt i).2.2.1.2.2.1 then (bif Nat.ble sl (q_mt i).2.2.1.2.2.2 then _ else false) else false) else false) else false) _ = _
  rw [hm.1, hm.2.1, hm.2.2]; rfl
theorem r_ifn0 {off : Int} {z : Int} (he : q_cat i pc (.ifnull off) len x y v) (k : q_R Γ K n i P (x, lo, st, hp, [], cl, sl)) : q_R Γ K n i P (pc, lo, (3, z) :: st, hp, [], cl, sl) := q_R.sB he rfl k
/-- the receiver is of the class -/
noncomputable def q_rco (hp : q_H) (ar : List q_V) (C : Nat) : Bool := match ar with
  | [] => false
  | a :: _ => match q_at hp a with
    | none => false
    | some e => bif Nat.beq e.1 0 then Nat.beq e.2.1 C else false
/-- how a run goes on behind a call that ended so -/
def q_Kt (Γ : q_Γ) (K : Nat → q_Ly) (n i : Nat) (P : Nat → q_V → q_F → Prop) (pc : Nat) (lo : q_L) (rest : List q_V) (cl sl t : Nat) (w : q_V) (h' : q_F) : Prop :=
  (t = 0 ∧ q_R Γ K n i P (Nat.add pc 3, lo, rest, q_hp K n h', [], cl, sl)) ∨ (t = 1 ∧ q_R Γ K n i P (Nat.add pc 3, lo, w :: rest, q_hp K n h', [], cl, sl)) ∨
  (∃ E, t = Nat.add E 2 ∧ ((∃ hd, q_hd (q_mt i).2.2.2 pc E = some hd ∧ q_R Γ K n i P (hd, lo, [(10, 0)], q_hp K n h', [], cl, sl)) ∨ (q_hd (q_mt i).2.2.2 pc E = none ∧ P t w h')))
theorem r_callG {ins : Instr} {ar rest : List q_V} {Pc : Nat → q_V → q_F → Prop} (he : q_cat i pc ins len x y v)
    (hins : ∀ cf : Nat → List q_V → q_H → q_I → Option (List q_Lf), q_stB q_mt q_df cf Γ.2.2.2.1 (q_mt i) pc lo st (q_hp K n h) [] cl sl ins len x y v = q_oCall cf (q_mt i) (q_mt x) x y pc lo st (q_hp K n h) [] cl sl)
    (htk : q_take (q_mt x).2.1.2.2.1 st = some (ar, rest)) (hrm : q_rms i x cl sl rest = true)
    (hrec : (bif (bif Nat.beq y 0 then true else bif Nat.beq y 2 then true else Nat.beq y 4) then q_rco (q_hp K n h) ar (q_mt x).2.1.2.1 else true) = true)
    (hok : q_M Γ K n x ar h Pc) (k : ∀ t w h', Pc t w h' → q_Kt Γ K n i P pc lo rest (Nat.add cl (q_mt x).2.2.1.2.2.1) (Nat.add sl (q_mt x).2.2.1.2.2.2) t w h') : q_R Γ K n i P (pc, lo, st, q_hp K n h, [], cl, sl) := by
  obtain ⟨t, w, h', hPc, hO⟩ := hok
  have hs : q_step q_mt q_df (q_cf1 x ar (q_hp K n h) [(t, w, q_hp K n h', [])]) Γ.2.2.2.1 (q_mt i) (pc, lo, st, q_hp K n h, [], cl, sl) = some (q_conts (q_mt i).2.2.2 pc lo rest (Nat.add cl (q_mt x).2.2.1.2.2.1) (Nat.add sl (q_mt x).2.2.1.2.2.2) [(t, w, q_hp K n h', [])]) := by
    rw [q_stp_c he, hins]
    unfold q_oCall
    rw [htk]
    show q_if (q_rms i x cl sl rest) (q_if _ _) = _
    rw [hrm]
    show q_if (bif (bif Nat.beq y 0 then true else bif Nat.beq y 2 then true else Nat.beq y 4) then q_rco (q_hp K n h) ar (q_mt x).2.1.2.1 else true) _ = _
    rw [hrec]
    show (q_cf1 x ar (q_hp K n h) [(t, w, q_hp K n h', [])] x ar (q_hp K n h) []).bind _ = _
    rw [q_cf1_e]; rfl
  generalize Nat.add cl (q_mt x).2.2.1.2.2.1 = cl2 at hs k
  generalize Nat.add sl (q_mt x).2.2.1.2.2.2 = sl2 at hs k
  rcases k t w h' hPc with ⟨rfl, hR⟩ | ⟨rfl, hR⟩ | ⟨E, rfl, ⟨hd, hhd, hR⟩ | ⟨hhd, hR⟩⟩
  · obtain ⟨t2, v2, h2, hP2, hT⟩ := hR
    exact ⟨t2, v2, h2, hP2, q_To.st (q_cf1_c hO) hs (fun c hc => by cases List.mem_singleton.mp hc; exact hT) (fun lf hl => by cases hl)⟩
  · obtain ⟨t2, v2, h2, hP2, hT⟩ := hR
    refine ⟨t2, v2, h2, hP2, q_To.st (q_cf1_c hO) hs (fun c hc => ?_) (fun lf hl => by cases hl)⟩
    have hc : c ∈ [((Nat.add pc 3, lo, q_conc [] w :: rest, q_hp K n h', [], cl2, sl2) : q_C)] := hc
    rw [q_conc_nil] at hc
    cases List.mem_singleton.mp hc
    exact hT
  · obtain ⟨t2, v2, h2, hP2, hT⟩ := hR
    have e : q_conts (q_mt i).2.2.2 pc lo rest cl2 sl2 [(Nat.add E 2, w, q_hp K n h', [])] = ([(hd, lo, [(10, 0)], q_hp K n h', [], cl2, sl2)], []) := by
      show (q_app (match q_hd (q_mt i).2.2.2 pc E with
        | some h => (([(h, lo, [(10, 0)], q_hp K n h', [], cl2, sl2)], []) : List q_C × List q_Lf)
        | none => ([], [(Nat.add E 2, w, q_hp K n h', [])])).1 [], q_app (match q_hd (q_mt i).2.2.2 pc E with
        | some h => (([(h, lo, [(10, 0)], q_hp K n h', [], cl2, sl2)], []) : List q_C × List q_Lf)
        | none => ([], [(Nat.add E 2, w, q_hp K n h', [])])).2 []) = _
      rw [hhd]; rfl
    rw [e] at hs
    exact ⟨t2, v2, h2, hP2, q_To.st (q_cf1_c hO) hs (fun c hc => by cases List.mem_singleton.mp hc; exact hT) (fun lf hl => by cases hl)⟩
  · have e : q_conts (q_mt i).2.2.2 pc lo rest cl2 sl2 [(Nat.add E 2, w, q_hp K n h', [])] = ([], [(Nat.add E 2, w, q_hp K n h', [])]) := by
      show (q_app (match q_hd (q_mt i).2.2.2 pc E with
        | some h => (([(h, lo, [(10, 0)], q_hp K n h', [], cl2, sl2)], []) : List q_C × List q_Lf)
        | none => ([], [(Nat.add E 2, w, q_hp K n h', [])])).1 [], q_app (match q_hd (q_mt i).2.2.2 pc E with
        | some h => (([(h, lo, [(10, 0)], q_hp K n h', [], cl2, sl2)], []) : List q_C × List q_Lf)
        | none => ([], [(Nat.add E 2, w, q_hp K n h', [])])).2 []) = _
      rw [hhd]; rfl
    rw [e] at hs
    exact ⟨_, w, h', hR, q_To.st (q_cf1_c hO) hs (fun c hc => by cases hc) (fun lf hl => hl)⟩
/-- an end with an answer; one without; a throw -/
def q_P1 (p : q_V → q_F → Prop) : Nat → q_V → q_F → Prop := fun t w h => t = 1 ∧ p w h
def q_P0 (p : q_F → Prop) : Nat → q_V → q_F → Prop := fun t _ h => t = 0 ∧ p h
/-- the class of a receiver -/
theorem q_rec {ar : List q_V} {kk N : Nat} {ds : List q_Ds} {C : Nat} (hk : kk < n) (hN : n ≤ 256) (hK : K kk = (0, N, ds)) (hC : C = N) : q_rco (q_hp K n h) ((2, Int.ofNat kk) :: ar) C = true := by
  unfold q_rco
  dsimp only
  rw [q_hp_at hk hN, hK, hC]
  show Nat.beq N N = true
  exact Nat.beq_refl N
theorem r_vcG {idx kk N : Nat} {ds : List q_Ds} {ar rest : List q_V} {Pc : Nat → q_V → q_F → Prop} (he : q_cat i pc (.invokevirtual idx) len x 0 v) (hk : kk < n) (hN : n ≤ 256) (hK : K kk = (0, N, ds)) (hC : (q_mt x).2.1.2.1 = N)
    (htk : q_take (q_mt x).2.1.2.2.1 st = some ((2, Int.ofNat kk) :: ar, rest)) (hrm : q_rms i x cl sl rest = true) (hok : q_M Γ K n x ((2, Int.ofNat kk) :: ar) h Pc) (k : ∀ t w h', Pc t w h' → q_Kt Γ K n i P pc lo rest (Nat.add cl (q_mt x).2.2.1.2.2.1) (Nat.add sl (q_mt x).2.2.1.2.2.2) t w h') : q_R Γ K n i P (pc, lo, st, q_hp K n h, [], cl, sl) :=
  r_callG he (fun cf => rfl) htk hrm (q_rec (ar := ar) hk hN hK hC) hok k
/-- a call of the receiver's method that returns a value -/
theorem r_vcall1 {idx kk N : Nat} {ds : List q_Ds} {ar rest : List q_V} {p : q_V → q_F → Prop} {cl' sl' : Nat} (he : q_cat i pc (.invokevirtual idx) len x 0 v) (hk : kk < n) (hN : n ≤ 256) (hK : K kk = (0, N, ds)) (hC : (q_mt x).2.1.2.1 = N)
    (htk : q_take (q_mt x).2.1.2.2.1 st = some ((2, Int.ofNat kk) :: ar, rest)) (hrm : q_rms i x cl sl rest = true) (hcl : Nat.add cl (q_mt x).2.2.1.2.2.1 = cl') (hsl : Nat.add sl (q_mt x).2.2.1.2.2.2 = sl') (hn : Nat.add pc 3 = nx)
    (hok : q_M Γ K n x ((2, Int.ofNat kk) :: ar) h (q_P1 p)) (k : ∀ w h', p w h' → q_R Γ K n i P (nx, lo, w :: rest, q_hp K n h', [], cl', sl')) : q_R Γ K n i P (pc, lo, st, q_hp K n h, [], cl, sl) := by
  subst hcl; subst hsl; subst hn
  exact r_callG he (fun cf => rfl) htk hrm (q_rec (ar := ar) hk hN hK hC) hok (fun t w h' hp => Or.inr (Or.inl ⟨hp.1, k w h' hp.2⟩))
theorem r_vcall0 {idx kk N : Nat} {ds : List q_Ds} {ar rest : List q_V} {p : q_F → Prop} {cl' sl' : Nat} (he : q_cat i pc (.invokevirtual idx) len x 0 v) (hk : kk < n) (hN : n ≤ 256) (hK : K kk = (0, N, ds)) (hC : (q_mt x).2.1.2.1 = N)
    (htk : q_take (q_mt x).2.1.2.2.1 st = some ((2, Int.ofNat kk) :: ar, rest)) (hrm : q_rms i x cl sl rest = true) (hcl : Nat.add cl (q_mt x).2.2.1.2.2.1 = cl') (hsl : Nat.add sl (q_mt x).2.2.1.2.2.2 = sl') (hn : Nat.add pc 3 = nx)
    (hok : q_M Γ K n x ((2, Int.ofNat kk) :: ar) h (q_P0 p)) (k : ∀ h', p h' → q_R Γ K n i P (nx, lo, rest, q_hp K n h', [], cl', sl')) : q_R Γ K n i P (pc, lo, st, q_hp K n h, [], cl, sl) := by
  subst hcl; subst hsl; subst hn
  exact r_callG he (fun cf => rfl) htk hrm (q_rec (ar := ar) hk hN hK hC) hok (fun t w h' hp => Or.inl ⟨hp.1, k h' hp.2⟩)
theorem r_scall1 {idx : Nat} {ar rest : List q_V} {p : q_V → q_F → Prop} {cl' sl' : Nat} (he : q_cat i pc (.invokestatic idx) len x y v) (hy : y = 1 ∨ y = 3)
    (htk : q_take (q_mt x).2.1.2.2.1 st = some (ar, rest)) (hrm : q_rms i x cl sl rest = true) (hcl : Nat.add cl (q_mt x).2.2.1.2.2.1 = cl') (hsl : Nat.add sl (q_mt x).2.2.1.2.2.2 = sl') (hn : Nat.add pc 3 = nx)
    (hok : q_M Γ K n x ar h (q_P1 p)) (k : ∀ w h', p w h' → q_R Γ K n i P (nx, lo, w :: rest, q_hp K n h', [], cl', sl')) : q_R Γ K n i P (pc, lo, st, q_hp K n h, [], cl, sl) := by
  subst hcl; subst hsl; subst hn
  rcases hy with rfl | rfl
  · exact r_callG he (fun cf => rfl) htk hrm rfl hok (fun t w h' hp => Or.inr (Or.inl ⟨hp.1, k w h' hp.2⟩))
  · exact r_callG he (fun cf => rfl) htk hrm rfl hok (fun t w h' hp => Or.inr (Or.inl ⟨hp.1, k w h' hp.2⟩))
theorem r_scall0 {idx : Nat} {ar rest : List q_V} {p : q_F → Prop} {cl' sl' : Nat} (he : q_cat i pc (.invokestatic idx) len x y v) (hy : y = 1 ∨ y = 3)
    (htk : q_take (q_mt x).2.1.2.2.1 st = some (ar, rest)) (hrm : q_rms i x cl sl rest = true) (hcl : Nat.add cl (q_mt x).2.2.1.2.2.1 = cl') (hsl : Nat.add sl (q_mt x).2.2.1.2.2.2 = sl') (hn : Nat.add pc 3 = nx)
    (hok : q_M Γ K n x ar h (q_P0 p)) (k : ∀ h', p h' → q_R Γ K n i P (nx, lo, rest, q_hp K n h', [], cl', sl')) : q_R Γ K n i P (pc, lo, st, q_hp K n h, [], cl, sl) := by
  subst hcl; subst hsl; subst hn
  rcases hy with rfl | rfl
  · exact r_callG he (fun cf => rfl) htk hrm rfl hok (fun t w h' hp => Or.inl ⟨hp.1, k h' hp.2⟩)
  · exact r_callG he (fun cf => rfl) htk hrm rfl hok (fun t w h' hp => Or.inl ⟨hp.1, k h' hp.2⟩)
end q_rows
end -- [21.rows]
section -- [22.body]
/-! Part 22: a method out of the run of its body. -/
/-- fewer locals, listed in any order -/
theorem q_F2_sb {ρ : Nat → Int} {bs : Nat → Nat} {ws : va_W} {lo : q_L} {lv : List (Nat × Value)} (hF : q_F2 (q_rl ρ bs ws) lo lv) : ∀ (lo' : q_L), (∀ q ∈ lo', q ∈ lo) → ∃ lv', q_F2 (q_rl ρ bs ws) lo' lv' ∧ ∀ q ∈ lv', q ∈ lv
  | [], _ => ⟨[], trivial, fun q hq => by cases hq⟩
  | a :: lo', h => by
    obtain ⟨lv', h1, h2⟩ := q_F2_sb hF lo' (fun q hq => h q (List.mem_cons_of_mem _ hq))
    obtain ⟨n, hn⟩ := List.mem_iff_getElem?.mp (h a List.mem_cons_self)
    obtain ⟨b, hb, hab⟩ := q_F2_g hF n a hn
    refine ⟨b :: lv', ⟨hab, h1⟩, fun q hq => ?_⟩
    rcases List.mem_cons.mp hq with rfl | hq
    · exact List.mem_of_getElem? hb
    · exact h2 q hq
section q_bdT
variable {ρ : Nat → Int} {bs : Nat → Nat} {base L : Nat} {xs : Nat → Int32} {D : va_G} {l : Launch}
/-- the body of a method -/
theorem q_bodyT (hr : q_rg ρ) (hxs : ∀ j, j < L → Int32.ofInt (ρ j) = xs j) (hst : l.stackTraces = false)
    {x : Nat} {ar : List q_V} {hp : q_H} {lfs : List q_Lf} (hrun : q_To (ρ, bs, base, L, xs, D, l) x lfs (0, q_args ar 0, [], hp, [], 0, 0)) (hwid : q_wid ar ≤ (q_mt x).2.1.1) (hx9 : x < 369) {ws : va_W} {tys : List (ClassId × FieldType)} {arR : List Value} (hD : va_D (q_A base) ws) (hW : q_W ρ bs ws tys hp) (hF : q_F2 (q_rv ρ bs ws) ar arR)
    {p : Program} {e : Env} {s s₁ : State} {m : MethodId} {args : Array Value} {below : List Frame} {meth : Method} {c : Code} (B : BodyLoose p l (q_y x) (headSpec (q_wsM x) (q_rm x)) (q_bc x) (q_mL x) (q_rt x) e s m args below meth c s₁) (hml : c.maxLocals = q_mL x) (htab : c.exceptionTable.toList = tableOf (q_hh x))
    (hP : q_Pre bs base L xs D ws tys arR args s) :
    W p l e (headSpec (q_wsM x) (q_rm x)).room s m args below meth c s.heap [] 0 0 (vx_MQ below (q_Qc ρ bs base D ws lfs) (q_XC ρ bs base D ws lfs) args s (q_rm x).cells (q_rm x).slots (q_A base)) (entryFrame m args (q_mL x)) := by
  obtain ⟨rfl, hK, hPP, hKX⟩ := hP
  have hmv := q_mv_ok x hx9
  obtain ⟨a1, hmv⟩ := q_and_i hmv
  obtain ⟨a2, hmv⟩ := q_and_i hmv
  obtain ⟨a3, hmv⟩ := q_and_i hmv
  obtain ⟨a4, hmv⟩ := q_and_i hmv
  obtain ⟨a5, hmv⟩ := q_and_i hmv
  obtain ⟨a6, hmv⟩ := q_and_i hmv
  obtain ⟨a7, hmv⟩ := q_and_i hmv
  obtain ⟨a8, a9⟩ := q_and_i hmv
  have hts0 := atoms_spec (ws := q_wsM x) B.pre
  have hts : ∀ w ∈ q_GL2, w.before arR.toArray s = true := fun w hw => hts0 w (List.mem_cons_of_mem _ hw)
  have hown : s.vm.findClass (q_on (q_cn x)) = some m.cls := by
    rw [← of_decide_eq_true a2]
    exact findClass_of_methodNamed B.named
  have hnm : meth.name = (q_y x).name := (name_of_methodNamed B.named B.method).1
  have hCx : q_Cx x p l (q_rm x) s m arR.toArray meth c base bs L xs := ⟨B.exec, B.bytes, hml, hown, hts, B.notSynchronized, fun _ => hnm, fun _ => htab, hKX, hst, rfl, Or.inl hx9⟩
  have hl := lv_entry arR (n := q_mL x) (by rw [q_slen_s ar arR hF, ← q_bq a1]; exact hwid)
  rw [lg_entry_eq]
  generalize (lg_sl arR ++ List.replicate (q_mL x - (lg_sl arR).length) Slot.unset).toArray = ls at hl ⊢
  have hmain := hrun (fun c9 => q_G (q_w p l e (q_rm x) s m arR.toArray below meth c (vx_MQ below (q_Qc ρ bs base D ws lfs) (q_XC ρ bs base D ws lfs) arR.toArray s (q_rm x).cells (q_rm x).slots (q_A base))) q_cl (q_mL x) ρ bs base D ws s c9)
    (fun c9 z cf hcf hz hG hLF => q_step_s (Nat.lt_succ_of_lt hx9) hCx hr rfl hxs (q_bq a7) (q_hrel_i a8) hcf (q_ends_m hx9 hCx B.returns) hz hG hLF)
    (fun pc lo j st hp9 cl sl hG ho ws9 tys9 H9 locs9 ls9 lv9 sR9 hK9 hP9 hD9 hS9 hW9 hE9 hL9 hF9 hl9 => by
      obtain ⟨V, r, rfl, g1, g2⟩ := q_F2_c hF9
      exact hG ho ws9 tys9 H9 locs9 ls9 lv9 (V :: r) hK9 hP9 hD9 hS9 hW9 hE9 hL9 ⟨(show V = .int (Int32.ofInt (ρ j)) from g1), g2⟩ hl9)
    (fun pc lo lo' st hp9 cl sl hsub hG ho ws9 tys9 H9 locs9 ls9 lv9 sR9 hK9 hP9 hD9 hS9 hW9 hE9 hL9 hF9 hl9 => by
      obtain ⟨lv', k1, k2⟩ := q_F2_sb hL9 lo' hsub
      exact hG ho ws9 tys9 H9 locs9 ls9 lv' sR9 hK9 hP9 hD9 hS9 hW9 hE9 k1 hF9 ⟨hl9.1, hl9.2.1, fun q hq => hl9.2.2 q (k2 q hq)⟩)
  exact hmain (fun i p h => by cases i <;> cases h) ws tys s.heap [] ls (lv_args 0 arR) [] hK hPP hD va_S.rf hW (q_Ex.rf ws) (q_args_s ar arR hF 0) trivial hl
end q_bdT
/-- what is taken as known of the things that stand all through -/
def q_GG (Γ : q_Γ) : Prop := q_rg Γ.1 ∧ (∀ j, j < Γ.2.2.2.1 → Int32.ofInt (Γ.1 j) = Γ.2.2.2.2.1 j) ∧ Γ.2.2.2.2.2.2.stackTraces = false
/-- a method out of its body's run -/
theorem q_M.of {Γ : q_Γ} {K : Nat → q_Ly} {n x : Nat} {P : Nat → q_V → q_F → Prop} {ar : List q_V} {h : q_F} (hx9 : x < 369) (hwid : q_wid ar ≤ (q_mt x).2.1.1) (hG : q_GG Γ) (k : q_R Γ K n x P (0, q_args ar 0, [], q_hp K n h, [], 0, 0)) : q_M Γ K n x ar h P := by
  obtain ⟨t, v, h', hP, hT⟩ := k
  refine ⟨t, v, h', hP, ?_⟩
  obtain ⟨ρ, bs, base, L, xs, D, l⟩ := Γ
  obtain ⟨hr, hxs, hst⟩ := hG
  intro ws tys arR hD hW hF
  have hmv := q_mv_ok x hx9
  obtain ⟨a1, hmv⟩ := q_and_i hmv
  obtain ⟨a2, hmv⟩ := q_and_i hmv
  obtain ⟨a3, hmv⟩ := q_and_i hmv
  cases hh : q_hh x with
  | nil =>
    refine vx_ofW (cc := q_bc x) (maxL := q_mL x) (ret := q_rt x) (ws' := q_GL2) a3 (by unfold q_wsM; rw [q_cw_c hh]) ?_
    intro p e s m args below meth c s₁ B hml ht hP
    refine q_bodyT hr hxs hst hT hwid hx9 hD hW hF B hml ?_ hP
    rw [hh]
    cases hl : c.exceptionTable.toList with
    | nil => rfl
    | cons a r => exact (ht a (by rw [hl]; exact List.mem_cons_self)).elim
  | cons a r =>
    refine vx_ofWH (cc := q_bc x) (maxL := q_mL x) (ret := q_rt x) (hh := q_hh x) (ws' := q_GL2) a3 (by unfold q_wsM; rw [q_cw_h hh]) ?_
    intro p e s m args below meth c s₁ B hml hP
    refine q_bodyT hr hxs hst hT hwid hx9 hD hW hF B hml ?_ hP
    refine vx_table (x := q_y x) B (y := q_y x) (bytes := q_bc x) (maxL' := q_mL x) (ret' := q_rt x) ?_
    have hc := atoms_spec (ws := q_wsM x) B.pre _ List.mem_cons_self
    rw [q_cw_h hh] at hc
    exact hc
end -- [22.body]
section -- [23.lay]
/-! Part 23: the cells of the object, of the reference and of the law, by their places. Printed by wip/tools/gen23.py. -/
abbrev q_nn : Nat := 155
abbrev q_lAx (a : Nat) : q_Ly := (0, 1, [(0, 0), (0, 0), (0, 0), (0, 0), (0, 0), (0, 0), (0, 0), (0, 0), (0, 0), (0, 0), (0, 0), (0, 0), (0, 0), (0, 0), (2, Int.ofNat (a + 1))])
abbrev q_lAc : q_Ly := (0, 0, [(0, 0), (0, 0), (0, 0), (0, 0), (0, 0), (0, 0), (0, 0)])
abbrev q_lTb (t : Nat) : q_Ly := (0, 6, [(2, Int.ofNat (t + 1)), (2, Int.ofNat (t + 3)), (2, Int.ofNat (t + 5)), (2, Int.ofNat (t + 7)), (0, 0), (0, 0), (0, 0), (0, 0), (1, 0), (1, 0), (1, 0)])
abbrev q_lTg (t : Nat) : q_Ly := (0, 7, [(2, Int.ofNat (t + 1)), (0, 0)])
def q_lt (t j : Nat) : q_Ly := match j with
  | 0 => q_lTb t
  | 1 => q_lAx (t + 1)
  | 2 => q_lAc
  | 3 => q_lAx (t + 3)
  | 4 => q_lAc
  | 5 => q_lAx (t + 5)
  | 6 => q_lAc
  | 7 => q_lTg (t + 7)
  | _ => (1, 48, [])
def q_K0 (k : Nat) : q_Ly := match k with
  | 0 => (0, 8, [(2, Int.ofNat 1), (2, Int.ofNat 3), (2, Int.ofNat 6), (2, Int.ofNat 15), (2, Int.ofNat 24), (2, Int.ofNat 33), (2, Int.ofNat 125), (2, Int.ofNat 135), (2, Int.ofNat 137), (0, 0)])
  | 1 => (0, 2, [(2, Int.ofNat 2), (0, 0)])
  | 2 => (2, 600, [])
  | 3 => (0, 5, [(2, Int.ofNat 4), (2, Int.ofNat 5), (0, 0), (0, 0), (0, 0), (0, 0), (0, 0)])
  | 4 => (1, 18, [])
  | 5 => (1, 3, [])
  | 33 => (0, 3, [(2, Int.ofNat 34), (0, 0), (0, 0)])
  | 34 => (5, 10, [(2, Int.ofNat 35), (2, Int.ofNat 44), (2, Int.ofNat 53), (2, Int.ofNat 62), (2, Int.ofNat 71), (2, Int.ofNat 80), (2, Int.ofNat 89), (2, Int.ofNat 98), (2, Int.ofNat 107), (2, Int.ofNat 116)])
  | 125 => (0, 4, [(2, Int.ofNat 126), (2, Int.ofNat 127), (2, Int.ofNat 128), (2, Int.ofNat 129), (2, Int.ofNat 130), (2, Int.ofNat 131), (2, Int.ofNat 132), (2, Int.ofNat 133), (2, Int.ofNat 134), (0, 0), (0, 0)])
  | 126 => (1, 48, [])
  | 127 => (1, 48, [])
  | 128 => (1, 48, [])
  | 129 => (1, 16, [])
  | 130 => (1, 16, [])
  | 131 => (1, 16, [])
  | 132 => (1, 16, [])
  | 133 => (1, 16, [])
  | 134 => (1, 17, [])
  | 135 => (0, 7, [(2, Int.ofNat 136), (0, 0)])
  | 136 => (1, 48, [])
  | 137 => (0, 2, [(2, Int.ofNat 138), (0, 0)])
  | 138 => (2, 600, [])
  | 139 => (0, 9, [(2, Int.ofNat 140), (2, Int.ofNat 141), (2, Int.ofNat 142), (2, Int.ofNat 143), (2, Int.ofNat 144), (0, 0), (0, 0), (0, 0), (2, Int.ofNat 145), (2, Int.ofNat 146), (2, Int.ofNat 147), (2, Int.ofNat 148), (2, Int.ofNat 149), (2, Int.ofNat 150), (0, 0), (0, 0), (0, 0), (0, 0), (0, 0), (0, 0), (0, 0), (0, 0), (0, 0), (0, 0), (1, 0), (2, Int.ofNat 151), (2, Int.ofNat 152), (0, 0)])
  | 140 => (3, 122, [])
  | 141 => (3, 122, [])
  | 142 => (3, 122, [])
  | 143 => (3, 122, [])
  | 144 => (3, 1220, [])
  | 145 => (1, 48, [])
  | 146 => (1, 16, [])
  | 147 => (1, 16, [])
  | 148 => (1, 16, [])
  | 149 => (1, 17, [])
  | 150 => (1, 600, [])
  | 151 => (1, 3, [])
  | 152 => (1, 300, [])
  | 153 => (3, 1, [])
  | 154 => (4, 1, [])
  | _ => (9, 0, [])
def q_K (k : Nat) : q_Ly := if 6 ≤ k ∧ k < 33 then q_lt (k - (k - 6) % 9) ((k - 6) % 9) else if 35 ≤ k ∧ k < 125 then q_lt (k - (k - 35) % 9) ((k - 35) % 9) else q_K0 k
/-- a table -/
def q_isT (t : Nat) : Prop := t = 6 ∨ t = 15 ∨ t = 24 ∨ t = 35 ∨ t = 44 ∨ t = 53 ∨ t = 62 ∨ t = 71 ∨ t = 80 ∨ t = 89 ∨ t = 98 ∨ t = 107 ∨ t = 116
theorem q_K_t {t : Nat} (h : q_isT t) : ∀ j, j < 9 → q_K (t + j) = q_lt t j := by
  intro j hj
  rcases h with rfl | rfl | rfl | rfl | rfl | rfl | rfl | rfl | rfl | rfl | rfl | rfl | rfl <;> (match j, hj with
    | 0, _ => rfl
    | 1, _ => rfl
    | 2, _ => rfl
    | 3, _ => rfl
    | 4, _ => rfl
    | 5, _ => rfl
    | 6, _ => rfl
    | 7, _ => rfl
    | 8, _ => rfl)
theorem q_T_n {t : Nat} (h : q_isT t) : t + 8 < 125 := by
  rcases h with rfl | rfl | rfl | rfl | rfl | rfl | rfl | rfl | rfl | rfl | rfl | rfl | rfl <;> omega
/-- an axis -/
def q_isA (a : Nat) : Prop := ∃ t, q_isT t ∧ (a = t + 1 ∨ a = t + 3 ∨ a = t + 5)
theorem q_K_a {a : Nat} (h : q_isA a) : q_K a = q_lAx a := by
  obtain ⟨t, ht, rfl | rfl | rfl⟩ := h
  · exact q_K_t ht 1 (by omega)
  · exact q_K_t ht 3 (by omega)
  · exact q_K_t ht 5 (by omega)
theorem q_K_c {a : Nat} (h : q_isA a) : q_K (a + 1) = q_lAc := by
  obtain ⟨t, ht, rfl | rfl | rfl⟩ := h
  · exact q_K_t ht 2 (by omega)
  · exact q_K_t ht 4 (by omega)
  · exact q_K_t ht 6 (by omega)
theorem q_A_n {a : Nat} (h : q_isA a) : a + 1 < 125 := by
  obtain ⟨t, ht, rfl | rfl | rfl⟩ := h <;> have := q_T_n ht <;> omega
/-- an account; a row of bytes; a row of targets -/
def q_isC (c : Nat) : Prop := ∃ a, q_isA a ∧ c = a + 1
def q_isB (b : Nat) : Prop := b = 1 ∨ b = 137
def q_isG (g : Nat) : Prop := (∃ t, q_isT t ∧ g = t + 7) ∨ g = 135
theorem q_fA {a : Nat} (h : q_isA a) : q_K a = q_lAx a ∧ q_K (a + 1) = q_lAc ∧ a + 1 < 125 ∧ 6 < a := by
  refine ⟨q_K_a h, q_K_c h, q_A_n h, ?_⟩
  obtain ⟨t, ht, h9⟩ := h
  rcases ht with rfl | rfl | rfl | rfl | rfl | rfl | rfl | rfl | rfl | rfl | rfl | rfl | rfl <;> omega
theorem q_fC {c : Nat} (h : q_isC c) : q_K c = q_lAc ∧ c < 125 ∧ 6 < c := by
  obtain ⟨a, h, rfl⟩ := h
  obtain ⟨h1, h2, h3, h4⟩ := q_fA h
  exact ⟨h2, h3, by omega⟩
theorem q_fB {b : Nat} (h : q_isB b) : q_K b = (0, 2, [(2, Int.ofNat (b + 1)), (0, 0)]) ∧ q_K (b + 1) = (2, 600, []) ∧ b + 1 < 139 ∧ (b = 1 ∨ b = 137) := by
  rcases h with rfl | rfl
  · exact ⟨rfl, rfl, by omega, Or.inl rfl⟩
  · exact ⟨rfl, rfl, by omega, Or.inr rfl⟩
theorem q_fT {t : Nat} (h : q_isT t) : q_K t = q_lTb t ∧ q_K (t + 1) = q_lAx (t + 1) ∧ q_K (t + 1 + 1) = q_lAc ∧ q_K (t + 3) = q_lAx (t + 3) ∧ q_K (t + 3 + 1) = q_lAc ∧ q_K (t + 5) = q_lAx (t + 5) ∧ q_K (t + 5 + 1) = q_lAc ∧ q_K (t + 7) = q_lTg (t + 7) ∧ q_K (t + 7 + 1) = (1, 48, []) ∧ t + 8 < 125 ∧ 6 ≤ t := by
  refine ⟨q_K_t h 0 (by omega), q_K_t h 1 (by omega), q_K_t h 2 (by omega), q_K_t h 3 (by omega), q_K_t h 4 (by omega), q_K_t h 5 (by omega), q_K_t h 6 (by omega), q_K_t h 7 (by omega), q_K_t h 8 (by omega), q_T_n h, ?_⟩
  rcases h with rfl | rfl | rfl | rfl | rfl | rfl | rfl | rfl | rfl | rfl | rfl | rfl | rfl <;> omega
theorem q_fG {g : Nat} (h : q_isG g) : q_K g = q_lTg g ∧ q_K (g + 1) = (1, 48, []) ∧ g + 1 < 137 ∧ 6 < g := by
  rcases h with ⟨t, ht, rfl⟩ | rfl
  · obtain ⟨h0, h1, h2, h3, h4, h5, h6, h7, h8, h9, h10⟩ := q_fT ht
    exact ⟨h7, h8, by omega, by omega⟩
  · exact ⟨rfl, rfl, by omega, by omega⟩
theorem q_hC {a : Nat} (h : q_isA a) : q_isC (a + 1) := ⟨a, h, rfl⟩
theorem q_h1 {t : Nat} (h : q_isT t) : q_isA (t + 1) := ⟨t, h, Or.inl rfl⟩
theorem q_h3 {t : Nat} (h : q_isT t) : q_isA (t + 3) := ⟨t, h, Or.inr (Or.inl rfl)⟩
theorem q_h5 {t : Nat} (h : q_isT t) : q_isA (t + 5) := ⟨t, h, Or.inr (Or.inr rfl)⟩
theorem q_hG {t : Nat} (h : q_isT t) : q_isG (t + 7) := Or.inl ⟨t, h, rfl⟩
theorem q_hP : q_isG 135 := Or.inr rfl
theorem q_hB1 : q_isB 1 := Or.inl rfl
theorem q_hB2 : q_isB 137 := Or.inr rfl
theorem q_hT6 : q_isT 6 := Or.inl rfl
theorem q_hT15 : q_isT 15 := Or.inr (Or.inl rfl)
theorem q_hT24 : q_isT 24 := Or.inr (Or.inr (Or.inl rfl))
/-- where a truth value lies -/
def q_zf (L : q_Ly) (j : Nat) : Bool := bif Nat.beq L.1 0 then (bif Nat.beq L.2.1 1 then (bif Nat.beq j 10 then true else Nat.beq j 11) else bif Nat.beq L.2.1 6 then (bif Nat.beq j 5 then true else Nat.beq j 6) else bif Nat.beq L.2.1 8 then Nat.beq j 9 else bif Nat.beq L.2.1 9 then Nat.beq j 6 else false) else false
def q_Bz (h : q_F) : Prop := ∀ k j, q_zf (q_K k) j = true → h k j = 0 ∨ h k j = 1
/-- only cells of S have changed, and truth values are kept -/
def q_Fr (S : Nat → Prop) (h h' : q_F) : Prop := (∀ k, ¬ S k → h' k = h k) ∧ (q_Bz h → q_Bz h')
theorem q_Fr.rf {S : Nat → Prop} {h : q_F} : q_Fr S h h := ⟨fun _ _ => rfl, fun z => z⟩
theorem q_ud_f {S : Nat → Prop} {h h' : q_F} {k j : Nat} {v : Int} (f : ∀ k, ¬ S k → h' k = h k) (hk : S k) : ∀ k', ¬ S k' → q_ud h' k j v k' = h k' := by
  intro k' hk'
  rw [← f k' hk']
  funext j'
  exact q_ud_n (fun h9 => hk' (h9.1 ▸ hk))
theorem q_Fr.ud {S : Nat → Prop} {h h' : q_F} {k j : Nat} {v : Int} {L : q_Ly} (f : q_Fr S h h') (hk : S k) (hK : q_K k = L) (hz : q_zf L j = false) : q_Fr S h (q_ud h' k j v) := by
  refine ⟨q_ud_f f.1 hk, fun z k' j' hz' => ?_⟩
  have : ¬ (k' = k ∧ j' = j) := by
    rintro ⟨rfl, rfl⟩
    rw [hK, hz] at hz'; cases hz'
  rw [q_ud_n this]
  exact f.2 z k' j' hz'
theorem q_Fr.udz {S : Nat → Prop} {h h' : q_F} {k j : Nat} {v : Int} (f : q_Fr S h h') (hk : S k) (hv : v = 0 ∨ v = 1) : q_Fr S h (q_ud h' k j v) := by
  refine ⟨q_ud_f f.1 hk, fun z k' j' hz' => ?_⟩
  by_cases h9 : k' = k ∧ j' = j
  · rw [h9.1, h9.2, q_ud_s]; exact hv
  · rw [q_ud_n h9]
    exact f.2 z k' j' hz'
theorem q_Fr.tr {S S' : Nat → Prop} {h h1 h2 : q_F} (f : q_Fr S h h1) (g : q_Fr S' h1 h2) (hs : ∀ k, S' k → S k) : q_Fr S h h2 :=
  ⟨fun k hk => (g.1 k (fun h9 => hk (hs k h9))).trans (f.1 k hk), fun z => g.2 (f.2 z)⟩
theorem q_Fr.bz {S : Nat → Prop} {h h' : q_F} (z : q_Bz h) (f : q_Fr S h h') : q_Bz h' := f.2 z
theorem r_getz {Γ : q_Γ} {n i pc len nx x y idx cl sl kk : Nat} {v d2 : Int} {P : Nat → q_V → q_F → Prop} {lo : q_L} {st : List q_V} {h : q_F} {ds : List q_Ds} (hz : q_Bz h) (he : q_cat i pc (.getfield idx) len x y v) (hk : kk < n) (hN : n ≤ 256) (hK : q_K kk = (0, x, ds)) (hd : ds[y]? = some (0, d2)) (hf : q_zf (0, x, ds) y = true) (hn : Nat.add pc len = nx) (k : (h kk y = 0 ∨ h kk y = 1) → q_R Γ q_K n i P (nx, lo, (0, h kk y) :: st, q_hp q_K n h, [], cl, sl)) : q_R Γ q_K n i P (pc, lo, (2, Int.ofNat kk) :: st, q_hp q_K n h, [], cl, sl) := r_geti he hk hN hK hd hn (k (hz kk y (by rw [hK]; exact hf)))
theorem q_mu {v : Int} (h : -2147483648 ≤ v ∧ v < 2147483648) : 2147483648 - v < ((4294967298 : Nat) : Int) := by omega
theorem q_mdd {v : Int} (h : -2147483648 ≤ v ∧ v < 2147483648) : v + 2147483648 < ((4294967298 : Nat) : Int) := by omega
theorem q_w32_pd {x : Int} (h : -2147483648 < q_w32 x) : q_w32 (x + -1) = q_w32 x - 1 := by
  obtain ⟨h1, h2, k, hk⟩ := q_w32_s x
  obtain ⟨g1, g2, j, gj⟩ := q_w32_s (x + -1)
  omega
theorem q_w32_sc {x : Int} (h : q_w32 x < 2147483647) : q_w32 (x + 1) = q_w32 x + 1 := by
  obtain ⟨h1, h2, k, hk⟩ := q_w32_s x
  obtain ⟨g1, g2, j, gj⟩ := q_w32_s (x + 1)
  omega
theorem q_sw4 {a : Int} (h1 : 0 ≤ a) (h2 : a ≤ 4) : a = (0 : Int) ∨ a = (1 : Int) ∨ a = (2 : Int) ∨ a = (3 : Int) ∨ a = (4 : Int) := by omega
theorem q_sw5 {a : Int} (h1 : 0 ≤ a) (h2 : a ≤ 5) : a = (0 : Int) ∨ a = (1 : Int) ∨ a = (2 : Int) ∨ a = (3 : Int) ∨ a = (4 : Int) ∨ a = (5 : Int) := by omega
theorem q_sw6 {a : Int} (h1 : 0 ≤ a) (h2 : a ≤ 6) : a = (0 : Int) ∨ a = (1 : Int) ∨ a = (2 : Int) ∨ a = (3 : Int) ∨ a = (4 : Int) ∨ a = (5 : Int) ∨ a = (6 : Int) := by omega
theorem q_sw7 {a : Int} (h1 : 0 ≤ a) (h2 : a ≤ 7) : a = (0 : Int) ∨ a = (1 : Int) ∨ a = (2 : Int) ∨ a = (3 : Int) ∨ a = (4 : Int) ∨ a = (5 : Int) ∨ a = (6 : Int) ∨ a = (7 : Int) := by omega
theorem q_ring {z : Int} (h0 : 0 ≤ z) (h1 : z < 10) : ∃ r, (q_K 34).2.2[z.toNat]? = some (2, Int.ofNat r) ∧ q_isT r ∧ 35 ≤ r := by
  obtain e | e | e | e | e | e | e | e | e | e : z = 0 ∨ z = 1 ∨ z = 2 ∨ z = 3 ∨ z = 4 ∨ z = 5 ∨ z = 6 ∨ z = 7 ∨ z = 8 ∨ z = 9 := by omega
  · exact ⟨35, by rw [e]; rfl, Or.inr (Or.inr (Or.inr (Or.inl rfl))), by omega⟩
  · exact ⟨44, by rw [e]; rfl, Or.inr (Or.inr (Or.inr (Or.inr (Or.inl rfl)))), by omega⟩
  · exact ⟨53, by rw [e]; rfl, Or.inr (Or.inr (Or.inr (Or.inr (Or.inr (Or.inl rfl))))), by omega⟩
  · exact ⟨62, by rw [e]; rfl, Or.inr (Or.inr (Or.inr (Or.inr (Or.inr (Or.inr (Or.inl rfl)))))), by omega⟩
  · exact ⟨71, by rw [e]; rfl, Or.inr (Or.inr (Or.inr (Or.inr (Or.inr (Or.inr (Or.inr (Or.inl rfl))))))), by omega⟩
  · exact ⟨80, by rw [e]; rfl, Or.inr (Or.inr (Or.inr (Or.inr (Or.inr (Or.inr (Or.inr (Or.inr (Or.inl rfl)))))))), by omega⟩
  · exact ⟨89, by rw [e]; rfl, Or.inr (Or.inr (Or.inr (Or.inr (Or.inr (Or.inr (Or.inr (Or.inr (Or.inr (Or.inl rfl))))))))), by omega⟩
  · exact ⟨98, by rw [e]; rfl, Or.inr (Or.inr (Or.inr (Or.inr (Or.inr (Or.inr (Or.inr (Or.inr (Or.inr (Or.inr (Or.inl rfl)))))))))), by omega⟩
  · exact ⟨107, by rw [e]; rfl, Or.inr (Or.inr (Or.inr (Or.inr (Or.inr (Or.inr (Or.inr (Or.inr (Or.inr (Or.inr (Or.inr (Or.inl rfl))))))))))), by omega⟩
  · exact ⟨116, by rw [e]; rfl, Or.inr (Or.inr (Or.inr (Or.inr (Or.inr (Or.inr (Or.inr (Or.inr (Or.inr (Or.inr (Or.inr (Or.inr (rfl)))))))))))), by omega⟩
theorem q_sw6b {a : Int} (h1 : 6 ≤ a) (h2 : a ≤ 11) : a = (6 : Int) ∨ a = (7 : Int) ∨ a = (8 : Int) ∨ a = (9 : Int) ∨ a = (10 : Int) ∨ a = (11 : Int) := by omega
end -- [23.lay]
section -- [29.ref]
/-! Part 29: the reference's row: what its places hold; frames by places. Printed by wip/tools/gen29.py. -/
abbrev q_r32 (v : Int) : Prop := -2147483648 ≤ v ∧ v < 2147483648
abbrev q_r64 (v : Int) : Prop := -9223372036854775808 ≤ v ∧ v < 9223372036854775808
abbrev q_Rw (j : Nat) (v : Int) : Prop := (j = 0 → 1 ≤ v ∧ v ≤ 1000) ∧ (j = 4 → 0 ≤ v ∧ v ≤ 16) ∧ (8 ≤ j → j ≤ 10 → 1 ≤ v ∧ v ≤ 2000) ∧ (11 ≤ j → j ≤ 13 → 0 ≤ v ∧ v ≤ 20) ∧ (14 ≤ j → j ≤ 16 → 1 ≤ v ∧ v ≤ 5000) ∧ (17 ≤ j → j ≤ 19 → 1 ≤ v ∧ v ≤ 500) ∧ (47 ≤ j → j ≤ 49 → 0 ≤ v ∧ v ≤ 2000) ∧ (74 ≤ j → 0 ≤ v ∧ v ≤ 2000)
abbrev q_Rf (j : Nat) (v : Int) : Prop := (j = 5 → 0 ≤ v ∧ v ≤ 10) ∧ (j = 14 → 0 ≤ v ∧ v ≤ 600) ∧ (j = 19 → 0 ≤ v ∧ v ≤ 600) ∧ (j = 20 → 0 ≤ v ∧ v ≤ 600) ∧ (j = 27 → 0 ≤ v ∧ v ≤ 300)
/-- what a place of the reference holds: the row; its own fields; its other rows of longs; its rows of ints -/
def q_Rv (k j : Nat) (v : Int) : Prop := (k = 140 → q_r64 v ∧ q_Rw j v) ∧ (k = 139 → q_r64 v ∧ (j = 24 ∨ q_r32 v) ∧ q_Rf j v) ∧ (141 ≤ k → k ≤ 144 → q_r64 v) ∧ (145 ≤ k → k ≤ 152 → q_r32 v)
def q_Rb (h : q_F) : Prop := ∀ k j, q_Rv k j (h k j)
theorem q_rh1 (z : Int) : -9223372036854775808 ≤ q_w64 z := (q_w64_s z).1
theorem q_rh2 (z : Int) : q_w64 z < 9223372036854775808 := (q_w64_s z).2.1
theorem q_rgi (x : Int32) : q_r32 x.toInt := ⟨Int32.le_toInt x, Int32.toInt_lt x⟩
theorem q_rgj (x : Int64) : q_r64 x.toInt := ⟨Int64.le_toInt x, Int64.toInt_lt x⟩
theorem q_rj {v : Int} (h : q_r32 v) : q_r64 v := ⟨by omega, by omega⟩
theorem q_Rv0 {k j : Nat} {v : Int} (h1 : k = 140 → q_r64 v ∧ q_Rw j v) (h2 : k = 139 → q_r64 v ∧ (j = 24 ∨ q_r32 v) ∧ q_Rf j v) (h3 : 141 ≤ k → k ≤ 144 → q_r64 v) (h4 : 145 ≤ k → k ≤ 152 → q_r32 v) : q_Rv k j v := ⟨h1, h2, h3, h4⟩
def q_Gr (S : Nat → Nat → Prop) (h h' : q_F) : Prop := (∀ k j, ¬ S k j → h' k j = h k j) ∧ (q_Bz h → q_Bz h') ∧ (q_Rb h → q_Rb h')
theorem q_Gr.rf {S : Nat → Nat → Prop} {h : q_F} : q_Gr S h h := ⟨fun _ _ _ => rfl, fun z => z, fun z => z⟩
theorem q_ud_rb {h : q_F} {k j : Nat} {v : Int} (hr : q_Rb h) (hb : q_Rv k j v) : q_Rb (q_ud h k j v) := by
  intro k' j'
  by_cases h9 : k' = k ∧ j' = j
  · rw [h9.1, h9.2, q_ud_s]; exact hb
  · rw [q_ud_n h9]; exact hr k' j'
theorem q_ud_g {S : Nat → Nat → Prop} {h h' : q_F} {k j : Nat} {v : Int} (f : ∀ k j, ¬ S k j → h' k j = h k j) (hk : S k j) : ∀ k' j', ¬ S k' j' → q_ud h' k j v k' j' = h k' j' := by
  intro k' j' hk'
  have h8 : ¬ (k' = k ∧ j' = j) := by
    rintro ⟨rfl, rfl⟩
    exact hk' hk
  rw [q_ud_n h8]
  exact f k' j' hk'
theorem q_Gr.ud {S : Nat → Nat → Prop} {h h' : q_F} {k j : Nat} {v : Int} {L : q_Ly} (f : q_Gr S h h') (hk : S k j) (hK : q_K k = L) (hz : q_zf L j = false) (hb : q_Rv k j v) : q_Gr S h (q_ud h' k j v) := by
  refine ⟨q_ud_g f.1 hk, fun z k' j' hz' => ?_, fun z => q_ud_rb (f.2.2 z) hb⟩
  have : ¬ (k' = k ∧ j' = j) := by
    rintro ⟨rfl, rfl⟩
    rw [hK, hz] at hz'; cases hz'
  rw [q_ud_n this]
  exact f.2.1 z k' j' hz'
theorem q_Gr.udz {S : Nat → Nat → Prop} {h h' : q_F} {k j : Nat} {v : Int} (f : q_Gr S h h') (hk : S k j) (hv : v = 0 ∨ v = 1) (hb : q_Rv k j v) : q_Gr S h (q_ud h' k j v) := by
  refine ⟨q_ud_g f.1 hk, fun z k' j' hz' => ?_, fun z => q_ud_rb (f.2.2 z) hb⟩
  by_cases h9 : k' = k ∧ j' = j
  · rw [h9.1, h9.2, q_ud_s]; exact hv
  · rw [q_ud_n h9]
    exact f.2.1 z k' j' hz'
theorem q_Gr.tr {S S' : Nat → Nat → Prop} {h h1 h2 : q_F} (f : q_Gr S h h1) (g : q_Gr S' h1 h2) (hs : ∀ k j, S' k j → S k j) : q_Gr S h h2 :=
  ⟨fun k j hk => (g.1 k j (fun h9 => hk (hs k j h9))).trans (f.1 k j hk), fun z => g.2.1 (f.2.1 z), fun z => g.2.2 (f.2.2 z)⟩
theorem q_Gr.bz {S : Nat → Nat → Prop} {h h' : q_F} (z : q_Bz h) (f : q_Gr S h h') : q_Bz h' := f.2.1 z
theorem q_Gr.rb {S : Nat → Nat → Prop} {h h' : q_F} (z : q_Rb h) (f : q_Gr S h h') : q_Rb h' := f.2.2 z
theorem q_Rw_w {j : Nat} {v : Int} (h : q_Rw j v) : q_Rw j (q_w32 v) := by
  by_cases h9 : 0 ≤ v ∧ v ≤ 5000
  · rw [q_w32_id (by omega) (by omega)]; exact h
  · refine ⟨?_, ?_, ?_, ?_, ?_, ?_, ?_, ?_⟩ <;> (intros; exfalso; omega)
theorem q_neg {a : Int} (h1 : -2147483648 < a) (h2 : a < 2147483648) : (-(Int32.ofInt a)).toInt = -a := by
  rw [Int32.toInt_neg, q_w32_m, q_w32_id (by omega) (by omega)]
  exact Int.bmod_eq_of_le (by omega) (by omega)
section q_rr
variable {Γ : q_Γ} {i pc len nx x y idx cl sl : Nat} {v : Int} {P : Nat → q_V → q_F → Prop} {lo : q_L} {st : List q_V} {h : q_F} {hp : q_H}
theorem r_laldw {j j' : Int} {jn : Nat} (hR : q_Rb h) (he : q_cat i pc .laload len x y v) (hj : q_w32 j = j') (hj0 : 0 ≤ j') (hj1 : j' < (122 : Nat)) (hjn : j'.toNat = jn) (hn : Nat.add pc len = nx) (k : q_r64 (h 140 jn) ∧ q_Rw jn (h 140 jn) → q_R Γ q_K 155 i P (nx, lo, (1, h 140 jn) :: st, q_hp q_K 155 h, [], cl, sl)) : q_R Γ q_K 155 i P (pc, lo, (0, j) :: (2, Int.ofNat 140) :: st, q_hp q_K 155 h, [], cl, sl) := by
  subst hjn
  exact r_lald he (by decide) (by decide) rfl (by decide) hj hj0 hj1 hn (k ((hR 140 _).1 rfl))
theorem r_getf {d2 : Int} (hR : q_Rb h) (he : q_cat i pc (.getfield idx) len 9 y v) (hd : (q_K 139).2.2[y]? = some (0, d2)) (h24 : y ≠ 24) (hn : Nat.add pc len = nx) (k : q_r32 (h 139 y) ∧ q_Rf y (h 139 y) → q_R Γ q_K 155 i P (nx, lo, (0, h 139 y) :: st, q_hp q_K 155 h, [], cl, sl)) : q_R Γ q_K 155 i P (pc, lo, (2, Int.ofNat 139) :: st, q_hp q_K 155 h, [], cl, sl) :=
  r_geti he (by decide) (by decide) rfl hd hn (k ⟨((hR 139 y).2.1 rfl).2.1.resolve_left h24, ((hR 139 y).2.1 rfl).2.2⟩)
theorem r_getj {d2 : Int} (hR : q_Rb h) (he : q_cat i pc (.getfield idx) len 9 y v) (hd : (q_K 139).2.2[y]? = some (1, d2)) (hn : Nat.add pc len = nx) (k : q_r64 (h 139 y) → q_R Γ q_K 155 i P (nx, lo, (1, h 139 y) :: st, q_hp q_K 155 h, [], cl, sl)) : q_R Γ q_K 155 i P (pc, lo, (2, Int.ofNat 139) :: st, q_hp q_K 155 h, [], cl, sl) :=
  r_getl he (by decide) (by decide) rfl hd hn (k ((hR 139 y).2.1 rfl).1)
theorem r_ialdr {kk N : Nat} {ds : List q_Ds} {j j' : Int} (hR : q_Rb h) (he : q_cat i pc .iaload len x y v) (hk1 : 145 ≤ kk) (hk2 : kk ≤ 152) (hK : q_K kk = (1, N, ds)) (hN2 : N ≤ 2048) (hj : q_w32 j = j') (hj0 : 0 ≤ j') (hj1 : j' < N) (hn : Nat.add pc len = nx) (k : q_r32 (h kk j'.toNat) → q_R Γ q_K 155 i P (nx, lo, (0, h kk j'.toNat) :: st, q_hp q_K 155 h, [], cl, sl)) : q_R Γ q_K 155 i P (pc, lo, (0, j) :: (2, Int.ofNat kk) :: st, q_hp q_K 155 h, [], cl, sl) :=
  r_iald he (by omega) (by decide) hK hN2 hj hj0 hj1 hn (k ((hR kk _).2.2.2 hk1 hk2))
theorem r_lcmpn {a b a' b' : Int} (he : q_cat i pc .lcmp len x y v) (hn : Nat.add pc len = nx) (ha : q_w64 a = a') (hb : q_w64 b = b')
    (kl : a' < b' → q_R Γ q_K 155 i P (nx, lo, (0, -1) :: st, hp, [], cl, sl)) (ke : a' = b' → q_R Γ q_K 155 i P (nx, lo, (0, 0) :: st, hp, [], cl, sl)) (kg : b' < a' → q_R Γ q_K 155 i P (nx, lo, (0, 1) :: st, hp, [], cl, sl)) : q_R Γ q_K 155 i P (pc, lo, (1, b) :: (1, a) :: st, hp, [], cl, sl) := by
  subst ha; subst hb
  exact r_lcmp he hn kl ke kg
theorem r_ldivn {a b b' r : Int} (he : q_cat i pc (.ldiv) len x y v) (hb : q_w64 b = b') (h0 : b' ≠ 0) (hr : (Int64.ofInt a / Int64.ofInt b).toInt = r) (hn : Nat.add pc len = nx) (k : q_R Γ q_K 155 i P (nx, lo, (1, r) :: st, hp, [], cl, sl)) : q_R Γ q_K 155 i P (pc, lo, (1, b) :: (1, a) :: st, hp, [], cl, sl) :=
  r_ldiv he (by rw [hb]; exact h0) hr hn k
theorem q_Gr1 {k j : Nat} {w : Int} {L : q_Ly} (hK : q_K k = L) (hz : q_zf L j = false) (hb : q_Rv k j w) : q_Gr (fun k' j' => k' = k ∧ j' = j) h (q_ud h k j w) := q_Gr.ud q_Gr.rf ⟨rfl, rfl⟩ hK hz hb
/-- stores that name the heap behind them -/
theorem r_putiw {d2 w : Int} (he : q_cat i pc (.putfield idx) len 9 y v) (hd : (q_K 139).2.2[y]? = some (0, d2)) (hf : q_fit v.toNat (0, w) = true) (hz : q_zf (q_K 139) y = false) (hb : q_Rv 139 y w) (hn : Nat.add pc len = nx) (k : ∀ g, q_Gr (fun k' j' => k' = 139 ∧ j' = y) h g → g 139 y = w → q_R Γ q_K 155 i P (nx, lo, st, q_hp q_K 155 g, [], cl, sl)) : q_R Γ q_K 155 i P (pc, lo, (0, w) :: (2, Int.ofNat 139) :: st, q_hp q_K 155 h, [], cl, sl) :=
  r_puti he (by decide) (by decide) rfl hd hf hn (k _ (q_Gr1 rfl hz hb) (q_ud_s ..))
theorem r_putzw {d2 w : Int} (he : q_cat i pc (.putfield idx) len 9 y v) (hd : (q_K 139).2.2[y]? = some (0, d2)) (hw : w = 0 ∨ w = 1) (hf : q_fit v.toNat (0, w) = true) (hb : q_Rv 139 y w) (hn : Nat.add pc len = nx) (k : ∀ g, q_Gr (fun k' j' => k' = 139 ∧ j' = y) h g → g 139 y = w → q_R Γ q_K 155 i P (nx, lo, st, q_hp q_K 155 g, [], cl, sl)) : q_R Γ q_K 155 i P (pc, lo, (0, w) :: (2, Int.ofNat 139) :: st, q_hp q_K 155 h, [], cl, sl) :=
  r_puti he (by decide) (by decide) rfl hd hf hn (k _ (q_Gr.udz q_Gr.rf ⟨rfl, rfl⟩ hw hb) (q_ud_s ..))
theorem r_putlw {d2 w : Int} (he : q_cat i pc (.putfield idx) len 9 y v) (hd : (q_K 139).2.2[y]? = some (1, d2)) (hf : q_fit v.toNat (1, w) = true) (hz : q_zf (q_K 139) y = false) (hb : q_Rv 139 y w) (hn : Nat.add pc len = nx) (k : ∀ g, q_Gr (fun k' j' => k' = 139 ∧ j' = y) h g → g 139 y = w → q_R Γ q_K 155 i P (nx, lo, st, q_hp q_K 155 g, [], cl, sl)) : q_R Γ q_K 155 i P (pc, lo, (1, w) :: (2, Int.ofNat 139) :: st, q_hp q_K 155 h, [], cl, sl) :=
  r_putl he (by decide) (by decide) rfl hd hf hn (k _ (q_Gr1 rfl hz hb) (q_ud_s ..))
theorem q_zf3 {N j c : Nat} {ds : List q_Ds} (hc : Nat.beq c 0 = false) : q_zf (c, N, ds) j = false := by
  show (bif Nat.beq c 0 then _ else false) = false
  rw [hc]; rfl
theorem r_lastw {kk N : Nat} {ds : List q_Ds} {j j' w : Int} (he : q_cat i pc .lastore len x y v) (hk : kk < 155) (hK : q_K kk = (3, N, ds)) (hN2 : N ≤ 2048) (hj : q_w32 j = j') (hj0 : 0 ≤ j') (hj1 : j' < N) (hb : q_Rv kk j'.toNat w) (hn : Nat.add pc len = nx) (k : ∀ g, q_Gr (fun k' j9 => k' = kk ∧ j9 = j'.toNat) h g → g kk j'.toNat = w → q_R Γ q_K 155 i P (nx, lo, st, q_hp q_K 155 g, [], cl, sl)) : q_R Γ q_K 155 i P (pc, lo, (1, w) :: (0, j) :: (2, Int.ofNat kk) :: st, q_hp q_K 155 h, [], cl, sl) :=
  r_last he hk (by decide) hK hN2 hj hj0 hj1 hn (k _ (q_Gr1 hK (q_zf3 rfl) hb) (q_ud_s ..))
theorem r_iastw {kk N : Nat} {ds : List q_Ds} {j j' w : Int} (he : q_cat i pc .iastore len x y v) (hk : kk < 155) (hK : q_K kk = (1, N, ds)) (hN2 : N ≤ 2048) (hj : q_w32 j = j') (hj0 : 0 ≤ j') (hj1 : j' < N) (hb : q_Rv kk j'.toNat w) (hn : Nat.add pc len = nx) (k : ∀ g, q_Gr (fun k' j9 => k' = kk ∧ j9 = j'.toNat) h g → g kk j'.toNat = w → q_R Γ q_K 155 i P (nx, lo, st, q_hp q_K 155 g, [], cl, sl)) : q_R Γ q_K 155 i P (pc, lo, (0, w) :: (0, j) :: (2, Int.ofNat kk) :: st, q_hp q_K 155 h, [], cl, sl) :=
  r_iast he hk (by decide) hK hN2 hj hj0 hj1 hn (k _ (q_Gr1 hK (q_zf3 rfl) hb) (q_ud_s ..))
end q_rr
end -- [29.ref]
section -- [40.exact]
/-! Part 40: exact rules: values in range, stores that name the heap. Printed by wip/tools/gen40.py. -/
/-- the type of a place: 0 an int, 1 a long, 2 free, 3 a truth value, 4 a byte -/
noncomputable def q_tyL (L : q_Ly) (j : Nat) : Nat := match L.1 with
  | 0 => bif q_zf L j then 3 else (match L.2.2[j]? with | some d => d.1 | none => 9)
  | 1 => 0
  | 2 => 4
  | 3 => 1
  | _ => 9
noncomputable def q_in (ty : Nat) (v : Int) : Prop := match ty with
  | 0 => q_r32 v
  | 1 => q_r64 v
  | 3 => v = 0 ∨ v = 1
  | 4 => -128 ≤ v ∧ v < 128
  | 5 => 3 ≤ v.toNat ∧ v.toNat ≤ 9
  | _ => True
/-- the cells from A on up to B hold numbers of their types -/
noncomputable def q_Al (A B : Nat) (h : q_F) : Prop := ∀ k j, A ≤ k → k < B → q_in (q_tyL (q_K k) j) (h k j)
theorem q_fuE : ∃ n : Nat, 10000 ≤ n := ⟨10000, Nat.le_refl _⟩
noncomputable def q_fu : Nat := Classical.choose q_fuE
theorem q_fu_ge : 10000 ≤ q_fu := Classical.choose_spec q_fuE
noncomputable def q_let {α β : Type} (a : α) (f : α → β) : β := f a
theorem q_let_i {α β : Type} {a g : α} {f : α → Option β} {r : β} (hf : q_let a f = some r) (hg : g = a) : f g = some r := by subst hg; exact hf
theorem qx_it {c : Prop} {i : Decidable c} {α : Type} {x y : Option α} {r : α} (h : (@ite _ c i x y) = some r) (hc : c) : x = some r := by rw [if_pos hc] at h; exact h
theorem qx_ie {c : Prop} {i : Decidable c} {α : Type} {x y : Option α} {r : α} (h : (@ite _ c i x y) = some r) (hc : ¬ c) : y = some r := by rw [if_neg hc] at h; exact h
theorem qx_ck {c : Prop} {i : Decidable c} {α : Type} {x : Option α} {r : α} (h : (@ite _ c i x none) = some r) : c ∧ x = some r := by
  by_cases hc : c
  · rw [if_pos hc] at h; exact ⟨hc, h⟩
  · rw [if_neg hc] at h; cases h
theorem q_ne_lh {a : Int} {lo hi : Int} (h : a < lo ∨ hi < a) (z : Int) (h1 : lo ≤ z) (h2 : z ≤ hi) : ¬ a = z := by omega
theorem q_z32 {v : Int} (h : v = 0 ∨ v = 1) : q_r32 v := by omega
theorem q_wr (z : Int) : q_r32 (q_w32 z) := ⟨q_rg1 z, q_rg2 z⟩
theorem q_wr64 (z : Int) : q_r64 (q_w64 z) := ⟨q_rg3 z, q_rg4 z⟩
theorem q_w32_r {v : Int} (h : q_r32 v) : q_w32 v = v := q_w32_id h.1 h.2
theorem q_w64_r {v : Int} (h : q_r64 v) : q_w64 v = v := q_w64_id h.1 h.2
theorem q_r34 {v : Int} (h : q_r32 v) : q_r64 v := ⟨by omega, by omega⟩
theorem q_dn {b : Int} (h : q_r32 b) (h0 : b ≠ 0) : q_w32 b ≠ 0 := by rw [q_w32_r h]; exact h0
theorem q_dn64 {b : Int} (h : q_r64 b) (h0 : b ≠ 0) : q_w64 b ≠ 0 := by rw [q_w64_r h]; exact h0
theorem q_al0 {A B k j : Nat} {h : q_F} (hA : q_Al A B h) (e : q_tyL (q_K k) j = 0) (h1 : A ≤ k) (h2 : k < B) : q_r32 (h k j) := by have := hA k j h1 h2; rw [e] at this; exact this
theorem q_al1 {A B k j : Nat} {h : q_F} (hA : q_Al A B h) (e : q_tyL (q_K k) j = 1) (h1 : A ≤ k) (h2 : k < B) : q_r64 (h k j) := by have := hA k j h1 h2; rw [e] at this; exact this
theorem q_al3 {A B k j : Nat} {h : q_F} (hA : q_Al A B h) (e : q_tyL (q_K k) j = 3) (h1 : A ≤ k) (h2 : k < B) : h k j = 0 ∨ h k j = 1 := by have := hA k j h1 h2; rw [e] at this; exact this
theorem q_al4 {A B k j : Nat} {h : q_F} (hA : q_Al A B h) (e : q_tyL (q_K k) j = 4) (h1 : A ≤ k) (h2 : k < B) : -128 ≤ h k j ∧ h k j < 128 := by have := hA k j h1 h2; rw [e] at this; exact this
theorem q_al_ud {A B k j ty : Nat} {v : Int} {h : q_F} (hA : q_Al A B h) (e : q_tyL (q_K k) j = ty) (hv : q_in ty v) : q_Al A B (q_ud h k j v) := by
  intro k' j' h1 h2
  by_cases h9 : k' = k ∧ j' = j
  · rw [h9.1, h9.2, q_ud_s, e]; exact hv
  · rw [q_ud_n h9]; exact hA k' j' h1 h2
noncomputable def q_PP (kd ty : Nat) (x : Int) (h : q_F) : Nat → q_V → q_F → Prop := fun t w h' => t = 1 ∧ w = (kd, x) ∧ h = h' ∧ q_in ty x
noncomputable def q_PW (A B kd ty : Nat) (r : Int × q_F) : Nat → q_V → q_F → Prop := fun t w h' => t = 1 ∧ w = (kd, r.1) ∧ h' = r.2 ∧ q_in ty r.1 ∧ q_Al A B r.2
noncomputable def q_PV (A B : Nat) (r : Int × q_F) : Nat → q_V → q_F → Prop := fun t _ h' => t = 0 ∧ h' = r.2 ∧ q_Al A B r.2
-- the machine's operations, by names
noncomputable def q_ian (a b : Int) : Int := (Int32.ofInt a &&& Int32.ofInt b).toInt
noncomputable def q_ior (a b : Int) : Int := (Int32.ofInt a ||| Int32.ofInt b).toInt
noncomputable def q_ishl (a b : Int) : Int := (Int32.ofInt a <<< (Int32.ofInt b &&& 31)).toInt
noncomputable def q_ishr (a b : Int) : Int := (Int32.ofInt a >>> (Int32.ofInt b &&& 31)).toInt
noncomputable def q_iushr (a b : Int) : Int := ((Int32.ofInt a).toUInt32 >>> ((Int32.ofInt b).toUInt32 &&& Int32.toUInt32 31)).toInt32.toInt
noncomputable def q_idv (a b : Int) : Int := (Int32.ofInt a / Int32.ofInt b).toInt
noncomputable def q_irm (a b : Int) : Int := (Int32.ofInt a - Int32.ofInt a / Int32.ofInt b * Int32.ofInt b).toInt
noncomputable def q_ldv (a b : Int) : Int := (Int64.ofInt a / Int64.ofInt b).toInt
noncomputable def q_ing (a : Int) : Int := (-(Int32.ofInt a)).toInt
noncomputable def q_i2f (a : Int) : Int := Int.ofNat (FP.i2f (Int32.ofInt a)).toNat
noncomputable def q_i2d (a : Int) : Int := Int.ofNat (FP.i2d (Int32.ofInt a)).toNat
noncomputable def q_l2d (a : Int) : Int := Int.ofNat (FP.l2d (Int64.ofInt a)).toNat
noncomputable def q_fneg (a : Int) : Int := Int.ofNat (FP.fneg (UInt32.ofNat a.toNat)).toNat
noncomputable def q_fsub (a b : Int) : Int := Int.ofNat (FP.fsub (UInt32.ofNat a.toNat) (UInt32.ofNat b.toNat)).toNat
noncomputable def q_fdiv (a b : Int) : Int := Int.ofNat (FP.fdiv (UInt32.ofNat a.toNat) (UInt32.ofNat b.toNat)).toNat
noncomputable def q_dadd (a b : Int) : Int := Int.ofNat (FP.dadd (UInt64.ofNat a.toNat) (UInt64.ofNat b.toNat)).toNat
noncomputable def q_ddiv (a b : Int) : Int := Int.ofNat (FP.ddiv (UInt64.ofNat a.toNat) (UInt64.ofNat b.toNat)).toNat
noncomputable def q_fcmp (o : CmpOp) (a b : Int) : Int := (Op.cmpValue (FP.fcmp (UInt32.ofNat a.toNat) (UInt32.ofNat b.toNat)) o).toInt
noncomputable def q_dcmp (o : CmpOp) (a b : Int) : Int := (Op.cmpValue (FP.dcmp (UInt64.ofNat a.toNat) (UInt64.ofNat b.toNat)) o).toInt
noncomputable def q_fmxi (a b : Int) : Int := Int.ofNat (q_fmx (UInt32.ofNat a.toNat) (UInt32.ofNat b.toNat)).toNat
noncomputable def qx_mx (a b : Int) : Int := if a ≤ b then b else a
noncomputable def qx_mn (a b : Int) : Int := if a ≤ b then a else b
theorem qx_mxr {a b : Int} (ha : q_r32 a) (hb : q_r32 b) : q_r32 (qx_mx a b) := by unfold qx_mx; split <;> assumption
theorem qx_mnr {a b : Int} (ha : q_r32 a) (hb : q_r32 b) : q_r32 (qx_mn a b) := by unfold qx_mn; split <;> assumption
theorem q_df_iand (a b : Int) : (Int32.ofInt a &&& Int32.ofInt b).toInt = q_ian a b := rfl
theorem q_df_ior (a b : Int) : (Int32.ofInt a ||| Int32.ofInt b).toInt = q_ior a b := rfl
theorem q_df_ishl (a b : Int) : (Int32.ofInt a <<< (Int32.ofInt b &&& 31)).toInt = q_ishl a b := rfl
theorem q_df_ishr (a b : Int) : (Int32.ofInt a >>> (Int32.ofInt b &&& 31)).toInt = q_ishr a b := rfl
theorem q_df_iushr (a b : Int) : ((Int32.ofInt a).toUInt32 >>> ((Int32.ofInt b).toUInt32 &&& Int32.toUInt32 31)).toInt32.toInt = q_iushr a b := rfl
theorem q_df_idiv (a b : Int) : (Int32.ofInt a / Int32.ofInt b).toInt = q_idv a b := rfl
theorem q_df_irem (a b : Int) : (Int32.ofInt a - Int32.ofInt a / Int32.ofInt b * Int32.ofInt b).toInt = q_irm a b := rfl
theorem q_df_ldiv (a b : Int) : (Int64.ofInt a / Int64.ofInt b).toInt = q_ldv a b := rfl
theorem q_df_ineg (a : Int) : (-(Int32.ofInt a)).toInt = q_ing a := rfl
theorem q_df_i2f (a : Int) : Int.ofNat (FP.i2f (Int32.ofInt a)).toNat = q_i2f a := rfl
theorem q_df_i2d (a : Int) : Int.ofNat (FP.i2d (Int32.ofInt a)).toNat = q_i2d a := rfl
theorem q_df_l2d (a : Int) : Int.ofNat (FP.l2d (Int64.ofInt a)).toNat = q_l2d a := rfl
theorem q_df_fneg (a : Int) : Int.ofNat (FP.fneg (UInt32.ofNat a.toNat)).toNat = q_fneg a := rfl
theorem q_df_fsub (a b : Int) : Int.ofNat (FP.fsub (UInt32.ofNat a.toNat) (UInt32.ofNat b.toNat)).toNat = q_fsub a b := rfl
theorem q_df_fdiv (a b : Int) : Int.ofNat (FP.fdiv (UInt32.ofNat a.toNat) (UInt32.ofNat b.toNat)).toNat = q_fdiv a b := rfl
theorem q_df_dadd (a b : Int) : Int.ofNat (FP.dadd (UInt64.ofNat a.toNat) (UInt64.ofNat b.toNat)).toNat = q_dadd a b := rfl
theorem q_df_ddiv (a b : Int) : Int.ofNat (FP.ddiv (UInt64.ofNat a.toNat) (UInt64.ofNat b.toNat)).toNat = q_ddiv a b := rfl
theorem q_df_fcmp (o : CmpOp) (a b : Int) : (Op.cmpValue (FP.fcmp (UInt32.ofNat a.toNat) (UInt32.ofNat b.toNat)) o).toInt = q_fcmp o a b := rfl
theorem q_df_dcmp (o : CmpOp) (a b : Int) : (Op.cmpValue (FP.dcmp (UInt64.ofNat a.toNat) (UInt64.ofNat b.toNat)) o).toInt = q_dcmp o a b := rfl
noncomputable def q_PT (A B kd ty : Nat) (r : Nat × Int × q_F) : Nat → q_V → q_F → Prop := fun t w h' => t = r.1 ∧ (r.1 = 1 → w = (kd, r.2.1) ∧ q_in ty r.2.1) ∧ h' = r.2.2 ∧ q_Al A B r.2.2
noncomputable def q_PR (A B o : Nat) (r : Int × q_F) : Nat → q_V → q_F → Prop := fun t w h' => t = 1 ∧ w = (2, Int.ofNat o) ∧ h' = r.2 ∧ q_Al A B r.2
theorem qx_sp {c : Prop} {i : Decidable c} {α : Type} {x y : Option α} {r : α} (h : (@ite _ c i x y) = some r) : (c ∧ x = some r) ∨ (¬ c ∧ y = some r) := by
  by_cases hc : c
  · rw [if_pos hc] at h; exact Or.inl ⟨hc, h⟩
  · rw [if_neg hc] at h; exact Or.inr ⟨hc, h⟩
-- objects
noncomputable def q_axn (t : Nat) (v : Int) : Nat := if v = 0 then t + 1 else if v = 1 then t + 3 else t + 5
theorem q_axn_A {t : Nat} (v : Int) (h : q_isT t) : q_isA (q_axn t v) := by
  unfold q_axn
  split
  · exact q_h1 h
  · split
    · exact q_h3 h
    · exact q_h5 h
noncomputable def q_slot (v : Int) : Nat := 35 + 9 * v.toNat
theorem q_slot_T {v : Int} (h : 0 ≤ v ∧ v < 10) : q_isT (q_slot v) := by
  obtain e | e | e | e | e | e | e | e | e | e : v = 0 ∨ v = 1 ∨ v = 2 ∨ v = 3 ∨ v = 4 ∨ v = 5 ∨ v = 6 ∨ v = 7 ∨ v = 8 ∨ v = 9 := by omega
  all_goals (subst e; simp [q_slot, q_isT])
theorem q_ring9 {z : Int} (h0 : 0 ≤ z) (h1 : z < 10) : (q_K 34).2.2[z.toNat]? = some (2, Int.ofNat (q_slot z)) := by
  obtain e | e | e | e | e | e | e | e | e | e : z = 0 ∨ z = 1 ∨ z = 2 ∨ z = 3 ∨ z = 4 ∨ z = 5 ∨ z = 6 ∨ z = 7 ∨ z = 8 ∨ z = 9 := by omega
  all_goals (subst e; rfl)
theorem q_ltC {c : Nat} (h : q_isC c) : c < 155 := by have := (q_fC h).2.1; omega
theorem q_ltA {a : Nat} (h : q_isA a) : a < 155 := by have := (q_fA h).2.2.1; omega
theorem q_ltB {b : Nat} (h : q_isB b) : b < 155 := by have := (q_fB h).2.2.1; omega
theorem q_ltT {t : Nat} (h : q_isT t) : t < 155 := by have := q_T_n h; omega
theorem q_ltG {g : Nat} (h : q_isG g) : g < 155 := by have := (q_fG h).2.2.1; omega
theorem qx_g1 {g : Nat} (h : q_isG g) : g + 1 < 155 := by have := (q_fG h).2.2.1; omega
theorem q_b1 {b : Nat} (h : q_isB b) : b + 1 < 155 := by have := (q_fB h).2.2.1; omega
theorem q_nr {N : Nat} (h : N ≤ 2048) : q_r32 (N : Int) := ⟨by omega, by omega⟩
noncomputable def q_lgv (z j : Int) : Int := q_lg z.toNat j.toNat
theorem q_df_lg (z j : Int) : q_lg z.toNat j.toNat = q_lgv z j := rfl
theorem q_lgL (l : List Int) (hl : ∀ c ∈ l, q_r32 c) (j : Nat) : q_r32 ((l[j]?).getD 0) := by
  cases h : l[j]? with
  | none => exact ⟨by decide, by decide⟩
  | some c => exact hl c (List.mem_of_getElem? h)
theorem q_lgr (z j : Int) : q_r32 (q_lgv z j) := by
  unfold q_lgv q_lg
  split
  · exact q_lgL _ (by intro c hc; simp only [List.mem_cons, List.not_mem_nil, or_false] at hc; omega) _
  · exact q_lgL _ (by intro c hc; simp only [List.mem_cons, List.not_mem_nil, or_false] at hc; omega) _
theorem q_hs12 {z : Int} (h : z.toNat = 1 ∨ z.toNat = 2) : z.toNat ≤ 2 := by omega
theorem q_ln12 {sL : Nat} {z : Int} (h : z.toNat = 1 ∨ z.toNat = 2) : ((q_ln sL z.toNat : Nat) : Int) = (6 : Int) := by rcases h with e | e <;> rw [e] <;> rfl
noncomputable def q_i8 (a : Int) : Int := ((Int32.ofInt a).toInt8.toInt32).toInt
theorem q_df_i2b (a : Int) : ((Int32.ofInt a).toInt8.toInt32).toInt = q_i8 a := rfl
theorem q_i8r (a : Int) : -128 ≤ q_i8 a ∧ q_i8 a < 128 := by
  unfold q_i8
  rw [Int8.toInt_toInt32]
  exact ⟨Int8.le_toInt _, Int8.toInt_lt _⟩
theorem q_b32 {v : Int} (h : -128 ≤ v ∧ v < 128) : q_r32 v := ⟨by omega, by omega⟩
noncomputable def q_f2d (a : Int) : Int := Int.ofNat (FP.f2d (UInt32.ofNat a.toNat)).toNat
theorem q_df_f2d (a : Int) : Int.ofNat (FP.f2d (UInt32.ofNat a.toNat)).toNat = q_f2d a := rfl
noncomputable def qx_ab (a : Int) : Int := if 0 ≤ a then a else q_w32 (-a)
theorem qx_abr {a : Int} (h : q_r32 a) : q_r32 (qx_ab a) := by unfold qx_ab; split; exact h; exact q_wr _
noncomputable def qx_abl (a : Int) : Int := if a ≤ 0 then q_w64 (-a) else a
theorem qx_ablr {a : Int} (h : q_r64 a) : q_r64 (qx_abl a) := by unfold qx_abl; split; exact q_wr64 _; exact h
theorem qx_mxr64 {a b : Int} (ha : q_r64 a) (hb : q_r64 b) : q_r64 (qx_mx a b) := by unfold qx_mx; split <;> assumption
-- words
noncomputable def qx_sl (z : Int) : Int := ((q_sb (q_sw z)).length : Int)
noncomputable def qx_sc (z j : Int) : Int := match (q_sb (q_sw z))[j.toNat]? with
  | some c => q_w32 c
  | none => 0
theorem qx_slr (z : Int) : q_r32 (qx_sl z) := by have := q_sb_l (q_sw z); unfold qx_sl; exact ⟨by omega, by omega⟩
theorem qx_scr (z j : Int) : q_r32 (qx_sc z j) := by
  unfold qx_sc; split
  · exact q_wr _
  · exact ⟨by decide, by decide⟩
theorem q_hs1 {z : Int} (h : 3 ≤ z.toNat ∧ z.toNat ≤ 9) : 3 ≤ z.toNat := h.1
theorem q_hs2 {z : Int} (h : 3 ≤ z.toNat ∧ z.toNat ≤ 9) : z.toNat ≤ 9 := h.2
theorem q_sb_r : ∀ n : Nat, ∀ c ∈ q_sb n, q_r32 c := by
  intro n c hc
  unfold q_sb at hc
  split at hc <;> (simp only [List.mem_cons, List.not_mem_nil, or_false] at hc; omega)
section q_xx
variable {Γ : q_Γ} {A B i pc nx len x y cl sl : Nat} {v : Int} {P : Nat → q_V → q_F → Prop} {lo : q_L} {st : List q_V} {h : q_F} {hp : q_H}
theorem x_puti {idx kk ty : Nat} {ds : List q_Ds} {d2 w : Int} (hA : q_Al A B h) (he : q_cat i pc (.putfield idx) len x y v) (hk : kk < 155) (hK : q_K kk = (0, x, ds)) (hd : ds[y]? = some (0, d2)) (hf : q_fit v.toNat (0, w) = true) (h1 : q_tyL (0, x, ds) y = ty) (hw : q_in ty w) (hn : Nat.add pc len = nx) (k : ∀ g, g = q_ud h kk y w → q_Al A B g → q_R Γ q_K 155 i P (nx, lo, st, q_hp q_K 155 g, [], cl, sl)) : q_R Γ q_K 155 i P (pc, lo, (0, w) :: (2, Int.ofNat kk) :: st, q_hp q_K 155 h, [], cl, sl) :=
  r_puti he hk (by decide) hK hd hf hn (k _ rfl (q_al_ud hA (by rw [hK]; exact h1) hw))
theorem x_putl {idx kk ty : Nat} {ds : List q_Ds} {d2 w : Int} (hA : q_Al A B h) (he : q_cat i pc (.putfield idx) len x y v) (hk : kk < 155) (hK : q_K kk = (0, x, ds)) (hd : ds[y]? = some (1, d2)) (hf : q_fit v.toNat (1, w) = true) (h1 : q_tyL (0, x, ds) y = ty) (hw : q_in ty w) (hn : Nat.add pc len = nx) (k : ∀ g, g = q_ud h kk y w → q_Al A B g → q_R Γ q_K 155 i P (nx, lo, st, q_hp q_K 155 g, [], cl, sl)) : q_R Γ q_K 155 i P (pc, lo, (1, w) :: (2, Int.ofNat kk) :: st, q_hp q_K 155 h, [], cl, sl) :=
  r_putl he hk (by decide) hK hd hf hn (k _ rfl (q_al_ud hA (by rw [hK]; exact h1) hw))
theorem x_iald {kk N jn : Nat} {ds : List q_Ds} {j : Int} (he : q_cat i pc .iaload len x y v) (hk : kk < 155) (hK : q_K kk = (1, N, ds)) (hN2 : N ≤ 2048) (hj : q_r32 j) (hj0 : 0 ≤ j) (hj1 : j < N) (hjn : j.toNat = jn) (hn : Nat.add pc len = nx) (k : q_R Γ q_K 155 i P (nx, lo, (0, h kk jn) :: st, q_hp q_K 155 h, [], cl, sl)) : q_R Γ q_K 155 i P (pc, lo, (0, j) :: (2, Int.ofNat kk) :: st, q_hp q_K 155 h, [], cl, sl) := by
  subst hjn
  exact r_iald he hk (by decide) hK hN2 (q_w32_r hj) hj0 hj1 hn k
theorem x_iast {kk N jn : Nat} {ds : List q_Ds} {j w : Int} (hA : q_Al A B h) (he : q_cat i pc .iastore len x y v) (hk : kk < 155) (hK : q_K kk = (1, N, ds)) (hN2 : N ≤ 2048) (hj : q_r32 j) (hj0 : 0 ≤ j) (hj1 : j < N) (hjn : j.toNat = jn) (hw : q_r32 w) (hn : Nat.add pc len = nx) (k : ∀ g, g = q_ud h kk jn w → q_Al A B g → q_R Γ q_K 155 i P (nx, lo, st, q_hp q_K 155 g, [], cl, sl)) : q_R Γ q_K 155 i P (pc, lo, (0, w) :: (0, j) :: (2, Int.ofNat kk) :: st, q_hp q_K 155 h, [], cl, sl) := by
  subst hjn
  exact r_iast he hk (by decide) hK hN2 (q_w32_r hj) hj0 hj1 hn (k _ rfl (q_al_ud (ty := 0) hA (by rw [hK]; rfl) hw))
theorem x_lald {kk N jn : Nat} {ds : List q_Ds} {j : Int} (he : q_cat i pc .laload len x y v) (hk : kk < 155) (hK : q_K kk = (3, N, ds)) (hN2 : N ≤ 2048) (hj : q_r32 j) (hj0 : 0 ≤ j) (hj1 : j < N) (hjn : j.toNat = jn) (hn : Nat.add pc len = nx) (k : q_R Γ q_K 155 i P (nx, lo, (1, h kk jn) :: st, q_hp q_K 155 h, [], cl, sl)) : q_R Γ q_K 155 i P (pc, lo, (0, j) :: (2, Int.ofNat kk) :: st, q_hp q_K 155 h, [], cl, sl) := by
  subst hjn
  exact r_lald he hk (by decide) hK hN2 (q_w32_r hj) hj0 hj1 hn k
theorem x_last {kk N jn : Nat} {ds : List q_Ds} {j w : Int} (hA : q_Al A B h) (he : q_cat i pc .lastore len x y v) (hk : kk < 155) (hK : q_K kk = (3, N, ds)) (hN2 : N ≤ 2048) (hj : q_r32 j) (hj0 : 0 ≤ j) (hj1 : j < N) (hjn : j.toNat = jn) (hw : q_r64 w) (hn : Nat.add pc len = nx) (k : ∀ g, g = q_ud h kk jn w → q_Al A B g → q_R Γ q_K 155 i P (nx, lo, st, q_hp q_K 155 g, [], cl, sl)) : q_R Γ q_K 155 i P (pc, lo, (1, w) :: (0, j) :: (2, Int.ofNat kk) :: st, q_hp q_K 155 h, [], cl, sl) := by
  subst hjn
  exact r_last he hk (by decide) hK hN2 (q_w32_r hj) hj0 hj1 hn (k _ rfl (q_al_ud (ty := 1) hA (by rw [hK]; rfl) hw))
theorem x_max {idx : Nat} {a b : Int} (he : q_cat i pc (.invokestatic idx) len x 6 v) (hm : q_mrm i 1 13 cl sl st = true) (hn : Nat.add pc len = nx) (ha : q_r32 a) (hb : q_r32 b) (k : q_R Γ q_K 155 i P (nx, lo, (0, qx_mx a b) :: st, hp, [], cl, sl)) : q_R Γ q_K 155 i P (pc, lo, (0, b) :: (0, a) :: st, hp, [], cl, sl) :=
  r_max he hm hn (by rw [q_w32_r ha, q_w32_r hb]; exact k)
theorem x_min {idx : Nat} {a b : Int} (he : q_cat i pc (.invokestatic idx) len x 7 v) (hm : q_mrm i 1 13 cl sl st = true) (hn : Nat.add pc len = nx) (ha : q_r32 a) (hb : q_r32 b) (k : q_R Γ q_K 155 i P (nx, lo, (0, qx_mn a b) :: st, hp, [], cl, sl)) : q_R Γ q_K 155 i P (pc, lo, (0, b) :: (0, a) :: st, hp, [], cl, sl) :=
  r_min he hm hn (by rw [q_w32_r ha, q_w32_r hb]; exact k)
theorem x_maxf {idx : Nat} {a b : Int} (he : q_cat i pc (.invokestatic idx) len x 12 v) (hm : q_mrm i 5 150 cl sl st = true) (hn : Nat.add pc len = nx) (ha : q_n32 (UInt32.ofNat a.toNat) = true) (hb : q_n32 (UInt32.ofNat b.toNat) = true) (k : q_R Γ q_K 155 i P (nx, lo, (4, q_fmxi a b) :: st, hp, [], cl, sl)) : q_R Γ q_K 155 i P (pc, lo, (4, b) :: (4, a) :: st, hp, [], cl, sl) :=
  r_maxf he hm hn ha hb k
theorem x_slen {idx : Nat} {z : Int} (he : q_cat i pc (.invokevirtual idx) len x 1 v) (hm : q_mrm i 5 150 cl sl st = true) (h3 : 3 ≤ z.toNat) (h9 : z.toNat ≤ 9) (hn : Nat.add pc len = nx) (k : q_R Γ q_K 155 i P (nx, lo, (0, qx_sl z) :: st, hp, [], cl, sl)) : q_R Γ q_K 155 i P (pc, lo, (9, z) :: st, hp, [], cl, sl) :=
  r_slen he hm h3 h9 hn (fun L hL _ _ => by rw [hL]; exact k)
theorem x_schar {idx : Nat} {z j : Int} (he : q_cat i pc (.invokevirtual idx) len x 2 v) (hm : q_mrm i 5 150 cl sl st = true) (h3 : 3 ≤ z.toNat) (h9 : z.toNat ≤ 9) (hj : q_r32 j) (hj0 : 0 ≤ j) (hj1 : j < qx_sl z) (hn : Nat.add pc len = nx) (k : q_R Γ q_K 155 i P (nx, lo, (0, qx_sc z j) :: st, hp, [], cl, sl)) : q_R Γ q_K 155 i P (pc, lo, (0, j) :: (9, z) :: st, hp, [], cl, sl) :=
  r_schar he hm h3 h9 (q_w32_r hj) hj0 hj1 hn (fun c hc => by
    have e : qx_sc z j = c := by
      unfold qx_sc; rw [hc]
      exact q_w32_r (q_sb_r _ c (List.mem_of_getElem? hc))
    rw [← e]; exact k)
theorem r_lc_eq {pc2 len2 x2 y2 : Nat} {v2 : Int} {a b a' b' off : Int} (he : q_cat i pc .lcmp len x y v) (he2 : q_cat i pc2 (.ifCond .eq off) len2 x2 y2 v2) (hn1 : Nat.add pc len = pc2) (hn : Nat.add pc2 len2 = nx) (ha : q_w64 a = a') (hb : q_w64 b = b') (kt : (a' = b') ∧ True → q_R Γ q_K 155 i P (x2, lo, st, hp, [], cl, sl)) (kf : (¬ a' = b') ∧ True → q_R Γ q_K 155 i P (nx, lo, st, hp, [], cl, sl)) : q_R Γ q_K 155 i P (pc, lo, (1, b) :: (1, a) :: st, hp, [], cl, sl) := by
  refine r_lcmpn he hn1 ha hb ?_ ?_ ?_ <;> intro h9
  · refine r_if_eq he2 hn (show q_w32 (-1) = -1 from rfl) ?_ ?_ <;> intro h8
    · first | exact kt ⟨by omega, trivial⟩ | (exfalso; omega)
    · first | exact kf ⟨by omega, trivial⟩ | (exfalso; omega)
  · refine r_if_eq he2 hn (show q_w32 0 = 0 from rfl) ?_ ?_ <;> intro h8
    · first | exact kt ⟨by omega, trivial⟩ | (exfalso; omega)
    · first | exact kf ⟨by omega, trivial⟩ | (exfalso; omega)
  · refine r_if_eq he2 hn (show q_w32 1 = 1 from rfl) ?_ ?_ <;> intro h8
    · first | exact kt ⟨by omega, trivial⟩ | (exfalso; omega)
    · first | exact kf ⟨by omega, trivial⟩ | (exfalso; omega)
theorem r_lc_ne {pc2 len2 x2 y2 : Nat} {v2 : Int} {a b a' b' off : Int} (he : q_cat i pc .lcmp len x y v) (he2 : q_cat i pc2 (.ifCond .ne off) len2 x2 y2 v2) (hn1 : Nat.add pc len = pc2) (hn : Nat.add pc2 len2 = nx) (ha : q_w64 a = a') (hb : q_w64 b = b') (kt : (¬ a' = b') ∧ True → q_R Γ q_K 155 i P (x2, lo, st, hp, [], cl, sl)) (kf : (a' = b') ∧ True → q_R Γ q_K 155 i P (nx, lo, st, hp, [], cl, sl)) : q_R Γ q_K 155 i P (pc, lo, (1, b) :: (1, a) :: st, hp, [], cl, sl) := by
  refine r_lcmpn he hn1 ha hb ?_ ?_ ?_ <;> intro h9
  · refine r_if_ne he2 hn (show q_w32 (-1) = -1 from rfl) ?_ ?_ <;> intro h8
    · first | exact kt ⟨by omega, trivial⟩ | (exfalso; omega)
    · first | exact kf ⟨by omega, trivial⟩ | (exfalso; omega)
  · refine r_if_ne he2 hn (show q_w32 0 = 0 from rfl) ?_ ?_ <;> intro h8
    · first | exact kt ⟨by omega, trivial⟩ | (exfalso; omega)
    · first | exact kf ⟨by omega, trivial⟩ | (exfalso; omega)
  · refine r_if_ne he2 hn (show q_w32 1 = 1 from rfl) ?_ ?_ <;> intro h8
    · first | exact kt ⟨by omega, trivial⟩ | (exfalso; omega)
    · first | exact kf ⟨by omega, trivial⟩ | (exfalso; omega)
theorem r_lc_lt {pc2 len2 x2 y2 : Nat} {v2 : Int} {a b a' b' off : Int} (he : q_cat i pc .lcmp len x y v) (he2 : q_cat i pc2 (.ifCond .lt off) len2 x2 y2 v2) (hn1 : Nat.add pc len = pc2) (hn : Nat.add pc2 len2 = nx) (ha : q_w64 a = a') (hb : q_w64 b = b') (kt : (a' < b') ∧ True → q_R Γ q_K 155 i P (x2, lo, st, hp, [], cl, sl)) (kf : (b' ≤ a') ∧ True → q_R Γ q_K 155 i P (nx, lo, st, hp, [], cl, sl)) : q_R Γ q_K 155 i P (pc, lo, (1, b) :: (1, a) :: st, hp, [], cl, sl) := by
  refine r_lcmpn he hn1 ha hb ?_ ?_ ?_ <;> intro h9
  · refine r_if_lt he2 hn (show q_w32 (-1) = -1 from rfl) ?_ ?_ <;> intro h8
    · first | exact kt ⟨by omega, trivial⟩ | (exfalso; omega)
    · first | exact kf ⟨by omega, trivial⟩ | (exfalso; omega)
  · refine r_if_lt he2 hn (show q_w32 0 = 0 from rfl) ?_ ?_ <;> intro h8
    · first | exact kt ⟨by omega, trivial⟩ | (exfalso; omega)
    · first | exact kf ⟨by omega, trivial⟩ | (exfalso; omega)
  · refine r_if_lt he2 hn (show q_w32 1 = 1 from rfl) ?_ ?_ <;> intro h8
    · first | exact kt ⟨by omega, trivial⟩ | (exfalso; omega)
    · first | exact kf ⟨by omega, trivial⟩ | (exfalso; omega)
theorem r_lc_ge {pc2 len2 x2 y2 : Nat} {v2 : Int} {a b a' b' off : Int} (he : q_cat i pc .lcmp len x y v) (he2 : q_cat i pc2 (.ifCond .ge off) len2 x2 y2 v2) (hn1 : Nat.add pc len = pc2) (hn : Nat.add pc2 len2 = nx) (ha : q_w64 a = a') (hb : q_w64 b = b') (kt : (b' ≤ a') ∧ True → q_R Γ q_K 155 i P (x2, lo, st, hp, [], cl, sl)) (kf : (a' < b') ∧ True → q_R Γ q_K 155 i P (nx, lo, st, hp, [], cl, sl)) : q_R Γ q_K 155 i P (pc, lo, (1, b) :: (1, a) :: st, hp, [], cl, sl) := by
  refine r_lcmpn he hn1 ha hb ?_ ?_ ?_ <;> intro h9
  · refine r_if_ge he2 hn (show q_w32 (-1) = -1 from rfl) ?_ ?_ <;> intro h8
    · first | exact kt ⟨by omega, trivial⟩ | (exfalso; omega)
    · first | exact kf ⟨by omega, trivial⟩ | (exfalso; omega)
  · refine r_if_ge he2 hn (show q_w32 0 = 0 from rfl) ?_ ?_ <;> intro h8
    · first | exact kt ⟨by omega, trivial⟩ | (exfalso; omega)
    · first | exact kf ⟨by omega, trivial⟩ | (exfalso; omega)
  · refine r_if_ge he2 hn (show q_w32 1 = 1 from rfl) ?_ ?_ <;> intro h8
    · first | exact kt ⟨by omega, trivial⟩ | (exfalso; omega)
    · first | exact kf ⟨by omega, trivial⟩ | (exfalso; omega)
theorem r_lc_gt {pc2 len2 x2 y2 : Nat} {v2 : Int} {a b a' b' off : Int} (he : q_cat i pc .lcmp len x y v) (he2 : q_cat i pc2 (.ifCond .gt off) len2 x2 y2 v2) (hn1 : Nat.add pc len = pc2) (hn : Nat.add pc2 len2 = nx) (ha : q_w64 a = a') (hb : q_w64 b = b') (kt : (b' < a') ∧ True → q_R Γ q_K 155 i P (x2, lo, st, hp, [], cl, sl)) (kf : (a' ≤ b') ∧ True → q_R Γ q_K 155 i P (nx, lo, st, hp, [], cl, sl)) : q_R Γ q_K 155 i P (pc, lo, (1, b) :: (1, a) :: st, hp, [], cl, sl) := by
  refine r_lcmpn he hn1 ha hb ?_ ?_ ?_ <;> intro h9
  · refine r_if_gt he2 hn (show q_w32 (-1) = -1 from rfl) ?_ ?_ <;> intro h8
    · first | exact kt ⟨by omega, trivial⟩ | (exfalso; omega)
    · first | exact kf ⟨by omega, trivial⟩ | (exfalso; omega)
  · refine r_if_gt he2 hn (show q_w32 0 = 0 from rfl) ?_ ?_ <;> intro h8
    · first | exact kt ⟨by omega, trivial⟩ | (exfalso; omega)
    · first | exact kf ⟨by omega, trivial⟩ | (exfalso; omega)
  · refine r_if_gt he2 hn (show q_w32 1 = 1 from rfl) ?_ ?_ <;> intro h8
    · first | exact kt ⟨by omega, trivial⟩ | (exfalso; omega)
    · first | exact kf ⟨by omega, trivial⟩ | (exfalso; omega)
theorem r_lc_le {pc2 len2 x2 y2 : Nat} {v2 : Int} {a b a' b' off : Int} (he : q_cat i pc .lcmp len x y v) (he2 : q_cat i pc2 (.ifCond .le off) len2 x2 y2 v2) (hn1 : Nat.add pc len = pc2) (hn : Nat.add pc2 len2 = nx) (ha : q_w64 a = a') (hb : q_w64 b = b') (kt : (a' ≤ b') ∧ True → q_R Γ q_K 155 i P (x2, lo, st, hp, [], cl, sl)) (kf : (b' < a') ∧ True → q_R Γ q_K 155 i P (nx, lo, st, hp, [], cl, sl)) : q_R Γ q_K 155 i P (pc, lo, (1, b) :: (1, a) :: st, hp, [], cl, sl) := by
  refine r_lcmpn he hn1 ha hb ?_ ?_ ?_ <;> intro h9
  · refine r_if_le he2 hn (show q_w32 (-1) = -1 from rfl) ?_ ?_ <;> intro h8
    · first | exact kt ⟨by omega, trivial⟩ | (exfalso; omega)
    · first | exact kf ⟨by omega, trivial⟩ | (exfalso; omega)
  · refine r_if_le he2 hn (show q_w32 0 = 0 from rfl) ?_ ?_ <;> intro h8
    · first | exact kt ⟨by omega, trivial⟩ | (exfalso; omega)
    · first | exact kf ⟨by omega, trivial⟩ | (exfalso; omega)
  · refine r_if_le he2 hn (show q_w32 1 = 1 from rfl) ?_ ?_ <;> intro h8
    · first | exact kt ⟨by omega, trivial⟩ | (exfalso; omega)
    · first | exact kf ⟨by omega, trivial⟩ | (exfalso; omega)
theorem x_abs {idx : Nat} {a : Int} (he : q_cat i pc (.invokestatic idx) len x 8 v) (hm : q_mrm i 1 13 cl sl st = true) (hn : Nat.add pc len = nx) (ha : q_r32 a) (k : q_R Γ q_K 155 i P (nx, lo, (0, qx_ab a) :: st, hp, [], cl, sl)) : q_R Γ q_K 155 i P (pc, lo, (0, a) :: st, hp, [], cl, sl) :=
  r_abs he hm hn (by
    rw [q_w32_r ha, show (0 - Int32.ofInt a).toInt = q_w32 (-a) from by rw [show (0 : Int32) = Int32.ofInt 0 from rfl, q_sub32, q_w32_m, q_w32w, Int.zero_sub]]
    exact k)
theorem x_maxl {idx : Nat} {a b : Int} (he : q_cat i pc (.invokestatic idx) len x 10 v) (hm : q_mrm i 1 15 cl sl st = true) (hn : Nat.add pc len = nx) (ha : q_r64 a) (hb : q_r64 b) (k : q_R Γ q_K 155 i P (nx, lo, (1, qx_mx a b) :: st, hp, [], cl, sl)) : q_R Γ q_K 155 i P (pc, lo, (1, b) :: (1, a) :: st, hp, [], cl, sl) :=
  r_maxl he hm hn (by rw [q_w64_r ha, q_w64_r hb]; exact k)
theorem x_absl {idx : Nat} {a : Int} (he : q_cat i pc (.invokestatic idx) len x 11 v) (hm : q_mrm i 1 13 cl sl st = true) (hn : Nat.add pc len = nx) (ha : q_r64 a) (k : q_R Γ q_K 155 i P (nx, lo, (1, qx_abl a) :: st, hp, [], cl, sl)) : q_R Γ q_K 155 i P (pc, lo, (1, a) :: st, hp, [], cl, sl) :=
  r_absl he hm hn (by rw [q_w64_r ha]; exact k)
theorem x_bald {kk N jn : Nat} {ds : List q_Ds} {j : Int} (he : q_cat i pc .baload len x y v) (hk : kk < 155) (hK : q_K kk = (2, N, ds)) (hN2 : N ≤ 2048) (hj : q_r32 j) (hj0 : 0 ≤ j) (hj1 : j < N) (hjn : j.toNat = jn) (hn : Nat.add pc len = nx) (k : q_R Γ q_K 155 i P (nx, lo, (0, h kk jn) :: st, q_hp q_K 155 h, [], cl, sl)) : q_R Γ q_K 155 i P (pc, lo, (0, j) :: (2, Int.ofNat kk) :: st, q_hp q_K 155 h, [], cl, sl) := by
  subst hjn
  exact r_bald he hk (by decide) hK hN2 (q_w32_r hj) hj0 hj1 hn k
theorem x_bast {kk N jn : Nat} {ds : List q_Ds} {j w : Int} (hA : q_Al A B h) (he : q_cat i pc .bastore len x y v) (hk : kk < 155) (hK : q_K kk = (2, N, ds)) (hN2 : N ≤ 2048) (hj : q_r32 j) (hj0 : 0 ≤ j) (hj1 : j < N) (hjn : j.toNat = jn) (hn : Nat.add pc len = nx) (k : ∀ g, g = q_ud h kk jn (q_i8 w) → q_Al A B g → q_R Γ q_K 155 i P (nx, lo, st, q_hp q_K 155 g, [], cl, sl)) : q_R Γ q_K 155 i P (pc, lo, (0, w) :: (0, j) :: (2, Int.ofNat kk) :: st, q_hp q_K 155 h, [], cl, sl) := by
  subst hjn
  exact r_bast he hk (by decide) hK hN2 (q_df_i2b w) (q_w32_r hj) hj0 hj1 hn (k _ rfl (q_al_ud (ty := 4) hA (by rw [hK]; rfl) (q_i8r w)))
theorem x_dast {kk N jn : Nat} {ds : List q_Ds} {j w : Int} (hA : q_Al A B h) (he : q_cat i pc .dastore len x y v) (hk : kk < 155) (hK : q_K kk = (4, N, ds)) (hN2 : N ≤ 2048) (hj : q_r32 j) (hj0 : 0 ≤ j) (hj1 : j < N) (hjn : j.toNat = jn) (hn : Nat.add pc len = nx) (k : ∀ g, g = q_ud h kk jn w → q_Al A B g → q_R Γ q_K 155 i P (nx, lo, st, q_hp q_K 155 g, [], cl, sl)) : q_R Γ q_K 155 i P (pc, lo, (5, w) :: (0, j) :: (2, Int.ofNat kk) :: st, q_hp q_K 155 h, [], cl, sl) := by
  subst hjn
  exact r_dast he hk (by decide) hK hN2 (q_w32_r hj) hj0 hj1 hn (k _ rfl (q_al_ud (ty := 9) hA (by rw [hK]; rfl) trivial))
end q_xx
end -- [40.exact]
