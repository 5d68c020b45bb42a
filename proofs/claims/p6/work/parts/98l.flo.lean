/-! Part 98l: the answers that are floats are numbers; the two helpers that widen them. -/
theorem g_f2d {v : Int} (h : g_V v) : q_n64 (FP.f2d (UInt32.ofNat v.toNat)) = true := by
  unfold g_V at h
  generalize UInt32.ofNat v.toNat = x at h
  have hn : x.toNat < 4294967296 := x.toNat_lt
  have hx : x.toNat % 2147483648 ≤ 2139095040 := by
    unfold q_n32 at h
    rw [decide_eq_true_iff, UInt32.le_iff_toNat_le, UInt32.toNat_and] at h
    have e : (0x7fffffff : UInt32).toNat = 2 ^ 31 - 1 := by decide
    have e2 : (0x7f800000 : UInt32).toNat = 2139095040 := by decide
    rw [e, e2, Nat.and_two_pow_sub_one_eq_mod] at h
    exact h
  have nn := (g_dec32 hn).1 hx
  have e : FP.f2d x = UInt64.ofNat (FP.Core.encode FP.Core.b64 (FP.Core.round FP.Core.b64 (FP.Core.decode FP.Core.b32 x.toNat))) := by
    show (if FP.Core.fIsNaN x = true then FP.nanF2D x else FP.Core.f2d x) = _
    rw [if_neg (show ¬ FP.Core.fIsNaN x = true from fun c => nn (of_decide_eq_true c))]; rfl
  have ok : g_ok FP.Core.b64 (FP.Core.round FP.Core.b64 (FP.Core.decode FP.Core.b32 x.toNat)) := by
    generalize FP.Core.decode FP.Core.b32 x.toNat = d at nn
    cases d with
    | nan => exact absurd rfl nn
    | inf t => exact g_ok_i _
    | fin t d r => exact g_rr g_ht64.1 g_ht64.2 _ _ _ _
  have g := g_enc64 ok
  rw [e]
  exact g_n64 g.1 g.2
theorem c_lost_v {a v : Int} {k : Nat} {h h' : q_F} (e : fn188 a h = some (k, v, h')) : g_V v := by
  unfold fn188 at e
  cases hx : fn162 a h with
  | none => rw [hx] at e; cases e
  | some x =>
    rw [hx, Option.bind_some] at e
    split at e
    · split at e
      · cases e; exact g_V0
      · split at e
        · next c => cases e; exact g_Vof c
        · cases e
    · split at e
      · cases e; exact g_V0
      · cases e
theorem c_off_v {a b c v : Int} {h : q_F} (e : fn86 a b c h = some v) : g_V v := by
  unfold fn86 at e
  cases h1 : fn79 a h with
  | none => rw [h1] at e; cases e
  | some x1 =>
    rw [h1, Option.bind_some] at e
    split at e
    · cases e; exact g_V0
    · cases h3 : fn73 a b h with
      | none => rw [h3] at e; cases e
      | some x3 =>
        rw [h3, Option.bind_some] at e
        split at e
        · cases h5 : fn83 a b c h with
          | none => rw [h5] at e; cases e
          | some x5 =>
            rw [h5, Option.bind_some] at e
            split at e
            · next n =>
              split at e
              · cases e; exact g_Vof n
              · cases e; exact g_V_neg (g_Vof n)
            · cases e
        · cases e
theorem c_dev12_v {h : q_F} {K4 : Int → Int → Int → Option Int} (hK : ∀ a b c v, g_V b → K4 a b c = some v → g_V v) : ∀ (m : Nat) (a b c d v : Int), g_V b → fn75_12 K4 h m a b c d = some v → g_V v := by
  intro m
  induction m with
  | zero => intro a b c d v hb e; cases e
  | succ m ih =>
    intro a b c d v hb e
    rw [fn75_12] at e
    cases h2 : fn79 a h with
    | none => rw [h2] at e; cases e
    | some x2 =>
      rw [h2, Option.bind_some] at e
      split at e
      · exact hK _ _ _ _ hb e
      · cases h4 : fn86 a c d h with
        | none => rw [h4] at e; cases e
        | some x4 =>
          rw [h4, Option.bind_some] at e
          split at e
          · exact ih _ _ _ _ _ hb e
          · exact ih _ _ _ _ _ (c_off_v h4) e
theorem c_dev4_v {h : q_F} : ∀ (m : Nat) (a b c v : Int), g_V b → fn75_4 h m a b c = some v → g_V v := by
  intro m
  induction m with
  | zero => intro a b c v hb e; cases e
  | succ m ih =>
    intro a b c v hb e
    rw [fn75_4] at e
    split at e
    · cases e; exact hb
    · exact c_dev12_v (fun a b c v => ih a b c v) _ _ _ _ _ _ hb e
theorem c_dev_v {a v : Int} {k : Nat} {h h' : q_F} (e : fn172 a h = some (k, v, h')) : g_V v := by
  unfold fn172 at e
  cases h1 : fn164 a h with
  | none => rw [h1] at e; cases e
  | some x1 =>
    rw [h1, Option.bind_some] at e
    split at e
    · cases h2 : fn195 x1.2.2 with
      | none => rw [h2] at e; cases e
      | some x2 =>
        rw [h2, Option.bind_some] at e
        cases h3 : fn75 a x2.2 with
        | none => rw [h3] at e; cases e
        | some x3 =>
          rw [h3, Option.bind_some] at e
          cases e
          exact c_dev4_v _ _ _ _ _ g_V0 h3
    · split at e
      · cases e; exact g_V0
      · cases e
theorem j_L6 {v1 : Int} {h : q_F} (hA : q_Al 0 155 h) (J : j_J h) : j_W (fn6 v1 h) h := by
  obtain ⟨S, hm, hI⟩ := J.1
  unfold fn6
  obtain ⟨k, v, h', e, hk, J1, N1, -, -⟩ := j_cE J (c_dev hI hm) hm
  have V := g_f2d (c_dev_v e)
  have o := j_out (k := 154) (j := 0) (v := q_f2d v) J1 (Or.inr rfl)
  rw [e, Option.bind_some]
  rcases hk with rfl | rfl
  · dsimp only
    rw [if_pos rfl, if_pos V]
    exact ⟨_, _, rfl, o.1, j_N_t N1 o.2⟩
  · exact ⟨_, _, rfl, J1, N1⟩
theorem j_L15 {v1 : Int} {h : q_F} (hA : q_Al 0 155 h) (J : j_J h) : j_W (fn15 v1 h) h := by
  obtain ⟨S, hm, hI⟩ := J.1
  unfold fn15
  obtain ⟨k, v, h', e, hk, J1, N1, -, -⟩ := j_cE J (c_lost2 hI) hm
  have V := g_f2d (c_lost_v e)
  have o := j_out (k := 154) (j := 0) (v := q_f2d v) J1 (Or.inr rfl)
  rw [e, Option.bind_some]
  rcases hk with rfl | rfl
  · dsimp only
    rw [if_pos rfl, if_pos V]
    exact ⟨_, _, rfl, o.1, j_N_t N1 o.2⟩
  · exact ⟨_, _, rfl, J1, N1⟩
