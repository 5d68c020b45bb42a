/-! Part 16j: the call jog: the ends of the object's own loop are taken for one state, from which the reference's loop is run once. -/
noncomputable def q_ivk (p q : Int × Int) : q_I := [(-2147483648, 2147483647), p, q, (-2147483648, 2147483647), (-2147483648, 2147483647), (-2147483648, 2147483647), (12, 12), (-2147483648, 2147483647)]
theorem q_okk (xs : Nat → Int32) {p q : Int × Int} (h12 : q_ρ xs 6 = 12) (h1 : p.1 ≤ q_ρ xs 1 ∧ q_ρ xs 1 ≤ p.2) (h2 : q.1 ≤ q_ρ xs 2 ∧ q_ρ xs 2 ≤ q.2) : q_ok (q_ρ xs) (q_ivk p q) := by
  have hr := q_ρ_rg xs
  intro i x hx
  rw [q_nth_g] at hx
  match i, hx with
  | 0, hx => cases q_so hx; have := hr 0; exact ⟨this.1, by have := this.2; omega⟩
  | 1, hx => cases q_so hx; exact h1
  | 2, hx => cases q_so hx; exact h2
  | 3, hx => cases q_so hx; have := hr 3; exact ⟨this.1, by have := this.2; omega⟩
  | 4, hx => cases q_so hx; have := hr 4; exact ⟨this.1, by have := this.2; omega⟩
  | 5, hx => cases q_so hx; have := hr 5; exact ⟨this.1, by have := this.2; omega⟩
  | 6, hx => cases q_so hx; exact ⟨by show (12 : Int) ≤ _; omega, by show _ ≤ (12 : Int); omega⟩
  | 7, hx => cases q_so hx; have := hr 7; exact ⟨this.1, by have := this.2; omega⟩
  | (n + 8), hx => cases (show (none : Option (Int × Int)) = some x from hx)
noncomputable def q_en (iv : q_I) : q_C := (0, q_args [(9, 0)] 0, [], q_h0, iv, 0, 0)
/-- the reference's cells, nothing of the others -/
noncomputable def q_wkJ (t : q_T q_Ce 8) : q_T q_Ce 8 := List.rec (motive := fun _ => q_T q_Ce 8) (q_mk (6, 0, [], q_zT) 8) (fun j _ ih => q_set 8 ih j (q_get 8 t j)) [139, 140, 141, 142, 143, 144, 145, 146, 147, 148, 149, 150, 151, 152, 154]
noncomputable def q_wk (iv : q_I) (o : q_V) (c : q_C) : q_C := match c with
  | (pc, lo, st, hp, _, cl, sl) => (pc, lo, st, (hp.1, q_set 8 (q_wkJ hp.2) 153 (3, 1, [], q_set 11 (q_mk (1, 0) 11) 0 o)), iv, cl, sl)
/-- the state behind the object's own jog, out of the run of one step -/
noncomputable def q_cW (a u v s : Int) (o : q_V) : Option q_C := match q_stp q_mt q_df (q_rn q_mt q_df 6 8) 6 (q_mt 276) 41 ([q_en (q_ivk (a, a) (s, s))], []) with
  | none => none
  | some z => match z with
    | ([], _) => none
    | (c :: _, _) => some (q_wk (q_ivk (a, a) (u, v)) o c)
noncomputable def q_allC (e : q_C) : List q_C → Bool := fun l => List.rec (motive := fun _ => Bool) true (fun h _ ih => bif q_Cle h e then ih else false) l
theorem q_allC_s {e : q_C} : ∀ l : List q_C, q_allC e l = true → ∀ c ∈ l, q_Cle c e = true
  | [], _, c, hc => by cases hc
  | a :: l, h, c, hc => by
    have h : (bif q_Cle a e then q_allC e l else false) = true := h
    obtain ⟨h1, h2⟩ := q_and_i h
    rcases List.mem_cons.mp hc with rfl | hc
    · exact h1
    · exact q_allC_s l h2 c hc
noncomputable def q_tA (a u v s : Int) (o : q_V) : Bool := match q_cW a u v s o with
  | none => false
  | some e => match q_stp q_mt q_df (q_rn q_mt q_df 6 8) 6 (q_mt 276) 41 ([q_en (q_ivk (a, a) (u, v))], []) with
    | none => false
    | some z => match z.2 with
      | [] => q_allC e z.1
      | _ :: _ => false
noncomputable def q_tB (a u v s : Int) (o : q_V) : Bool := match q_cW a u v s o with
  | none => false
  | some e => match q_itF q_mt q_df (q_rn q_mt q_df 6 8) 6 (q_mt 276) 14 ([e], []) with
    | none => false
    | some z => match z with
      | ([], lf) => q_okl lf
      | (_ :: _, _) => false
theorem q_jog_s {p : Program} {e : Env} {s : State} {m : MethodId} {below : List Frame} {meth : Method} {c : Code} (l : Launch) (hflags : l.flags = flags0) {b : Nat} {xs : Nat → Int32} (C0 : lw_At p s m meth c b 6 xs)
    {a u v k : Int} {o : q_V} (ho : q_ok (q_ρ xs) (q_ivk (a, a) (u, v))) (hA : q_tA a u v k o = true) (hB : q_tB a u v k o = true) : W p l e room_1 s m #[Value.ref b] below meth c s.heap [] 0 0 (lw_Z below #[Value.ref b] s) (entryFrame m ([Value.ref b] : List Value).toArray 10) := by
  unfold q_tA at hA
  unfold q_tB at hB
  cases hc : q_cW a u v k o with
  | none => rw [hc] at hA; cases hA
  | some e9 =>
    rw [hc] at hA hB
    have hA : (match q_stp q_mt q_df (q_rn q_mt q_df 6 8) 6 (q_mt 276) 41 ([q_en (q_ivk (a, a) (u, v))], []) with
      | none => false
      | some z => match z.2 with
        | [] => q_allC e9 z.1
        | _ :: _ => false) = true := hA
    have hB : (match q_itF q_mt q_df (q_rn q_mt q_df 6 8) 6 (q_mt 276) 14 ([e9], []) with
      | none => false
      | some z => match z with
        | ([], lf) => q_okl lf
        | (_ :: _, _) => false) = true := hB
    cases h1 : q_stp q_mt q_df (q_rn q_mt q_df 6 8) 6 (q_mt 276) 41 ([q_en (q_ivk (a, a) (u, v))], []) with
    | none => rw [h1] at hA; cases hA
    | some z =>
      rw [h1] at hA
      obtain ⟨cs, lf0⟩ := z
      cases lf0 with
      | cons x r => cases hA
      | nil =>
        have hA : q_allC e9 cs = true := hA
        cases h2 : q_itF q_mt q_df (q_rn q_mt q_df 6 8) 6 (q_mt 276) 14 ([e9], []) with
        | none => rw [h2] at hB; cases hB
        | some z2 =>
          rw [h2] at hB
          obtain ⟨cs2, lfs⟩ := z2
          cases cs2 with
          | cons x r => cases hB
          | nil =>
            have hB : q_okl lfs = true := hB
            refine q_law_of l hflags (Nat.le_refl 6) C0 ho hB (fun G g1 g2 => ?_)
            have he : G e9 := (q_it_s g1 14 _ _ h2 (fun c hc => by cases hc) (fun x hx => hx)).1 _ List.mem_cons_self
            exact (q_stp_s g1 41 _ _ h1 (fun c hc => g2 c e9 (q_allC_s cs hA c hc) he) (fun x hx => by cases hx)).1 _ List.mem_cons_self
theorem q_j0 : q_tsI 6 (q_ivk (-2147483648, -1) (-2147483648, 2147483647)) = true := by decide +kernel
theorem q_j1 : q_tsI 6 (q_ivk (3, 2147483647) (-2147483648, 2147483647)) = true := by decide +kernel
theorem q_j2 : q_tsI 6 (q_ivk (0, 2) (-2147483648, -101)) = true := by decide +kernel
theorem q_j3 : q_tsI 6 (q_ivk (0, 2) (0, 0)) = true := by decide +kernel
theorem q_j4 : q_tsI 6 (q_ivk (0, 2) (101, 2147483647)) = true := by decide +kernel
