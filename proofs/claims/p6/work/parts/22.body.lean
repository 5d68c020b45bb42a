/-! Part 22: a method out of the run of its body. -/
/-- fewer locals, listed in any order -/
theorem q_F2_sb {ρ : Nat → Int} {bs : Nat → Nat} {ws : va_W} {lo : q_L} {lv : List (Nat × Value)} (hF : q_F2 (q_rl ρ bs ws) lo lv) : ∀ (lo' : q_L), (∀ q ∈ lo', q ∈ lo) → ∃ lv', q_F2 (q_rl ρ bs ws) lo' lv' ∧ ∀ q ∈ lv', q ∈ lv
  | [], _ => ⟨[], trivial, fun q hq => by cases hq⟩
  | a :: lo', h => by
    obtain ⟨lv', h1, h2⟩ := q_F2_sb hF lo' (fun q hq => h q (List.mem_cons_of_mem _ hq))
    obtain ⟨n, hn⟩ := List.mem_iff_getElem?.mp (h a List.mem_cons_self)
    obtain ⟨b, hb, hab⟩ := q_F2_g hF n a hn
    refine ⟨b :: lv', ⟨hab, h1⟩, fun q hq => ?_⟩
    rcases List.mem_cons.mp hq with rfl | hq
    · exact List.mem_of_getElem? hb
    · exact h2 q hq
section q_bdT
variable {ρ : Nat → Int} {bs : Nat → Nat} {base L : Nat} {xs : Nat → Int32} {D : va_G} {l : Launch}
/-- the body of a method -/
theorem q_bodyT (hr : q_rg ρ) (hxs : ∀ j, j < L → Int32.ofInt (ρ j) = xs j) (hst : l.stackTraces = false)
    {x : Nat} {ar : List q_V} {hp : q_H} {lfs : List q_Lf} (hrun : q_To (ρ, bs, base, L, xs, D, l) x lfs (0, q_args ar 0, [], hp, [], 0, 0)) (hwid : q_wid ar ≤ (q_mt x).2.1.1) (hx9 : x < 368) {ws : va_W} {tys : List (ClassId × FieldType)} {arR : List Value} (hD : va_D (q_A base) ws) (hW : q_W ρ bs ws tys hp) (hF : q_F2 (q_rv ρ bs ws) ar arR)
    {p : Program} {e : Env} {s s₁ : State} {m : MethodId} {args : Array Value} {below : List Frame} {meth : Method} {c : Code} (B : BodyLoose p l (q_y x) (headSpec (q_wsM x) (q_rm x)) (q_bc x) (q_mL x) (q_rt x) e s m args below meth c s₁) (hml : c.maxLocals = q_mL x) (htab : c.exceptionTable.toList = tableOf (q_hh x))
    (hP : q_Pre bs base L xs D ws tys arR args s) :
    W p l e (headSpec (q_wsM x) (q_rm x)).room s m args below meth c s.heap [] 0 0 (vx_MQ below (q_Qc ρ bs base D ws lfs) (q_XC ρ bs base D ws lfs) args s (q_rm x).cells (q_rm x).slots (q_A base)) (entryFrame m args (q_mL x)) := by
  obtain ⟨rfl, hK, hPP, hKX⟩ := hP
  have hmv := q_mv_ok x hx9
  obtain ⟨a1, hmv⟩ := q_and_i hmv
  obtain ⟨a2, hmv⟩ := q_and_i hmv
  obtain ⟨a3, hmv⟩ := q_and_i hmv
  obtain ⟨a4, hmv⟩ := q_and_i hmv
  obtain ⟨a5, hmv⟩ := q_and_i hmv
  obtain ⟨a6, hmv⟩ := q_and_i hmv
  obtain ⟨a7, hmv⟩ := q_and_i hmv
  obtain ⟨a8, a9⟩ := q_and_i hmv
  have hts0 := atoms_spec (ws := q_wsM x) B.pre
  have hts : ∀ w ∈ q_GL2, w.before arR.toArray s = true := fun w hw => hts0 w (List.mem_cons_of_mem _ hw)
  have hown : s.vm.findClass (q_on (q_cn x)) = some m.cls := by
    rw [← of_decide_eq_true a2]
    exact findClass_of_methodNamed B.named
  have hnm : meth.name = (q_y x).name := (name_of_methodNamed B.named B.method).1
  have hCx : q_Cx x p l (q_rm x) s m arR.toArray meth c base bs L xs := ⟨B.exec, B.bytes, hml, hown, hts, B.notSynchronized, fun _ => hnm, fun _ => htab, hKX, hst, rfl, Or.inl hx9⟩
  have hl := lv_entry arR (n := q_mL x) (by rw [q_slen_s ar arR hF, ← q_bq a1]; exact hwid)
  rw [lg_entry_eq]
  generalize (lg_sl arR ++ List.replicate (q_mL x - (lg_sl arR).length) Slot.unset).toArray = ls at hl ⊢
  have hmain := hrun (fun c9 => q_G (q_w p l e (q_rm x) s m arR.toArray below meth c (vx_MQ below (q_Qc ρ bs base D ws lfs) (q_XC ρ bs base D ws lfs) arR.toArray s (q_rm x).cells (q_rm x).slots (q_A base))) q_cl (q_mL x) ρ bs base D ws s c9)
    (fun c9 z cf hcf hz hG hLF => q_step_s (Nat.lt_succ_of_lt hx9) hCx hr rfl hxs (q_bq a7) (q_hrel_i a8) hcf (q_ends_m hx9 hCx B.returns) hz hG hLF)
    (fun pc lo j st hp9 cl sl hG ho ws9 tys9 H9 locs9 ls9 lv9 sR9 hK9 hP9 hD9 hS9 hW9 hE9 hL9 hF9 hl9 => by
      obtain ⟨V, r, rfl, g1, g2⟩ := q_F2_c hF9
      exact hG ho ws9 tys9 H9 locs9 ls9 lv9 (V :: r) hK9 hP9 hD9 hS9 hW9 hE9 hL9 ⟨(show V = .int (Int32.ofInt (ρ j)) from g1), g2⟩ hl9)
    (fun pc lo lo' st hp9 cl sl hsub hG ho ws9 tys9 H9 locs9 ls9 lv9 sR9 hK9 hP9 hD9 hS9 hW9 hE9 hL9 hF9 hl9 => by
      obtain ⟨lv', k1, k2⟩ := q_F2_sb hL9 lo' hsub
      exact hG ho ws9 tys9 H9 locs9 ls9 lv' sR9 hK9 hP9 hD9 hS9 hW9 hE9 k1 hF9 ⟨hl9.1, hl9.2.1, fun q hq => hl9.2.2 q (k2 q hq)⟩)
  exact hmain (fun i p h => by cases i <;> cases h) ws tys s.heap [] ls (lv_args 0 arR) [] hK hPP hD va_S.rf hW (q_Ex.rf ws) (q_args_s ar arR hF 0) trivial hl
end q_bdT
/-- what is taken as known of the things that stand all through -/
def q_GG (Γ : q_Γ) : Prop := q_rg Γ.1 ∧ (∀ j, j < Γ.2.2.2.1 → Int32.ofInt (Γ.1 j) = Γ.2.2.2.2.1 j) ∧ Γ.2.2.2.2.2.2.stackTraces = false
/-- a method out of its body's run -/
theorem q_M.of {Γ : q_Γ} {K : Nat → q_Ly} {n x : Nat} {P : Nat → q_V → q_F → Prop} {ar : List q_V} {h : q_F} (hx9 : x < 368) (hwid : q_wid ar ≤ (q_mt x).2.1.1) (hG : q_GG Γ) (k : q_R Γ K n x P (0, q_args ar 0, [], q_hp K n h, [], 0, 0)) : q_M Γ K n x ar h P := by
  obtain ⟨t, v, h', hP, hT⟩ := k
  refine ⟨t, v, h', hP, ?_⟩
  obtain ⟨ρ, bs, base, L, xs, D, l⟩ := Γ
  obtain ⟨hr, hxs, hst⟩ := hG
  intro ws tys arR hD hW hF
  have hmv := q_mv_ok x hx9
  obtain ⟨a1, hmv⟩ := q_and_i hmv
  obtain ⟨a2, hmv⟩ := q_and_i hmv
  obtain ⟨a3, hmv⟩ := q_and_i hmv
  cases hh : q_hh x with
  | nil =>
    refine vx_ofW (cc := q_bc x) (maxL := q_mL x) (ret := q_rt x) (ws' := q_GL2) a3 (by unfold q_wsM; rw [q_cw_c hh]) ?_
    intro p e s m args below meth c s₁ B hml ht hP
    refine q_bodyT hr hxs hst hT hwid hx9 hD hW hF B hml ?_ hP
    rw [hh]
    cases hl : c.exceptionTable.toList with
    | nil => rfl
    | cons a r => exact (ht a (by rw [hl]; exact List.mem_cons_self)).elim
  | cons a r =>
    refine vx_ofWH (cc := q_bc x) (maxL := q_mL x) (ret := q_rt x) (hh := q_hh x) (ws' := q_GL2) a3 (by unfold q_wsM; rw [q_cw_h hh]) ?_
    intro p e s m args below meth c s₁ B hml hP
    refine q_bodyT hr hxs hst hT hwid hx9 hD hW hF B hml ?_ hP
    refine vx_table (x := q_y x) B (y := q_y x) (bytes := q_bc x) (maxL' := q_mL x) (ret' := q_rt x) ?_
    have hc := atoms_spec (ws := q_wsM x) B.pre _ List.mem_cons_self
    rw [q_cw_h hh] at hc
    exact hc
