/-! Part 98j: what holds between two calls, and that each call of the class keeps it. -/
def j_J (h : q_F) : Prop := (∃ S, m_I S ∧ c_I h S) ∧ (∃ S, m_I S ∧ r_I h S) ∧ (0 ≤ h 1 1 ∧ h 1 1 ≤ 600) ∧ (0 ≤ h 139 14 ∧ h 139 14 ≤ 600) ∧ (0 ≤ h 139 27 ∧ h 139 27 ≤ 300)
/-- the two lengths stay -/
def j_N (h h' : q_F) : Prop := h' 1 1 = h 1 1 ∧ h' 139 14 = h 139 14
theorem j_N_t {h h1 h2 : q_F} (f : j_N h h1) (g : j_N h1 h2) : j_N h h2 := ⟨g.1.trans f.1, g.2.trans f.2⟩
theorem j_cF {h h' : q_F} {S' : m_St} (J : j_J h) (F : c_F h h') (hI : c_I h' S') (hm : m_I S') : j_J h' ∧ j_N h h' := by
  obtain ⟨-, ⟨R, r1, r2⟩, j1, j2, j3⟩ := J
  have e1 := F 1 (by omega)
  have e9 := F 139 (by omega)
  exact ⟨⟨⟨S', hm, hI⟩, ⟨R, r1, r_I_k r2 (fun k hk => F k (by omega)) (by rw [e9]) (by rw [e9])⟩, by rw [e1]; exact j1, by rw [e9]; exact j2, by rw [e9]; exact j3⟩, by rw [e1], by rw [e9]⟩
theorem j_rF {h h' : q_F} {S' : m_St} (J : j_J h) (F : r_F h h') (hI : r_I h' S') (hm : m_I S') : j_J h' ∧ j_N h h' := by
  obtain ⟨⟨C, c1, c2⟩, -, j1, j2, j3⟩ := J
  have e1 := F.1 1 (by omega)
  exact ⟨⟨⟨C, c1, c_I_k c2 c1.2.1.1 (fun k hk => F.1 k (by omega)) (by rw [F.1 0 (by omega)])⟩, ⟨S', hm, hI⟩, by rw [e1]; exact j1, by rw [F.2 14 (by omega)]; exact j2, by rw [F.2 27 (by omega)]; exact j3⟩, by rw [e1], F.2 14 (by omega)⟩
theorem j_out {h : q_F} {k j : Nat} {v : Int} (J : j_J h) (hk : k = 153 ∨ k = 154) : j_J (q_ud h k j v) ∧ j_N h (q_ud h k j v) := by
  obtain ⟨⟨C, c1, c2⟩, ⟨R, r1, r2⟩, j1, j2, j3⟩ := J
  have e : ∀ i, i < 153 → q_ud h k j v i = h i := fun i hi => by funext x; rw [q_ud_n (by omega)]
  exact ⟨⟨⟨C, c1, c_I_k c2 c1.2.1.1 (fun i hi => e i (by omega)) (by rw [e 0 (by omega)])⟩, ⟨R, r1, r_I_k r2 (fun i hi => e i (by omega)) (by rw [e 139 (by omega)]) (by rw [e 139 (by omega)])⟩, by rw [e 1 (by omega)]; exact j1, by rw [e 139 (by omega)]; exact j2, by rw [e 139 (by omega)]; exact j3⟩, by rw [e 1 (by omega)], by rw [e 139 (by omega)]⟩
/-- a call ends, and all that must holds -/
def j_W (f : Option (Int × q_F)) (h : q_F) : Prop := ∃ v h', f = some (v, h') ∧ j_J h' ∧ j_N h h'
theorem j_cW {f : Option (Int × q_F)} {h : q_F} {S' : m_St} (J : j_J h) (g : c_W f h S') (hm : m_I S') : j_W f h := by
  obtain ⟨v, h', a, b, c⟩ := g
  have := j_cF J c b hm
  exact ⟨v, h', a, this.1, this.2⟩
theorem j_rW {f : Option (Int × q_F)} {h : q_F} {S' : m_St} (J : j_J h) (g : r_W f h S') (hm : m_I S') : j_W f h := by
  obtain ⟨v, h', a, b, c⟩ := g
  have := j_rF J c b hm
  exact ⟨v, h', a, this.1, this.2⟩
theorem j_cE {f : Option (Nat × Int × q_F)} {h : q_F} {S' : m_St} {Q : Nat → Prop} (J : j_J h) (g : c_E f h S' Q) (hm : m_I S') : ∃ k v h', f = some (k, v, h') ∧ Q k ∧ j_J h' ∧ j_N h h' ∧ (j_J (q_ud h' 153 0 v) ∧ j_N h (q_ud h' 153 0 v)) ∧ (j_J (q_ud h' 154 0 v) ∧ j_N h (q_ud h' 154 0 v)) := by
  obtain ⟨k, v, h', a, b, c, d⟩ := g
  have J1 := j_cF J d c hm
  have o1 := j_out (k := 153) (j := 0) (v := v) J1.1 (Or.inl rfl)
  have o2 := j_out (k := 154) (j := 0) (v := v) J1.1 (Or.inr rfl)
  exact ⟨k, v, h', a, b, J1.1, J1.2, ⟨o1.1, j_N_t J1.2 o1.2⟩, ⟨o2.1, j_N_t J1.2 o2.2⟩⟩
theorem j_w5 {h : q_F} {S : m_St} (hA : q_Al 0 155 h) (hI : c_I h S) : q_r64 (S.w 5) := by
  have e : h 6 8 = S.w 5 := hI.1.2.1.2.2.2.2.1
  rw [← e]; exact q_al1 hA rfl (by omega) (by omega)
