/-! Part 98m: the input's calls, on both sides at once; printing. -/
theorem j_io {h h2 : q_F} (J : j_J h) (fr : ∀ k, k ≠ 1 → k ≠ 2 → k ≠ 139 → k ≠ 150 → h2 k = h k) (f9 : ∀ j, j ≠ 7 → j ≠ 14 → h2 139 j = h 139 j) (l : 0 ≤ h2 1 1 ∧ h2 1 1 ≤ 600) (E : h2 1 1 = h2 139 14) : j_J h2 := by
  obtain ⟨⟨C, c1, c2⟩, ⟨R, r1, r2⟩, -, -, j3⟩ := J
  refine ⟨⟨C, c1, c_I_k c2 c1.2.1.1 (fun k hk => fr k (by omega) (by omega) (by omega) (by omega)) (by rw [fr 0 (by omega) (by omega) (by omega) (by omega)])⟩, ⟨R, r1, r_I_k r2 (fun k hk => fr k (by omega) (by omega) (by omega) (by omega)) (f9 5 (by omega) (by omega)) (f9 6 (by omega) (by omega))⟩, l, ?_, ?_⟩
  · rw [← E]; exact l
  · rw [f9 27 (by omega) (by omega)]; exact j3
theorem j_app {a b c d e : Int} {h : q_F} (J : j_J h) (E : h 1 1 = h 139 14) : ∃ v h1 h2, fn156 a b c d e h = some (v, h1) ∧ fn237 a b c d e h1 = some (v, h2) ∧ j_J h2 ∧ h2 1 1 = h2 139 14 := by
  have b1 := J.2.2.1
  have b2 := J.2.2.2.1
  obtain ⟨h1, e1, l1, F1⟩ := c_append (a := a) (b := b) (c := c) (d := d) (e := e) b1
  have x9 : h1 139 = h 139 := F1 139 (by omega) (by omega)
  obtain ⟨h2, e2, l2, F2⟩ := r_append (a := a) (b := b) (c := c) (d := d) (e := e) (h := h1) (by rw [x9]; exact b2)
  have y1 : h2 1 = h1 1 := F2.1 1 (by omega) (by omega)
  rw [x9, ← E] at e2 l2
  have q1 : h2 1 1 = (if h 1 1 ≤ 580 then h 1 1 + 20 else h 1 1) := by rw [y1, l1]
  have EE : h2 1 1 = h2 139 14 := by rw [q1, l2]
  refine ⟨_, h1, h2, e1, e2, j_io J (fun k k1 k2 k3 k4 => by rw [F2.1 k k3 k4, F1 k k1 k2]) (fun j j1 j2 => by rw [F2.2 j j1 j2, x9]) ?_ EE, EE⟩
  rw [q1]; split <;> omega
theorem j_tru {v : Int} {h : q_F} (J : j_J h) (E : h 1 1 = h 139 14) : ∃ w h1 h2, fn226 v h = some (w, h1) ∧ fn358 v h1 = some (w, h2) ∧ j_J h2 ∧ h2 1 1 = h2 139 14 := by
  have b1 := J.2.2.1
  have b2 := J.2.2.2.1
  obtain ⟨h1, e1, l1, F1⟩ := c_trunc (v := v) (h := h)
  have x9 : h1 139 = h 139 := F1 139 (by omega) (by omega)
  obtain ⟨h2, e2, l2, F2⟩ := r_trunc (v := v) (h := h1) (by rw [x9]; exact b2)
  have y1 : h2 1 = h1 1 := F2.1 1 (by omega) (by omega)
  rw [x9, ← E] at e2 l2
  have q1 : h2 1 1 = (if 0 ≤ v ∧ v ≤ h 1 1 then v else h 1 1) := by rw [y1, l1]
  have EE : h2 1 1 = h2 139 14 := by rw [q1, l2]
  refine ⟨_, h1, h2, e1, e2, j_io J (fun k k1 k2 k3 k4 => by rw [F2.1 k k3 k4, F1 k k1 k2]) (fun j j1 j2 => by rw [F2.2 j j1 j2, x9]) ?_ EE, EE⟩
  rw [q1]; split <;> omega
theorem j_load {h : q_F} (J : j_J h) : ∃ v h1 w h2, fn187 h = some (v, h1) ∧ fn283 h1 = some (w, h2) ∧ j_J h2 ∧ h2 1 1 = h2 139 14 := by
  obtain ⟨⟨C, c1, c2⟩, ⟨R, r1, r2⟩, b1, b2, b3⟩ := J
  obtain ⟨v, h1, C', e1, c3, c4, l1, F1⟩ := c_load c2 c1 b1
  have x9 : h1 139 = h 139 := F1 139 (by omega)
  have r3 : r_I h1 R := r_I_k r2 (fun k hk => F1 k (by omega)) (by rw [x9]) (by rw [x9])
  obtain ⟨w, h2, R', e2, r4, r5, l2, F2, g27⟩ := r_load r3 r1 (by rw [x9]; exact b2)
  have y1 : h2 1 1 = 0 := by rw [F2 1 (by omega), l1]
  refine ⟨v, h1, w, h2, e1, e2, ⟨⟨C', c4, c_I_k c3 c4.2.1.1 (fun k hk => F2 k (by omega)) (by rw [F2 0 (by omega)])⟩, ⟨R', r5, r4⟩, ?_, ?_, ?_⟩, ?_⟩
  · rw [y1]; omega
  · rw [l2]; omega
  · rw [g27, x9]; exact b3
  · rw [y1, l2]
theorem j_print {h : q_F} (J : j_J h) : j_W (fn307 h) h := by
  obtain ⟨⟨C, c1, c2⟩, ⟨R, r1, r2⟩, b1, b2, b3⟩ := J
  obtain ⟨v, h', e, i, F, p0, p1⟩ := r_print r2 r1
  have x1 : h' 1 = h 1 := F.1 1 (by omega)
  have x14 : h' 139 14 = h 139 14 := F.2 14 (by omega)
  refine ⟨v, h', e, ⟨⟨C, c1, c_I_k c2 c1.2.1.1 (fun k hk => F.1 k (by omega)) (by rw [F.1 0 (by omega)])⟩, ⟨R, r1, i⟩, ?_, ?_, p0, p1⟩, ?_, x14⟩
  · rw [x1]; exact b1
  · rw [x14]; exact b2
  · rw [x1]
