/-! Part 17: the law from its entry, for all calls but one. -/
theorem q_most {p : Program} {e : Env} {s : State} {m : MethodId} {below : List Frame} {meth : Method} {c : Code} (l : Launch) (hflags : l.flags = flags0) {b L : Nat} {xs : Nat → Int32} (hL : L ≤ 6) (C0 : lw_At p s m meth c b L xs) (h12 : L < 6 ∨ q_ρ xs 6 ≠ 12) :
    W p l e room_1 s m #[Value.ref b] below meth c s.heap [] 0 0 (lw_Z below #[Value.ref b] s) (entryFrame m ([Value.ref b] : List Value).toArray 10) := by
  have h63 : 0 ≤ q_ρ xs 6 ∧ q_ρ xs 6 ≤ 63 := q_and63 (xs 0)
  have hL7 : L = 0 ∨ L = 1 ∨ L = 2 ∨ L = 3 ∨ L = 4 ∨ L = 5 ∨ L = 6 := by omega
  rcases hL7 with rfl | rfl | rfl | rfl | rfl | rfl | rfl
  · exact q_law l hflags hL C0 (q_okr xs h63.1 h63.2) q_eL0
  · exact q_law l hflags hL C0 (q_okr xs h63.1 h63.2) q_eL1
  · exact q_law l hflags hL C0 (q_okr xs h63.1 h63.2) q_eL2
  · exact q_law l hflags hL C0 (q_okr xs h63.1 h63.2) q_eL3
  · exact q_law l hflags hL C0 (q_okr xs h63.1 h63.2) q_eL4
  · exact q_law l hflags hL C0 (q_okr xs h63.1 h63.2) q_eL5
  have h12' : q_ρ xs 6 ≠ 12 := h12.resolve_left (by omega)
  by_cases c10 : q_ρ xs 6 ≤ 10
  · exact q_law l hflags hL C0 (q_okr xs (by omega) c10) q_e0_10
  by_cases c11 : q_ρ xs 6 ≤ 11
  · exact q_law l hflags hL C0 (q_okr xs (by omega) c11) q_e11_11
  by_cases c16 : q_ρ xs 6 ≤ 16
  · exact q_law l hflags hL C0 (q_okr xs (by omega) c16) q_e13_16
  by_cases c18 : q_ρ xs 6 ≤ 18
  · exact q_law l hflags hL C0 (q_okr xs (by omega) c18) q_e17_18
  by_cases c19 : q_ρ xs 6 ≤ 19
  · exact q_law l hflags hL C0 (q_okr xs (by omega) c19) q_e19_19
  by_cases c25 : q_ρ xs 6 ≤ 25
  · exact q_law l hflags hL C0 (q_okr xs (by omega) c25) q_e20_25
  by_cases c27 : q_ρ xs 6 ≤ 27
  · exact q_law l hflags hL C0 (q_okr xs (by omega) c27) q_e26_27
  by_cases c38 : q_ρ xs 6 ≤ 38
  · exact q_law l hflags hL C0 (q_okr xs (by omega) c38) q_e28_38
  by_cases c45 : q_ρ xs 6 ≤ 45
  · exact q_law l hflags hL C0 (q_okr xs (by omega) c45) q_e39_45
  by_cases c47 : q_ρ xs 6 ≤ 47
  · exact q_law l hflags hL C0 (q_okr xs (by omega) c47) q_e46_47
  by_cases c49 : q_ρ xs 6 ≤ 49
  · exact q_law l hflags hL C0 (q_okr xs (by omega) c49) q_e48_49
  by_cases c50 : q_ρ xs 6 ≤ 50
  · exact q_law l hflags hL C0 (q_okr xs (by omega) c50) q_e50_50
  by_cases c63 : q_ρ xs 6 ≤ 63
  · exact q_law l hflags hL C0 (q_okr xs (by omega) c63) q_e51_63
  omega
