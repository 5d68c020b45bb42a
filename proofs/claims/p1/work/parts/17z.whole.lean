/-! Part 17z: the law from its entry. -/
theorem whole_start {p : Program} {e : Env} {s : State} {m : MethodId} {below : List Frame} {meth : Method} {c : Code} (l : Launch) (hflags : l.flags = flags0) {b L : Nat} {xs : Nat → Int32} (hL : L ≤ 6) (C0 : lw_At p s m meth c b L xs) : W p l e room_1 s m #[Value.ref b] below meth c s.heap [] 0 0 (lw_Z below #[Value.ref b] s) (entryFrame m ([Value.ref b] : List Value).toArray 10) := by
  by_cases h12 : L < 6 ∨ q_ρ xs 6 ≠ 12
  · exact q_most l hflags hL C0 h12
  · have h2 := not_or.mp h12
    have e6 : L = 6 := by omega
    subst e6
    exact q_jog l hflags C0 (Decidable.not_not.mp h2.2)
