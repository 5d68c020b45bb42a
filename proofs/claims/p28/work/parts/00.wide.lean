/-! Part 00: nothing but a name of the library's rest, so that the rounds are read over the whole of it from the first part on. -/
theorem q_wide : True := by
  have _h := @Bundle.ownAtomsX
  trivial
