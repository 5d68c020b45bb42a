theorem q_last : True := trivial
