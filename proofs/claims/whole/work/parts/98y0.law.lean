/-! The law's method (genlaw). -/
def kL_law : mM := (yL_law, RL, code, 4, some .boolean, 0, 1)
