/-! the model's walk over a part -/
def gS (ss : Nat → Nat) (i : Nat) : Nat := ss (4 + i)
