/-! the model's moves -/
def bgS (ss : Nat → Nat) : Nat → Nat := upN (upN (upN ss 1 (2 ^ ss 0 - 1)) 2 0) 3 0
def tkX (ss : Nat → Nat) (v : Nat) : Nat := ss 1 &&& (2 ^ v ||| ss (4 + v))
def tkS (ss : Nat → Nat) (v : Nat) : Nat → Nat := upN (upN (upN ss 1 (sd (ss 1) (tkX ss v))) 2 (1 - ss 2)) 3 (ss 3 + 1)
