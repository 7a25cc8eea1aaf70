def tkX (ss : Nat → Nat) (v : Nat) : Nat := ss 1 &&& (2 ^ v ||| ss (4 + v))
