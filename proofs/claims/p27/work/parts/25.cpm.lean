/-! the model's rows of states -/
def cpB (ss : Nat → Nat) (fr to k : Nat) : Nat → Nat := fun i => if 18 * to ≤ i ∧ i < 18 * to + k then ss (18 * fr + (i - 18 * to)) else ss i
def lk1 (b : Bool) (x y : Nat) : Nat := if b then x ||| 2 ^ y else sd x (2 ^ y)
def lkS (ss : Nat → Nat) (i j : Nat) (b : Bool) : Nat → Nat := upN (upN ss (4 + i) (lk1 b (ss (4 + i)) j)) (4 + j) (lk1 b ((upN ss (4 + i) (lk1 b (ss (4 + i)) j)) (4 + j)) i)
