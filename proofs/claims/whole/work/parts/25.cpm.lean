/-! the model's rows of states -/
def cpB (ss : Nat → Nat) (fr to k : Nat) : Nat → Nat := fun i => if 18 * to ≤ i ∧ i < 18 * to + k then ss (18 * fr + (i - 18 * to)) else ss i
theorem cpB_0 (ss : Nat → Nat) (fr to : Nat) : cpB ss fr to 0 = ss := by
  funext i
  rw [cpB, if_neg (by omega)]
theorem cpB_o {ss : Nat → Nat} {fr to k : Nat} (h : fr ≠ to) (hk : k < 18) : cpB ss fr to k (18 * fr + k) = ss (18 * fr + k) := by
  rw [cpB, if_neg (by omega)]
theorem cpB_s (ss : Nat → Nat) (fr to k : Nat) : upN (cpB ss fr to k) (18 * to + k) (ss (18 * fr + k)) = cpB ss fr to (k + 1) := by
  funext i
  by_cases h : i = 18 * to + k
  · subst h
    rw [upN_s, cpB, if_pos ⟨by omega, by omega⟩]
    congr 1
    omega
  · rw [upN_n _ _ h, cpB, cpB]
    by_cases h2 : 18 * to ≤ i ∧ i < 18 * to + k
    · rw [if_pos h2, if_pos ⟨h2.1, by omega⟩]
    · rw [if_neg h2, if_neg (by omega)]
def lk1 (b : Bool) (x y : Nat) : Nat := if b then x ||| 2 ^ y else sd x (2 ^ y)
def lkS (ss : Nat → Nat) (i j : Nat) (b : Bool) : Nat → Nat := upN (upN ss (4 + i) (lk1 b (ss (4 + i)) j)) (4 + j) (lk1 b ((upN ss (4 + i) (lk1 b (ss (4 + i)) j)) (4 + j)) i)
