/-! the model's list of trees -/
noncomputable def trS (tr g : Nat → Nat) (W m : Nat) : Nat → Nat := fun i => if i < m then trA g W i else tr i
theorem trS_0 (tr g : Nat → Nat) (W : Nat) : trS tr g W 0 = tr := by
  funext i; simp [trS]
theorem trS_s (tr g : Nat → Nat) (W m : Nat) : upN (trS tr g W m) m (trA g W m) = trS tr g W (m + 1) := by
  funext i
  by_cases h : i = m
  · subst h; rw [upN_s]; simp [trS]
  · rw [upN_n _ _ h]
    by_cases h2 : i < m
    · rw [trS, trS, if_pos h2, if_pos (by omega)]
    · rw [trS, trS, if_neg h2, if_neg (by omega)]
theorem trS_at {tr g : Nat → Nat} {W m i : Nat} (h : i < m) : trS tr g W m i = trA g W i := by rw [trS, if_pos h]
theorem lt_n {x n i : Nat} (h : x < 2 ^ n) (hi : x.testBit i = true) : i < n := by
  rcases Nat.lt_or_ge i n with q | q
  · exact q
  · rw [bit_of_lt h q] at hi; cases hi
theorem w14 {x n : Nat} (h : x < 2 ^ n) (hn : n ≤ 14) : x < 16384 := Nat.lt_of_lt_of_le h (pow_15 hn)
