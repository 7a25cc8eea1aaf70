theorem w14 {x n : Nat} (h : x < 2 ^ n) (hn : n ≤ 14) : x < 16384 := Nat.lt_of_lt_of_le h (pow_15 hn)
