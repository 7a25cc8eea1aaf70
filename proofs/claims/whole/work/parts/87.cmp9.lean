theorem tk_lft {g ss : Nat → Nat} (h : eqG g (gS ss)) {v : Nat} (hv : v < 14) : sd (ss 1) (tkX ss v) = lft g (ss 1) v := by
  rw [lft, h v hv]
  apply Nat.eq_of_testBit_eq
  intro i
  rw [sd_bit, sd_bit, tkX, Nat.testBit_and, gS]
  cases (ss 1).testBit i <;> simp
