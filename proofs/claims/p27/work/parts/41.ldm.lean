theorem wrg_ok {tx : Nat → Nat} {k : Nat} (h : wrg tx k = false) (h2 : tx k ≠ 46) : 97 ≤ tx k ∧ tx k - 97 < k := by
  rw [wrg, decide_eq_false h2] at h
  simp only [Bool.not_false, Bool.true_and, Bool.not_eq_false', Bool.and_eq_true, decide_eq_true_eq] at h
  exact h
def wrS (g tx : Nat → Nat) (k : Nat) : Nat → Nat := fun i => if i < k then chO (lsr g i) else tx i
theorem wrS_0 (g tx : Nat → Nat) : wrS g tx 0 = tx := by
  funext i; simp [wrS]
theorem wrS_s {g tx : Nat → Nat} {k c : Nat} (h : chO (lsr g k) = c) : upN (wrS g tx k) k c = wrS g tx (k + 1) := by
  funext i
  by_cases e : i = k
  · subst e; rw [upN_s, wrS, if_pos (by omega), h]
  · rw [upN_n _ _ e, wrS, wrS]
    by_cases e2 : i < k
    · rw [if_pos e2, if_pos (by omega)]
    · rw [if_neg e2, if_neg (by omega)]
