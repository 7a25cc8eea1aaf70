theorem miB_z {g : Nat → Nat} {W n k i j : Nat} (h1 : W < 2 ^ n) (h : n ≤ i ∨ n ≤ j) : miB g W k i j = false := by
  rw [miB, edB]
  rcases h with h | h
  · rw [bit_of_lt h1 h, Bool.false_and, Bool.false_and, Bool.false_and]
  · rw [bit_of_lt h1 h, Bool.and_false, Bool.false_and, Bool.false_and]
theorem innM_c {q q2 : Nat → Nat → Bool} {i : Nat} {R : Int32} {s : Nat × Int32} : ∀ j, (∀ m, m < j → q i m = q2 i m) → innM q i R s j = innM q2 i R s j
  | 0, _ => rfl
  | j + 1, h => by rw [innM, innM, innM_c j (fun m hm => h m (by omega)), h j (Nat.lt_succ_self j)]
theorem outM_c {q q2 : Nat → Nat → Bool} {n : Nat} {R : Int32} : ∀ k, (∀ i m, i < k → m < n → q i m = q2 i m) → outM q n R k = outM q2 n R k
  | 0, _ => rfl
  | k + 1, h => by rw [outM, outM, outM_c k (fun i m hi hm => h i m (by omega) hm), innM_c n (fun m hm => h k m (Nat.lt_succ_self k) hm)]
theorem innM_up {q : Nat → Nat → Bool} {i n : Nat} {R : Int32} {s : Nat × Int32} (hz : ∀ m, n ≤ m → q i m = false) : ∀ d, innM q i R s (n + d) = innM q i R s n
  | 0 => rfl
  | d + 1 => by
    show innM q i R s (n + d + 1) = _
    rw [innM, hz _ (Nat.le_add_right n d), Bool.and_false, if_neg (by decide), innM_up hz d]
theorem innM_z {q : Nat → Nat → Bool} {i : Nat} {R : Int32} {s : Nat × Int32} (hz : ∀ m, q i m = false) : ∀ j, innM q i R s j = s
  | 0 => rfl
  | j + 1 => by rw [innM, hz, Bool.and_false, if_neg (by decide), innM_z hz j]
theorem outM_up {q : Nat → Nat → Bool} {n : Nat} {R : Int32} (hz : ∀ i m, n ≤ m → q i m = false) (d : Nat) : ∀ k, outM q (n + d) R k = outM q n R k
  | 0 => rfl
  | k + 1 => by rw [outM, outM, outM_up hz d k, innM_up (hz k) d]
theorem outM_up2 {q : Nat → Nat → Bool} {n : Nat} {R : Int32} (hz : ∀ i m, n ≤ i → q i m = false) : ∀ d, outM q n R (n + d) = outM q n R n
  | 0 => rfl
  | d + 1 => by
    show outM q n R (n + d + 1) = _
    rw [outM, innM_z (hz _ · (Nat.le_add_right n d)), outM_up2 hz d]
theorem outM_14 {q : Nat → Nat → Bool} {n : Nat} {R : Int32} (hn : n ≤ 14) (hz : ∀ i m, n ≤ i ∨ n ≤ m → q i m = false) : outM q 14 R 14 = outM q n R n := by
  have a := outM_up (q := q) (R := R) (fun i m h => hz i m (Or.inr h)) (14 - n) 14
  have b := outM_up2 (q := q) (R := R) (fun i m h => hz i m (Or.inl h)) (14 - n)
  rw [show n + (14 - n) = 14 by omega] at a b
  rw [a, b]
theorem miQ_z {g : Nat → Nat} {W n k S i j : Nat} (h1 : W < 2 ^ n) (h : n ≤ i ∨ n ≤ j) : miQ g W k S i j = false := by
  rw [miQ, miB_z h1 h, Bool.and_false]
