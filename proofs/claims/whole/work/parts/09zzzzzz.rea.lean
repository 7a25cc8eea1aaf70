/-! the model's walk over a part -/
def gS (ss : Nat → Nat) (i : Nat) : Nat := ss (4 + i)
def stpF (g : Nat → Nat) (W B : Nat) : Nat → Nat
  | 0 => B
  | k + 1 => stpF g W B k ||| (if B.testBit k then g k &&& W else 0)
theorem stp_bit {g : Nat → Nat} {W B j : Nat} : ∀ n, (stpF g W B n).testBit j = true ↔ B.testBit j = true ∨ ∃ k, k < n ∧ B.testBit k = true ∧ (g k).testBit j = true ∧ W.testBit j = true
  | 0 => by simp [stpF]
  | n + 1 => by
    rw [stpF, Nat.testBit_or, Bool.or_eq_true, stp_bit n]
    constructor
    · rintro ((h | ⟨k, h1, h2⟩) | h)
      · exact Or.inl h
      · exact Or.inr ⟨k, by omega, h2⟩
      · by_cases e : B.testBit n = true
        · rw [if_pos e, Nat.testBit_and, Bool.and_eq_true] at h
          exact Or.inr ⟨n, by omega, e, h.1, h.2⟩
        · rw [if_neg e, Nat.zero_testBit] at h; cases h
    · rintro (h | ⟨k, h1, h2, h3, h4⟩)
      · exact Or.inl (Or.inl h)
      · by_cases e : k = n
        · subst e
          right
          rw [if_pos h2, Nat.testBit_and, h3, h4]; rfl
        · exact Or.inl (Or.inr ⟨k, by omega, h2, h3, h4⟩)
theorem stp_lt {g : Nat → Nat} {W B n : Nat} (hW : W < 2 ^ n) (hB : B < 2 ^ n) : ∀ k, stpF g W B k < 2 ^ n
  | 0 => hB
  | k + 1 => by
    rw [stpF]
    refine or_lt (stp_lt hW hB k) ?_
    split
    · exact and_lt2 _ hW
    · exact Nat.pow_pos (by omega)
def MInv (g : Nat → Nat) (W a n X B : Nat) : Prop := X < 2 ^ n ∧ (∀ i, B.testBit i = true → X.testBit i = true) ∧ X.testBit a = true ∧ (∀ i, X.testBit i = true → rch g W a i) ∧ (∀ i, B.testBit i = true → ∀ j, (g i).testBit j = true → W.testBit j = true → X.testBit j = true)
theorem MInv_0 {g : Nat → Nat} {W a n : Nat} (ha : a < n) : MInv g W a n (2 ^ a) 0 := by
  refine ⟨pow_lt_iff.mpr ha, fun i h => ?_, ?_, fun i h => ?_, fun i h => ?_⟩
  · rw [Nat.zero_testBit] at h; cases h
  · rw [pow_bit]; simp
  · rw [pow_bit, decide_eq_true_eq] at h
    subst h
    exact rch_self g W a
  · rw [Nat.zero_testBit] at h; cases h
theorem MInv_s {g : Nat → Nat} {W a n X B : Nat} (hW : W < 2 ^ n) (h : MInv g W a n X B) : MInv g W a n (stpF g W X n) X := by
  obtain ⟨h1, h2, h3, h4, h5⟩ := h
  refine ⟨stp_lt hW h1 n, fun i hi => (stp_bit n).mpr (Or.inl hi), (stp_bit n).mpr (Or.inl h3), fun i hi => ?_, fun i hi j hj hw => ?_⟩
  · rcases (stp_bit n).mp hi with q | ⟨k, q1, q2, q3, q4⟩
    · exact h4 i q
    · exact rch_step (h4 k q2) q3 q4
  · refine (stp_bit n).mpr (Or.inr ⟨i, ?_, hi, hj, hw⟩)
    rcases Nat.lt_or_ge i n with q | q
    · exact q
    · rw [bit_of_lt h1 q] at hi; cases hi
theorem MInv_pc {g : Nat → Nat} {W a n X B : Nat} (hn : n ≤ 14) (h : MInv g W a n X B) (hne : X ≠ B) : pc B < pc X := by
  obtain ⟨h1, h2, -⟩ := h
  have hX : X < 16384 := Nat.lt_of_lt_of_le h1 (pow_15 hn)
  have hB : B < 16384 := Nat.lt_of_le_of_lt (by
    by_cases e : B = X
    · omega
    · exact Nat.le_of_lt (lt_of_sub h2 e)) hX
  have : ∃ j, j < 14 ∧ X.testBit j = true ∧ B.testBit j = false := by
    by_cases q : ∃ j, j < 14 ∧ X.testBit j = true ∧ B.testBit j = false
    · exact q
    · exfalso
      refine hne (eq_of_bits hX hB (fun i hi => ?_))
      cases e : X.testBit i
      · cases e2 : B.testBit i
        · rfl
        · rw [h2 i e2] at e; cases e
      · cases e2 : B.testBit i
        · exact absurd ⟨i, hi, e, e2⟩ q
        · rfl
  obtain ⟨j, j1, j2, j3⟩ := this
  exact pc_lt h2 j2 j3 j1
theorem MInv_x {g : Nat → Nat} {W a n X : Nat} (hn : n ≤ 14) (h : MInv g W a n X X) : X = comp g W a := by
  obtain ⟨h1, -, h3, h4, h5⟩ := h
  exact comp_eq (Nat.lt_of_lt_of_le h1 (pow_15 hn)) h3 (fun i hi j hj hw => h5 i hi j hj hw) h4
theorem MInv_lt {g : Nat → Nat} {W a n X B : Nat} (hn : n ≤ 14) (h : MInv g W a n X B) : X < 16384 := Nat.lt_of_lt_of_le h.1 (pow_15 hn)
theorem MInv_ltB {g : Nat → Nat} {W a n X B : Nat} (hn : n ≤ 14) (h : MInv g W a n X B) : B < 16384 := Nat.lt_of_le_of_lt (by
    by_cases e : B = X
    · omega
    · exact Nat.le_of_lt (lt_of_sub h.2.1 e)) (MInv_lt hn h)
