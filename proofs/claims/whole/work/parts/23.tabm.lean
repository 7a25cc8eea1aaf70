/-! the model's table -/
theorem T_lt (g : Nat → Nat) {S : Nat} (hS : S < 16384) : T g S < 8192 := by
  have h1 := V_le g hS
  have h2 := Sh_le g hS
  have h3 := Lo_le g hS
  have h4 := pc_le S
  rw [T_is g hS]
  split <;> omega
def tbOk (g t : Nat → Nat) (n : Nat) : Prop := ∀ i, i < n → t i = T g i
def tbLt (t : Nat → Nat) : Prop := ∀ i, i < 16384 → t i < 8192
theorem tbOk_0 (g t : Nat → Nat) : tbOk g t 0 := fun i h => absurd h (Nat.not_lt_zero _)
theorem tbOk_s {g t : Nat → Nat} {n : Nat} (h : tbOk g t n) : tbOk g (upN t n (T g n)) (n + 1) := fun i hi => by
  by_cases e : i = n
  · subst e; rw [upN_s]
  · rw [upN_n _ _ e]; exact h i (by omega)
theorem tbLt_s {g t : Nat → Nat} {n : Nat} (h : tbLt t) (hn : n < 16384) : tbLt (upN t n (T g n)) := fun i hi => by
  by_cases e : i = n
  · subst e; rw [upN_s]; exact T_lt g hn
  · rw [upN_n _ _ e]; exact h i hi
theorem entr_T {g t : Nat → Nat} {S n : Nat} (hS : S < 2 ^ n) (hn : n ≤ 14) (h : tbOk g t S) : entr g t S n = T g S := by
  rw [entr_top hS hn, entr_congr (t' := T g) (fun U hU => h U hU), ← T_eq]
def cpS (f f2 : Nat → Nat) (k : Nat) : Nat → Nat := fun i => if i < k then f2 i else f i
theorem cpS_0 (f f2 : Nat → Nat) : cpS f f2 0 = f := by
  funext i; simp [cpS]
theorem cpS_s (f f2 : Nat → Nat) (k : Nat) : upN (cpS f f2 k) k (f2 k) = cpS f f2 (k + 1) := by
  funext i
  by_cases h : i = k
  · subst h; rw [upN_s]; simp [cpS]
  · rw [upN_n _ _ h]
    by_cases h2 : i < k
    · rw [cpS, cpS, if_pos h2, if_pos (by omega)]
    · rw [cpS, cpS, if_neg h2, if_neg (by omega)]
