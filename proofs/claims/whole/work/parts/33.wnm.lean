/-! winning nodes, as the model counts them: from the greatest node down -/
def wnP (g : Nat → Nat) (W v : Nat) : Bool := W.testBit v && decide (V g (lft g W v) = 0)
def wd (q : Nat → Bool) (n : Nat) : Nat → Nat
  | 0 => 0
  | d + 1 => if q (n - 1 - d) then wd q n d + 1 else wd q n d
def wf (q : Nat → Bool) (n : Nat) : Nat → Int32
  | 0 => -1
  | d + 1 => if q (n - 1 - d) then nI (n - 1 - d) else wf q n d
def wnR (b : Bool) (q : Nat → Bool) (n : Nat) : Int32 := if b then nI (wd q n n) else wf q n n
def dnn (n d : Nat) : Int32 := if d = n then -1 else nI (n - 1 - d)
theorem dnn_0 {n : Nat} (hn : n ≤ 14) : nI n - nI 1 = dnn n 0 := by
  rw [dnn]
  by_cases h : 0 = n
  · subst h; decide
  · rw [if_neg h, ni_sub (by omega)]
    rfl
theorem dnn_neg {n d : Nat} (hn : n ≤ 14) (hd : d ≤ n) : dnn n d < 0 ↔ d = n := by
  rw [dnn]
  by_cases h : d = n
  · rw [if_pos h]; exact ⟨fun _ => h, fun _ => by decide⟩
  · rw [if_neg h]; exact ⟨fun z => absurd z (nI_pos (by omega)), fun z => absurd z h⟩
theorem dnn_lt {n d : Nat} (hd : d < n) : dnn n d = nI (n - 1 - d) := by rw [dnn, if_neg (by omega)]
theorem dnn_s {n d : Nat} (hn : n ≤ 14) (hd : d < n) : nI (n - 1 - d) + Int32.ofInt (-1) = dnn n (d + 1) := by
  by_cases h : d + 1 = n
  · rw [dnn, if_pos h, show n - 1 - d = 0 by omega]; decide
  · rw [dnn_lt (show d + 1 < n by omega), idec_N (n := 1) (by decide) (by omega)]
    congr 1
theorem wd_le (q : Nat → Bool) (n : Nat) : ∀ d, wd q n d ≤ d
  | 0 => Nat.le_refl _
  | d + 1 => by
    rw [wd]
    have := wd_le q n d
    split <;> omega
