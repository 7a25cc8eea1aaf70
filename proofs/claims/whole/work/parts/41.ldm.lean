/-! texts in the model -/
def clS (m : Nat → Nat) (k : Nat) : Nat → Nat := fun i => if 4 ≤ i ∧ i < 4 + k then 0 else m i
theorem clS_0 (m : Nat → Nat) : clS m 0 = m := by
  funext i; rw [clS, if_neg (by omega)]
theorem clS_s (m : Nat → Nat) (k : Nat) : upN (clS m k) (4 + k) 0 = clS m (k + 1) := by
  funext i
  by_cases h : i = 4 + k
  · subst h; rw [upN_s, clS, if_pos ⟨by omega, by omega⟩]
  · rw [upN_n _ _ h, clS, clS]
    by_cases h2 : 4 ≤ i ∧ i < 4 + k
    · rw [if_pos h2, if_pos ⟨h2.1, by omega⟩]
    · rw [if_neg h2, if_neg (by omega)]
theorem clS_lo {m : Nat → Nat} {k i : Nat} (h : i < 4) : clS m k i = m i := by rw [clS, if_neg (by omega)]
def ldS (tx m : Nat → Nat) : Nat → (Nat → Nat)
  | 0 => m
  | k + 1 => if tx k = 46 then ldS tx m k else lkS (ldS tx m k) k (tx k - 97) true
theorem ldS_lo {tx m : Nat → Nat} {i : Nat} (h : i < 4) : ∀ k, ldS tx m k i = m i
  | 0 => rfl
  | k + 1 => by
    rw [ldS]
    split
    · exact ldS_lo h k
    · rw [lkS_lo h, ldS_lo h k]
theorem wrg_ok {tx : Nat → Nat} {k : Nat} (h : wrg tx k = false) (h2 : tx k ≠ 46) : 97 ≤ tx k ∧ tx k - 97 < k := by
  rw [wrg, decide_eq_false h2] at h
  simp only [Bool.not_false, Bool.true_and, Bool.not_eq_false', Bool.and_eq_true, decide_eq_true_eq] at h
  exact h
def wrS (g tx : Nat → Nat) (k : Nat) : Nat → Nat := fun i => if i < k then chO (lsr g i) else tx i
theorem wrS_0 (g tx : Nat → Nat) : wrS g tx 0 = tx := by
  funext i; simp [wrS]
theorem wrS_s {g tx : Nat → Nat} {k c : Nat} (h : chO (lsr g k) = c) : upN (wrS g tx k) k c = wrS g tx (k + 1) := by
  funext i
  by_cases e : i = k
  · subst e; rw [upN_s, wrS, if_pos (by omega), h]
  · rw [upN_n _ _ e, wrS, wrS]
    by_cases e2 : i < k
    · rw [if_pos e2, if_pos (by omega)]
    · rw [if_neg e2, if_neg (by omega)]
theorem loI_lsr (g : Nat → Nat) (k : Nat) : loI (g k &&& (2 ^ k - 1)) = oI (lsr g k) := by
  rw [loI, lsr]
  split
  · rfl
  · rfl
theorem oI_neg {o : Option Nat} (ho : ∀ k, o = some k → k < 14) : oI o < 0 ↔ o = none := by
  cases o with
  | none => exact ⟨fun _ => rfl, fun _ => by decide⟩
  | some k => exact ⟨fun z => absurd z (nI_pos (by have := ho k rfl; omega)), fun z => by cases z⟩
/-- what the model tells of a node -/
noncomputable def ndR (g : Nat → Nat) (W v : Nat) : Nat → Int32
  | 0 => nI (W.testBit v).toNat
  | 1 => if W.testBit v then nI (g v &&& W) else nI 0
  | 2 => if W.testBit v then tfS g W v (trC g W) else -1
  | 3 => if W.testBit v then nI (V g (lft g W v)) else -1
  | 4 => if W.testBit v then nI (if V g (lft g W v) = 0 then 1 else 0) else -1
  | 5 => if W.testBit v then nI (if T g (lft g W v) < 4096 then 1 else 0) else -1
  | _ => 0
theorem bgS_0 (ss : Nat → Nat) : bgS ss 0 = ss 0 := by rw [bgS, upN_n _ _ (by decide), upN_n _ _ (by decide), upN_n _ _ (by decide)]
