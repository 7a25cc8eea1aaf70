/-! small things of the model -/
def gz (b1 b2 : Bool) : Nat := if b1 then (if b2 then 0 else 2) else 1
def isN (n : Nat) (x : Int32) : Bool := decide (0 ≤ x.toInt ∧ x.toInt < n)
theorem isN_iff {n : Nat} {x : Int32} (hn : n ≤ 14) : isN n x = true ↔ ∃ k, k < n ∧ x = nI k := by
  rw [isN, decide_eq_true_eq]
  constructor
  · rintro ⟨h1, h2⟩
    refine ⟨x.toInt.toNat, by omega, ?_⟩
    apply Int32.toInt_inj.mp
    rw [nI_toInt (by omega)]
    omega
  · rintro ⟨k, h1, rfl⟩
    rw [nI_toInt (by omega)]
    omega
