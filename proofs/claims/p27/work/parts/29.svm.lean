/-! the model's saved states -/
def shB (ss : Nat → Nat) : Nat → (Nat → Nat)
  | 0 => ss
  | k + 1 => cpB (shB ss k) (k + 2) (k + 1) 18
def svM (ss : Nat → Nat) (n : Nat) : Nat → Nat := if n = 6 then cpB (shB ss 5) 0 6 18 else cpB ss 0 (n + 1) 18
def svN (n : Nat) : Nat := if n = 6 then 6 else n + 1
