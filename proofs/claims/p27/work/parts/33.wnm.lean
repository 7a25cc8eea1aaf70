/-! winning nodes, as the model counts them: from the greatest node down -/
def wnP (g : Nat → Nat) (W v : Nat) : Bool := W.testBit v && decide (V g (lft g W v) = 0)
def wd (q : Nat → Bool) (n : Nat) : Nat → Nat
  | 0 => 0
  | d + 1 => if q (n - 1 - d) then wd q n d + 1 else wd q n d
def wf (q : Nat → Bool) (n : Nat) : Nat → Int32
  | 0 => -1
  | d + 1 => if q (n - 1 - d) then nI (n - 1 - d) else wf q n d
