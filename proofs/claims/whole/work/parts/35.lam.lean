def laS (b : Bool) (g : Nat → Nat) (W : Nat) : Nat := if b then Sh g W else Lo g W
/-- the number of a node's tree, as the model looks for it -/
noncomputable def tfS (g : Nat → Nat) (W v : Nat) : Nat → Int32
  | 0 => -1
  | k + 1 => if (trA g W k).testBit v then nI k else tfS g W v k
