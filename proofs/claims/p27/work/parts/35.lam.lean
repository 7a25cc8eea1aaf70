def laS (b : Bool) (g : Nat → Nat) (W : Nat) : Nat := if b then Sh g W else Lo g W
