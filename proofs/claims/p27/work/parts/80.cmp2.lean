/-! mirrors -/
theorem comp_n2 {g : Nat → Nat} {S n i : Nat} (h1 : S < 2 ^ n) (hi : S.testBit i = true) : comp g S i < 2 ^ n := sub_lt2 h1 (fun _ hx => comp_in hi hx)
