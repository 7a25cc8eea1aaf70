theorem lk2_e {g r : Nat → Nat} (h : eqG g r) {i j : Nat} (hi : i < 14) (hj : j < 14) (b : Bool) : eqG (lk2 g i j b) (lk2 r i j b) := fun k hk => by
  simp only [lk2, upN, h i hi, h j hj, h k hk]
