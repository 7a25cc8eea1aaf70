theorem lk2_e {g r : Nat → Nat} (h : eqG g r) {i j : Nat} (hi : i < 14) (hj : j < 14) (b : Bool) : eqG (lk2 g i j b) (lk2 r i j b) := fun k hk => by
  simp only [lk2, upN, h i hi, h j hj, h k hk]
theorem jn_c {g ss : Nat → Nat} (h : eqG g (gS ss)) (hn : ss 0 ≤ 14) {i j : Nat} (hi : i < 14) (hj : j < 14) : jnT g (ss 1) (ss 0) i j = jnR ss i j := by
  rw [jnT, jnR, cjB_c h hn hi, gS_lk, V_g (lk2_e h hi hj true)]
theorem dg_6 {g ss : Nat → Nat} (h : eqG g (gS ss)) (hn : ss 0 ≤ 14) (x : Int64) : ec6 g (ss 1) (ss 0) x = dg6 ss x := by
  rw [ec6, dg6]
  by_cases e : 0 < ss 0
  · rw [if_pos e, if_pos e, jn_c h hn (by omega) (by omega)]
  · rw [if_neg e, if_neg e]
theorem dgT_c {g ss kp tx : Nat → Nat} {hs sn ty : Nat} (h : eqG g (gS ss)) (hsy : symG (gS ss)) (h1 : ss 1 < 2 ^ ss 0) (hn : ss 0 ≤ 14) (h2 : ss 2 = ss 3 % 2) (hh : hs = sn) : dgT g (ss 1) (ss 0) (ss 3) hs kp ty tx = dgA ss kp tx sn ty := by
  rw [dgT, dgA, dg_12 h hsy h1 hn h2 hh, dg_3 h h1 hn, trC_g h (w14 h1 hn), dg_4 h hn, dg_5 h h1 hn, dg_6 h hn, dg_8, ec7, dg7, share_c h hn, ec9, dg8]
