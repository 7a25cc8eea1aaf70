theorem hF_c {f f2 : Nat → Int32} {h : Int64} : ∀ n, (∀ k, k < n → f k = f2 k) → hF f h n = hF f2 h n
  | 0, _ => rfl
  | n + 1, e => by rw [hF, hF, hF_c n (fun k hk => e k (by omega)), e n (Nat.lt_succ_self n)]
theorem cjB_c {g r : Nat → Nat} (h : eqG g r) {W n i j : Nat} (hn : n ≤ 14) (hi : i < 14) : cjB g W n i j = cjB r W n i j := by
  rw [cjB, cjB, comp_g h (full_lt hn) hi]
theorem dg_12 {g ss : Nat → Nat} {hs sn : Nat} (h : eqG g (gS ss)) (hsy : symG (gS ss)) (h1 : ss 1 < 2 ^ ss 0) (hn : ss 0 ≤ 14) (h2 : ss 2 = ss 3 % 2) (hh : hs = sn) : ec2 g (ss 1) (ec1 g (ss 1) (ss 0) (ss 3) hs 12) (6 * ss 0) = dg2 ss (dg1 ss sn) (6 * ss 0) := by
  have hW := w14 h1 hn
  rw [ec2, dg2, ec1, dg1, hF_c 12 (fun k hk => cnT_c h h1 hn h2 hh hk)]
  exact hF_c _ (fun k hk => ndT_c h (by omega) (fun hb => trN_c h hsy hW hb) (by omega))
theorem dg_3 {g ss : Nat → Nat} (h : eqG g (gS ss)) (h1 : ss 1 < 2 ^ ss 0) (hn : ss 0 ≤ 14) (x : Int64) (n : Nat) : ec3 g (ss 1) x n = dg3 ss x n := by
  rw [ec3, dg3]
  exact hF_c _ (fun k _ => tvT_c h h1 hn (k / 6) (by omega))
theorem dg_4 {g ss : Nat → Nat} (h : eqG g (gS ss)) (hn : ss 0 ≤ 14) (x : Int64) : ec4 g (ss 1) (ss 0) x = dg4 ss x := by
  rw [ec4, dg4, bst_g h hn, laS, laS, laS, laS, Sh_g h, Lo_g h]
theorem dg_5 {g ss : Nat → Nat} (h : eqG g (gS ss)) (h1 : ss 1 < 2 ^ ss 0) (hn : ss 0 ≤ 14) (x : Int64) : ec5 g (ss 1) (ss 0) x 4 = dg5 ss x 4 := by
  rw [ec5, dg5]
  exact hF_c _ (fun k hk => mrC_c h h1 hn (nI_pos (by omega)))
theorem dg_8 (kp : Nat → Nat) (x : Int64) : ec8 kp x 2 = 31 * (31 * x + (nI (kp 0)).toInt64) + (nI (kp 1)).toInt64 := by
  rw [ec8, hF, hF, hF]
