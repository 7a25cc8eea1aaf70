theorem wn4 {g r : Nat → Nat} (h : eqG g r) {W v : Nat} (hv : v < 14) (hb : W.testBit v = true) : bI (wnP g W v) = nI (if V r (lft r W v) = 0 then 1 else 0) := by
  rw [wnP_g h hv, wnP, hb, Bool.true_and]
  by_cases e : V r (lft r W v) = 0
  · rw [if_pos e, decide_eq_true e]; rfl
  · rw [if_neg e, decide_eq_false e]; rfl
theorem lft_c {g r : Nat → Nat} (h : eqG g r) {W v : Nat} (hv : v < 14) : lft g W v = lft r W v := by rw [lft, lft, h v hv]
theorem ndT_c {g r : Nat → Nat} (h : eqG g r) {W v w : Nat} (hv : v < 14) (htr : W.testBit v = true → nI (trN g W v) = tfS r W v (trC r W)) (hw : w < 6) : ndT g W v w = ndR r W v w := by
  rcases (show w = 0 ∨ w = 1 ∨ w = 2 ∨ w = 3 ∨ w = 4 ∨ w = 5 by omega) with e | e | e | e | e | e
  · rw [e]; show nI (W.testBit v).toNat = nI (W.testBit v).toNat; rfl
  · rw [e]; show (if W.testBit v then nI (g v &&& W) else nI 0) = (if W.testBit v then nI (r v &&& W) else nI 0); rw [h v hv]
  · rw [e]; show (if W.testBit v then nI (trN g W v) else -1) = (if W.testBit v then tfS r W v (trC r W) else -1)
    by_cases hb : W.testBit v = true
    · rw [if_pos hb, if_pos hb, htr hb]
    · rw [if_neg hb, if_neg hb]
  · rw [e]; show (if W.testBit v then nI (V g (lft g W v)) else -1) = (if W.testBit v then nI (V r (lft r W v)) else -1); rw [lft_c h hv, V_g h]
  · rw [e]; show (if W.testBit v then bI (wnP g W v) else -1) = (if W.testBit v then nI (if V r (lft r W v) = 0 then 1 else 0) else -1)
    by_cases hb : W.testBit v = true
    · rw [if_pos hb, if_pos hb, wn4 h hv hb]
    · rw [if_neg hb, if_neg hb]
  · rw [e]; show (if W.testBit v then bI (!Mi g (lft g W v)) else -1) = (if W.testBit v then nI (if T r (lft r W v) < 4096 then 1 else 0) else -1); rw [lft_c h hv, Mi_d h]
theorem share_c {g r : Nat → Nat} (h : eqG g r) {W n : Nat} (hn : n ≤ 14) : shD (cnt (wnP g W) n) (pc W) = shX r W n := by
  rw [shX, wd_cnt, cnt_c n (fun i hi => wnP_g h (by omega))]
