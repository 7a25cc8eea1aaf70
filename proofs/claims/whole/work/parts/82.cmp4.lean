theorem cnT_c {g ss : Nat → Nat} {hs sn w : Nat} (h : eqG g (gS ss)) (h1 : ss 1 < 2 ^ ss 0) (hn : ss 0 ≤ 14) (h2 : ss 2 = ss 3 % 2) (hh : hs = sn) (hw : w < 12) : cnT g (ss 1) (ss 0) (ss 3) hs w = cnR ss sn w := by
  have hW := w14 h1 hn
  rcases (show w = 0 ∨ w = 1 ∨ w = 2 ∨ w = 3 ∨ w = 4 ∨ w = 5 ∨ w = 6 ∨ w = 7 ∨ w = 8 ∨ w = 9 ∨ w = 10 ∨ w = 11 by omega) with e | e | e | e | e | e | e | e | e | e | e | e
  · rw [e]; show nI (ss 0) = nI (ss 0); rfl
  · rw [e]; show nI (pc (ss 1)) = nI (pc (ss 1)); rfl
  · rw [e]; show nI (eIn g (ss 1) 14 / 2) = nI (eIn (gS ss) (ss 1) (ss 0) / 2); rw [eIn_c h h1 hn]
  · rw [e]; show nI (trC g (ss 1)) = nI (trC (gS ss) (ss 1)); rw [trC_g h hW]
  · rw [e]; show nI (clN g (trA g (ss 1)) 14 (trC g (ss 1))) = nI (clN (gS ss) (trA (gS ss) (ss 1)) (ss 0) (trC (gS ss) (ss 1))); rw [clN_c h h1 hn, trC_g h hW]
  · rw [e]; show nI (V g (ss 1)) = nI (V (gS ss) (ss 1)); rw [V_g h]
  · rw [e]; show nI (mxS g (ss 1) (trC g (ss 1))) = nI (mxS (gS ss) (ss 1) (trC (gS ss) (ss 1))); rw [mxS_c h hW, trC_g h hW]
  · rw [e]; show bI (Mi g (ss 1)) = nI (if T (gS ss) (ss 1) < 4096 then 0 else 1); rw [Mi_c h]
  · rw [e]; show nI (ss 3 &&& 1) = nI (ss 2); rw [h2, Nat.and_one_is_mod]
  · rw [e]; show nI (ss 3) = nI (ss 3); rfl
  · rw [e]; show nI (cnt (wnP g (ss 1)) (ss 0)) = nI (wd (wnP (gS ss) (ss 1)) (ss 0) (ss 0)); rw [wd_cnt, cnt_c _ (fun i hi => wnP_g h (by omega))]
  · rw [e, hh]; show nI sn = nI sn; rfl
theorem tvT_c {g r : Nat → Nat} (h : eqG g r) {W n w : Nat} (h1 : W < 2 ^ n) (hn : n ≤ 14) (t : Nat) (hw : w < 6) : tvT g W t w = tvR r W n (trA r W) t w := by
  have hW := w14 h1 hn
  rw [tvR]
  rcases (show w = 0 ∨ w = 1 ∨ w = 2 ∨ w = 3 ∨ w = 4 ∨ w = 5 by omega) with e | e | e | e | e | e
  · rw [e]; show nI (trA g W t) = nI (trA r W t); rw [trA_g h hW]
  · rw [e]; show nI (pc (trA g W t)) = nI (pc (trA r W t)); rw [trA_g h hW]
  · rw [e]; show nI (V g (trA g W t)) = nI (V r (trA r W t)); rw [trA_g h hW, V_g h]
  · rw [e]; show nI (alk g (trA g W) 14 t) = nI (alk r (trA r W) n t); rw [alk_c h h1 hn]
  · rw [e]; show nI (outM (miQ g W 14 (trA g W t)) 14 (-1) 14).1 = mrR (miQ r W n (trA r W t)) n (-1); rw [trA_g h hW, tv4 h h1 hn]
  · rw [e]; show nI (lwA g (trA g W t) 14) = nI (lwA r (trA r W t) n); rw [trA_g h hW, lwA_c h (trA_n (g := r) h1 hW t) hn]
