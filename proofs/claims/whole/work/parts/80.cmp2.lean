theorem Mi_c {g r : Nat → Nat} (h : eqG g r) (W : Nat) : bI (Mi g W) = nI (if T r W < 4096 then 0 else 1) := by
  rw [Mi, T_g h]
  by_cases e : T r W < 4096
  · rw [if_pos e, decide_eq_false (by omega)]; rfl
  · rw [if_neg e, decide_eq_true (by omega)]; rfl
theorem Mi_d {g r : Nat → Nat} (h : eqG g r) (W : Nat) : bI (!Mi g W) = nI (if T r W < 4096 then 1 else 0) := by
  rw [Mi, T_g h]
  by_cases e : T r W < 4096
  · rw [if_pos e, decide_eq_false (by omega)]; rfl
  · rw [if_neg e, decide_eq_true (by omega)]; rfl
/-! mirrors -/
theorem comp_n2 {g : Nat → Nat} {S n i : Nat} (h1 : S < 2 ^ n) (hi : S.testBit i = true) : comp g S i < 2 ^ n := sub_lt2 h1 (fun _ hx => comp_in hi hx)
theorem edB_g {g r : Nat → Nat} (h : eqG g r) {W i j : Nat} (hi : i < 14) : edB g W i j = edB r W i j := by rw [edB, edB, h i hi]
theorem mrB_c {g r : Nat → Nat} (h : eqG g r) {W n i j : Nat} (h1 : W < 2 ^ n) (hn : n ≤ 14) (hi : i < 14) (hj : j < 14) (hbi : W.testBit i = true) (hbj : W.testBit j = true) : mrB g W 14 i j = mrB r W n i j := by
  by_cases e : i = j
  · subst e
    simp only [mrB, eq_self, decide_true]
  · have hW := w14 h1 hn
    have a1 : (sd W (2 ^ j)).testBit i = true := sd_sub.mpr ⟨hbi, e⟩
    have a2 : (sd W (2 ^ i)).testBit j = true := sd_sub.mpr ⟨hbj, fun q => e q.symm⟩
    have b1 : sd W (2 ^ j) < 2 ^ n := sub_lt2 h1 (fun x hx => (sd_sub.mp hx).1)
    have b2 : sd W (2 ^ i) < 2 ^ n := sub_lt2 h1 (fun x hx => (sd_sub.mp hx).1)
    rw [mrB, mrB, comp_g h (sd_14 _ hW) hi, comp_g h (sd_14 _ hW) hj, mxC_c h (comp_n2 b1 a1) hn, mxC_c h (comp_n2 b2 a2) hn]
theorem miB_c {g r : Nat → Nat} (h : eqG g r) {W n i j : Nat} (h1 : W < 2 ^ n) (hn : n ≤ 14) (hi : i < 14) (hj : j < 14) : miB g W 14 i j = miB r W n i j := by
  rw [miB, miB, edB_g h hi]
  cases he : edB r W i j
  · rw [Bool.false_and, Bool.false_and]
  · have he2 := he
    rw [edB, Bool.and_eq_true, Bool.and_eq_true] at he2
    rw [mrB_c h h1 hn hi hj he2.1.1 he2.1.2]
