/-! the class's choice of the greatest branch -/
def InvM (cf : Nat → Nat) (Y b p q : Nat) : Prop := (∀ x, x < b → Y.testBit x = true → cf x ≤ q) ∧ p < 14 ∧ (q = 0 ∨ (Y.testBit p = true ∧ cf p = q)) ∧ q < 2 ^ 28
theorem InvM_0 (cf : Nat → Nat) (Y : Nat) : InvM cf Y 0 0 0 := ⟨fun x h => absurd h (Nat.not_lt_zero _), by decide, Or.inl rfl, by decide⟩
theorem InvM_no {cf : Nat → Nat} {Y b p q : Nat} (h : InvM cf Y b p q) (hb : Y.testBit b = false) : InvM cf Y (b + 1) p q := ⟨fun x hx hy => by
  by_cases e : x = b
  · subst e; rw [hb] at hy; cases hy
  · exact h.1 x (by omega) hy, h.2⟩
theorem InvM_le {cf : Nat → Nat} {Y b p q : Nat} (h : InvM cf Y b p q) (hb : cf b ≤ q) : InvM cf Y (b + 1) p q := ⟨fun x hx hy => by
  by_cases e : x = b
  · subst e; exact hb
  · exact h.1 x (by omega) hy, h.2⟩
theorem InvM_up {cf : Nat → Nat} {Y b p q : Nat} (h : InvM cf Y b p q) (h14 : b < 14) (hb : Y.testBit b = true) (hq : q < cf b) (hl : cf b < 2 ^ 28) : InvM cf Y (b + 1) b (cf b) := ⟨fun x hx hy => by
  by_cases e : x = b
  · subst e; exact Nat.le_refl _
  · exact Nat.le_trans (h.1 x (by omega) hy) (by omega), h14, Or.inr ⟨hb, rfl⟩, hl⟩
theorem InvM_end {cf : Nat → Nat} {Y p q : Nat} (h : InvM cf Y 14 p q) (hY : Y < 16384) (h0 : Y ≠ 0) (hp : ∀ b, Y.testBit b = true → 1 ≤ cf b) : isMx cf Y p ∧ q = cf p := by
  obtain ⟨h1, h2, h3, -⟩ := h
  obtain ⟨x, x1, x2⟩ := bit_ex hY h0
  have hx := h1 x x1 x2
  have hx2 := hp x x2
  rcases h3 with z | ⟨z1, z2⟩
  · omega
  · exact ⟨⟨z1, fun y hy => by rw [z2]; exact h1 y (bit_in hY hy) hy⟩, z2.symm⟩
def OInv (cf w : Nat → Nat) (B Y X s t : Nat) : Prop := Y < 16384 ∧ (∀ b, Y.testBit b = true → B.testBit b = true) ∧ selV cf B 1 = selV cf Y X ∧ 1 ≤ s ∧ s + sm w Y 14 ≤ 14 ∧ 2 ^ (2 * s - 2) ≤ X ∧ X < 2 ^ (2 * s - 1) ∧ t + pc Y ≤ 14
theorem OInv_0 {cf w : Nat → Nat} {B : Nat} (hB : B < 16384) (hs : 1 + sm w B 14 ≤ 14) : OInv cf w B B 1 1 0 := ⟨hB, fun _ h => h, rfl, Nat.le_refl _, hs, by decide, by decide, by have := pc_le B; omega⟩
theorem OInv_s {cf w : Nat → Nat} {B Y X s t p : Nat} (h : OInv cf w B Y X s t) (hm : isMx cf Y p) (hw : cdW (w p) (cf p)) : OInv cf w B (sd Y (2 ^ p)) (ctA X (cf p)) (s + w p) (t + 1) := by
  obtain ⟨h1, h2, h3, h4, h5, h6, h7, h8⟩ := h
  have e1 := sm_rm14 (w := w) h1 hm.1
  have e2 := pc_rm h1 hm.1
  obtain ⟨a1, a2⟩ := ctA_bd hw h4 h6 h7
  exact ⟨sd_14 _ h1, fun b hb => h2 b (sd_sub.mp hb).1, h3.trans (selV_s X h1 hm), by omega, by omega, a1, a2, by omega⟩
theorem OInv_X {cf w : Nat → Nat} {B Y X s t : Nat} (h : OInv cf w B Y X s t) : X < 2 ^ 27 := by
  obtain ⟨h1, h2, h3, h4, h5, h6, h7, h8⟩ := h
  exact Nat.lt_of_lt_of_le h7 (Nat.pow_le_pow_right (by omega) (by omega))
theorem OInv_Xs {cf w : Nat → Nat} {B Y X s t p : Nat} (h : OInv cf w B Y X s t) (hp : Y.testBit p = true) (hw : cdW (w p) (cf p)) : X * 2 ^ (Nat.log2 (cf p) + 1) < 2 ^ 27 := by
  obtain ⟨h1, h2, h3, h4, h5, h6, h7, h8⟩ := h
  have e1 := sm_rm14 (w := w) h1 hp
  rw [cdW_len hw]
  have h9 : X * 2 ^ (2 * w p) < 2 ^ (2 * s - 1) * 2 ^ (2 * w p) := Nat.mul_lt_mul_of_pos_right h7 (Nat.pow_pos (by omega))
  rw [← Nat.pow_add] at h9
  exact Nat.lt_of_lt_of_le h9 (Nat.pow_le_pow_right (by omega) (by omega))
theorem OInv_14 {cf w : Nat → Nat} {B Y X s t : Nat} (h : OInv cf w B Y X s t) (ht : 14 ≤ t) : Y = 0 := by
  obtain ⟨h1, h2, h3, h4, h5, h6, h7, h8⟩ := h
  by_cases e : Y = 0
  · exact e
  · have := pc_pos h1 e; omega
theorem OInv_v {cf w : Nat → Nat} {B Y X s t : Nat} (h : OInv cf w B Y X s t) (h0 : Y = 0) : X = selV cf B 1 := by
  rw [h.2.2.1, h0, selV_0]
theorem log_le {c : Nat} (h : 1 ≤ c) : 2 ^ Nat.log2 c ≤ c := Nat.log2_self_le (by omega)
theorem log_lt (c : Nat) : c < 2 ^ (Nat.log2 c + 1) := Nat.lt_log2_self
theorem ctA_or (v c : Nat) : (v * 2 ^ (Nat.log2 c + 1)) ||| c = ctA v c := by
  rw [ctA, Nat.mul_comm, ← Nat.two_pow_add_eq_or_of_lt (log_lt c)]
theorem cdW_1 {w c : Nat} (h : cdW w c) : 1 ≤ c := by
  have : 0 < 2 ^ (2 * w - 1) := Nat.pow_pos (by omega)
  have := h.2.1
  omega
theorem cdW_l {w c : Nat} (h : cdW w c) (hw : w ≤ 14) : Nat.log2 c < 28 ∧ c < 2 ^ 28 := by
  have := cdW_len h
  have h1 := h.1
  exact ⟨by omega, Nat.lt_of_lt_of_le h.2.2 (Nat.pow_le_pow_right (by omega) (by omega))⟩
theorem sm_ge {w : Nat → Nat} {B b : Nat} (hB : B < 16384) (hb : B.testBit b = true) : w b ≤ sm w B 14 := by
  have := sm_rm14 (w := w) hB hb
  omega
theorem cd_in0 {g c8 : Nat → Nat} {W r k : Nat} (hin : ∀ b, b < k → (g r &&& sd W (2 ^ r)).testBit b = true → c8 b = CD g (sd W (2 ^ r)) b) (hk : (g r &&& sd W (2 ^ r)).testBit k = false) : ∀ b, b < k + 1 → (g r &&& sd W (2 ^ r)).testBit b = true → c8 b = CD g (sd W (2 ^ r)) b := fun b h1 h2 => by
  by_cases e : b = k
  · subst e; rw [hk] at h2; cases h2
  · exact hin b (by omega) h2
theorem cd_in {g c8 c7 : Nat → Nat} {W r k : Nat} (hf : FG g) (hW : W < 16384) (hr : r < 14) (hin : ∀ b, b < k → (g r &&& sd W (2 ^ r)).testBit b = true → c8 b = CD g (sd W (2 ^ r)) b) (hk : (g r &&& sd W (2 ^ r)).testBit k = true) (ho : ∀ x, ((comp g (sd W (2 ^ r)) k).testBit x = false ∨ x = k) → c7 x = c8 x) : ∀ b, b < k + 1 → (g r &&& sd W (2 ^ r)).testBit b = true → upN c7 k (CD g (sd W (2 ^ r)) k) b = CD g (sd W (2 ^ r)) b := fun b h1 h2 => by
  by_cases e : b = k
  · subst e; rw [upN_s]
  · rw [upN_n _ _ e, ho b (Or.inl ?_), hin b (by omega) h2]
    cases z : (comp g (sd W (2 ^ r)) k).testBit b
    · rfl
    · exact absurd ((comp_bit _ _ _ _).mp z).2 (nb_no hf hW hr (chd_bit.mp hk).1 (chd_bit.mp h2).1 (fun q => e q.symm))
theorem cd_ou {g c8 c7 cf : Nat → Nat} {W r k v : Nat} (hW : W < 16384) (hr : W.testBit r = true) (hou : ∀ x, ((comp g W r).testBit x = false ∨ x = r) → c8 x = cf x) (hk : (g r &&& sd W (2 ^ r)).testBit k = true) (ho : ∀ x, ((comp g (sd W (2 ^ r)) k).testBit x = false ∨ x = k) → c7 x = c8 x) : ∀ x, ((comp g W r).testBit x = false ∨ x = r) → upN c7 k v x = cf x := fun x hx => by
  have hk2 := chd_bit.mp hk
  have hD : ∀ y, (comp g (sd W (2 ^ r)) k).testBit y = true → (comp g W r).testBit y = true ∧ y ≠ r := fun y hy => by
    obtain ⟨y1, y2⟩ := (comp_bit _ _ _ _).mp hy
    refine ⟨(comp_bit _ _ _ _).mpr ⟨y1, rch_trans (rch_step (rch_self g W r) hk2.1 hk2.2.1) (rch_mono (fun k m z w => ⟨z, (sd_sub.mp w).1⟩) y2)⟩, ?_⟩
    exact (sd_sub.mp (rch_in (sd_sub.mpr hk2.2) y2)).2
  have hn : (comp g (sd W (2 ^ r)) k).testBit x = false := by
    cases z : (comp g (sd W (2 ^ r)) k).testBit x
    · rfl
    · obtain ⟨z1, z2⟩ := hD x z
      rcases hx with q | q
      · rw [z1] at q; cases q
      · exact absurd q z2
  have hne : x ≠ k := fun q => by
    subst q
    rw [comp_self _ _ (bit_in hW hk2.2.1)] at hn
    cases hn
  rw [upN_n _ _ hne, ho x (Or.inl hn), hou x hx]
