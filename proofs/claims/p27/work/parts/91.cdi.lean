/-! a code is read in one way: equal codes, alike trees -/
def ss9 (c : Nat) : Nat → Int
  | 0 => 0
  | k + 1 => ss9 c k + (if c.testBit k then 1 else -1)
theorem ss9_low {c c2 : Nat} : ∀ n, (∀ i, i < n → c.testBit i = c2.testBit i) → ss9 c n = ss9 c2 n
  | 0, _ => rfl
  | n + 1, h => by rw [ss9, ss9, ss9_low n (fun i hi => h i (by omega)), h n (by omega)]
theorem cat_bit {v c m : Nat} (hc : c < 2 ^ m) (j : Nat) : (v * 2 ^ m + c).testBit j = if j < m then c.testBit j else v.testBit (j - m) := by
  rw [Nat.mul_comm]
  exact Nat.testBit_two_pow_mul_add v hc j
theorem ss9_lo {v c m j : Nat} (hc : c < 2 ^ m) (hj : j ≤ m) : ss9 (v * 2 ^ m + c) j = ss9 c j :=
  ss9_low j (fun i hi => by rw [cat_bit hc, if_pos (by omega)])
theorem ss9_cat {v c m : Nat} (hc : c < 2 ^ m) : ∀ j, ss9 (v * 2 ^ m + c) (m + j) = ss9 c m + ss9 v j
  | 0 => by rw [Nat.add_zero, ss9_lo hc (Nat.le_refl _), ss9]; omega
  | j + 1 => by
    rw [← Nat.add_assoc, ss9, ss9_cat hc j, cat_bit hc, if_neg (show ¬ m + j < m by omega), ss9, show m + j - m = j by omega]
    omega
/-- a word: as many 1 as 0, fewer behind each place -/
def wOK (w c : Nat) : Prop := cdW w c ∧ ss9 c (2 * w) = 0 ∧ ∀ j, 0 < j → j < 2 * w → ss9 c j < 0
theorem pre_half {v c c2 x x2 w w2 a a2 : Nat} (hc : wOK w c) (hc2 : wOK w2 c2) (hx : x < 2 ^ a) (hx2 : x2 < 2 ^ a2) (hlen : 2 * w + a = 2 * w2 + a2) (he : (v * 2 ^ (2 * w) + c) * 2 ^ a + x = (v * 2 ^ (2 * w2) + c2) * 2 ^ a2 + x2) : ¬ w < w2 := by
  intro hlt
  obtain ⟨d, hd⟩ : ∃ d, a = a2 + d := ⟨a - a2, by omega⟩
  have hd2 : d + 2 * w = 2 * w2 := by omega
  subst hd
  have e1 : (v * 2 ^ (2 * w) + c) * 2 ^ d + x / 2 ^ a2 = v * 2 ^ (2 * w2) + c2 := by
    have p : 0 < 2 ^ a2 := Nat.two_pow_pos a2
    have q : ((v * 2 ^ (2 * w) + c) * 2 ^ (a2 + d) + x) / 2 ^ a2 = ((v * 2 ^ (2 * w2) + c2) * 2 ^ a2 + x2) / 2 ^ a2 := congrArg (fun z => z / 2 ^ a2) he
    rw [show (v * 2 ^ (2 * w) + c) * 2 ^ (a2 + d) + x = x + 2 ^ a2 * ((v * 2 ^ (2 * w) + c) * 2 ^ d) by
      rw [Nat.pow_add, Nat.add_comm]; congr 1; rw [Nat.mul_comm (2 ^ a2) (2 ^ d), ← Nat.mul_assoc, Nat.mul_comm]] at q
    rw [Nat.add_mul_div_left _ _ p, show (v * 2 ^ (2 * w2) + c2) * 2 ^ a2 + x2 = x2 + 2 ^ a2 * (v * 2 ^ (2 * w2) + c2) by rw [Nat.add_comm, Nat.mul_comm], Nat.add_mul_div_left _ _ p, Nat.div_eq_of_lt hx2] at q
    omega
  have hy : x / 2 ^ a2 < 2 ^ d := by
    rw [Nat.div_lt_iff_lt_mul (Nat.two_pow_pos a2), ← Nat.pow_add, Nat.add_comm d a2]; exact hx
  have e2 : c * 2 ^ d + x / 2 ^ a2 = c2 := by
    have : v * 2 ^ (2 * w) * 2 ^ d = v * 2 ^ (2 * w2) := by rw [Nat.mul_assoc, ← Nat.pow_add]; congr 2; omega
    rw [Nat.add_mul, this] at e1
    omega
  have e3 := ss9_cat (v := c) hy (2 * w)
  rw [e2, hd2, hc2.2.1, hc.2.1] at e3
  have e4 := ss9_lo (v := c) hy (Nat.le_refl d)
  rw [e2] at e4
  have w1 := hc.1.1
  have := hc2.2.2 d (by omega) (by omega)
  omega
theorem pre_free {v c c2 x x2 w w2 a a2 : Nat} (hc : wOK w c) (hc2 : wOK w2 c2) (hx : x < 2 ^ a) (hx2 : x2 < 2 ^ a2) (hlen : 2 * w + a = 2 * w2 + a2) (he : (v * 2 ^ (2 * w) + c) * 2 ^ a + x = (v * 2 ^ (2 * w2) + c2) * 2 ^ a2 + x2) : c = c2 := by
  have h1 := pre_half hc hc2 hx hx2 hlen he
  have h2 := pre_half hc2 hc hx2 hx hlen.symm he.symm
  have hw : w = w2 := by omega
  subst hw
  have ha : a = a2 := by omega
  subst ha
  have q : ((v * 2 ^ (2 * w) + c) * 2 ^ a + x) / 2 ^ a = ((v * 2 ^ (2 * w) + c2) * 2 ^ a + x2) / 2 ^ a := congrArg (fun z => z / 2 ^ a) he
  have p : 0 < 2 ^ a := Nat.two_pow_pos a
  rw [Nat.add_comm, Nat.mul_comm _ (2 ^ a), Nat.add_mul_div_left _ _ p, Nat.div_eq_of_lt hx, Nat.add_comm ((v * 2 ^ (2 * w) + c2) * 2 ^ a), Nat.mul_comm _ (2 ^ a), Nat.add_mul_div_left _ _ p, Nat.div_eq_of_lt hx2] at q
  omega
theorem sd_0 (b : Nat) : sd 0 b = 0 := by
  apply Nat.eq_of_testBit_eq; intro i; rw [sd_bit, Nat.zero_testBit]; rfl
theorem selV_form {c w : Nat → Nat} : ∀ (n B v : Nat), B < 16384 → pc B ≤ n → (∀ b, B.testBit b = true → cdW (w b) (c b)) → ∃ x, x < 2 ^ (2 * sm w B 14) ∧ selV c B v = v * 2 ^ (2 * sm w B 14) + x
  | n, B, v, hB, hp, h => by
    by_cases e : B = 0
    · subst e
      rw [selV_0, sm_z]
      exact ⟨0, by decide, by omega⟩
    · obtain ⟨b, hb⟩ := ex_mx c hB e
      have p := pc_rm hB hb.1
      cases n with
      | zero => omega
      | succ n =>
        obtain ⟨x, hx, ex⟩ := selV_form (c := c) (w := w) n (sd B (2 ^ b)) (ctA v (c b)) (sd_14 _ hB) (by omega) (fun y hy => h y (sd_sub.mp hy).1)
        have hw := h b hb.1
        have s := sm_rm14 (w := w) hB hb.1
        refine ⟨c b * 2 ^ (2 * sm w (sd B (2 ^ b)) 14) + x, ?_, ?_⟩
        · have : (c b + 1) * 2 ^ (2 * sm w (sd B (2 ^ b)) 14) ≤ 2 ^ (2 * w b) * 2 ^ (2 * sm w (sd B (2 ^ b)) 14) := Nat.mul_le_mul_right _ hw.2.2
          rw [← Nat.pow_add, show 2 * w b + 2 * sm w (sd B (2 ^ b)) 14 = 2 * sm w B 14 by omega, Nat.add_mul] at this
          omega
        · rw [selV_s v hB hb, ex, ctA_w v hw, Nat.add_mul, Nat.mul_assoc, ← Nat.pow_add, show 2 * w b + 2 * sm w (sd B (2 ^ b)) 14 = 2 * sm w B 14 by omega]
          omega
theorem len_eq {v x x2 a b : Nat} (hv : 1 ≤ v) (hx : x < 2 ^ a) (hx2 : x2 < 2 ^ b) (he : v * 2 ^ a + x = v * 2 ^ b + x2) : ¬ a < b := by
  intro h
  have : 2 ^ (a + 1) ≤ 2 ^ b := Nat.pow_le_pow_right (by omega) h
  rw [Nat.pow_succ] at this
  have h2 : v * (2 ^ a * 2) ≤ v * 2 ^ b := Nat.mul_le_mul_left v this
  have h3 : 1 * 2 ^ a ≤ v * 2 ^ a := Nat.mul_le_mul_right _ hv
  rw [← Nat.mul_assoc] at h2
  omega
theorem sel_bij {c c2 w w2 : Nat → Nat} : ∀ (n B B2 v : Nat), B < 16384 → B2 < 16384 → pc B ≤ n → (∀ b, B.testBit b = true → wOK (w b) (c b)) → (∀ b, B2.testBit b = true → wOK (w2 b) (c2 b)) → 1 ≤ v → selV c B v = selV c2 B2 v → ∃ β : Nat → Nat, (∀ b, B.testBit b = true → B2.testBit (β b) = true ∧ c2 (β b) = c b) ∧ (∀ a b, B.testBit a = true → B.testBit b = true → β a = β b → a = b) ∧ (∀ d, B2.testBit d = true → ∃ b, B.testBit b = true ∧ β b = d)
  | n, B, B2, v, hB, hB2, hp, h, h2, hv, he => by
    obtain ⟨x, hx, ex⟩ := selV_form (c := c) (w := w) 14 B v hB (pc_le _) (fun b hb => (h b hb).1)
    obtain ⟨x2, hx2, ex2⟩ := selV_form (c := c2) (w := w2) 14 B2 v hB2 (pc_le _) (fun b hb => (h2 b hb).1)
    have he2 : v * 2 ^ (2 * sm w B 14) + x = v * 2 ^ (2 * sm w2 B2 14) + x2 := by rw [← ex, ← ex2, he]
    have l1 := len_eq hv hx hx2 he2
    have l2 := len_eq hv hx2 hx he2.symm
    have hs : sm w B 14 = sm w2 B2 14 := by omega
    by_cases e : B = 0
    · subst e
      have e2 : B2 = 0 := by
        by_cases e2 : B2 = 0
        · exact e2
        · obtain ⟨d, -, hd⟩ := bit_ex hB2 e2
          have := sm_rm14 (w := w2) hB2 hd
          have := (h2 d hd).1.1
          rw [sm_z] at hs
          omega
      subst e2
      exact ⟨fun b => b, fun b hb => (by rw [Nat.zero_testBit] at hb; cases hb), fun a b hb => (by rw [Nat.zero_testBit] at hb; cases hb), fun d hd => (by rw [Nat.zero_testBit] at hd; cases hd)⟩
    · have e2 : B2 ≠ 0 := by
        intro q
        subst q
        obtain ⟨d, -, hd⟩ := bit_ex hB e
        have := sm_rm14 (w := w) hB hd
        have := (h d hd).1.1
        rw [sm_z] at hs
        omega
      obtain ⟨b, hb⟩ := ex_mx c hB e
      obtain ⟨d, hd⟩ := ex_mx c2 hB2 e2
      have p := pc_rm hB hb.1
      have s1 := sm_rm14 (w := w) hB hb.1
      have s2 := sm_rm14 (w := w2) hB2 hd.1
      obtain ⟨y, hy, ey⟩ := selV_form (c := c) (w := w) 14 (sd B (2 ^ b)) (ctA v (c b)) (sd_14 _ hB) (pc_le _) (fun b hb => (h b (sd_sub.mp hb).1).1)
      obtain ⟨y2, hy2, ey2⟩ := selV_form (c := c2) (w := w2) 14 (sd B2 (2 ^ d)) (ctA v (c2 d)) (sd_14 _ hB2) (pc_le _) (fun b hb => (h2 b (sd_sub.mp hb).1).1)
      have hw := h b hb.1
      have hw2 := h2 d hd.1
      rw [selV_s v hB hb, selV_s v hB2 hd] at he
      have he3 := he
      rw [ey, ey2, ctA_w v hw.1, ctA_w v hw2.1] at he3
      have hcd : c b = c2 d := pre_free hw hw2 hy hy2 (by omega) he3
      have hct : ctA v (c b) = ctA v (c2 d) := by rw [hcd]
      rw [← hct] at he
      cases n with
      | zero => omega
      | succ n =>
        have hv2 : 1 ≤ ctA v (c b) := by rw [ctA]; have := Nat.mul_le_mul hv (Nat.two_pow_pos (Nat.log2 (c b) + 1)); omega
        obtain ⟨β, k1, k2, k3⟩ := sel_bij n (sd B (2 ^ b)) (sd B2 (2 ^ d)) (ctA v (c b)) (sd_14 _ hB) (sd_14 _ hB2) (by omega) (fun y hy => h y (sd_sub.mp hy).1) (fun y hy => h2 y (sd_sub.mp hy).1) hv2 he
        refine ⟨fun z => if z = b then d else β z, fun z hz => ?_, fun a1 a2 h1 h3 h4 => ?_, fun z hz => ?_⟩
        · by_cases q : z = b
          · subst q; simp only [if_true]; exact ⟨hd.1, hcd.symm⟩
          · simp only [if_neg q]
            have := k1 z (sd_sub.mpr ⟨hz, q⟩)
            exact ⟨(sd_sub.mp this.1).1, this.2⟩
        · by_cases q1 : a1 = b
          · by_cases q2 : a2 = b
            · rw [q1, q2]
            · simp only [if_pos q1, if_neg q2] at h4
              exact absurd h4.symm (sd_sub.mp (k1 a2 (sd_sub.mpr ⟨h3, q2⟩)).1).2
          · by_cases q2 : a2 = b
            · simp only [if_neg q1, if_pos q2] at h4
              exact absurd h4 (sd_sub.mp (k1 a1 (sd_sub.mpr ⟨h1, q1⟩)).1).2
            · simp only [if_neg q1, if_neg q2] at h4
              exact k2 a1 a2 (sd_sub.mpr ⟨h1, q1⟩) (sd_sub.mpr ⟨h3, q2⟩) h4
        · by_cases q : z = d
          · exact ⟨b, hb.1, by simp only [if_true]; exact q.symm⟩
          · obtain ⟨y, hy, ey⟩ := k3 z (sd_sub.mpr ⟨hz, q⟩)
            have := sd_sub.mp hy
            exact ⟨y, this.1, by simp only [if_neg this.2]; exact ey⟩
theorem selV_ok {c w : Nat → Nat} : ∀ (n B v s : Nat), B < 16384 → pc B ≤ n → (∀ b, B.testBit b = true → wOK (w b) (c b)) → 1 ≤ s → ss9 v (2 * s - 2) = 0 → (∀ j, j ≤ 2 * s - 2 → ss9 v j ≤ 0) → ss9 (selV c B v) (2 * (s + sm w B 14) - 2) = 0 ∧ ∀ j, j ≤ 2 * (s + sm w B 14) - 2 → ss9 (selV c B v) j ≤ 0
  | n, B, v, s, hB, hp, h, hs, h1, h2 => by
    by_cases e : B = 0
    · subst e
      rw [selV_0, sm_z]
      exact ⟨h1, h2⟩
    · obtain ⟨b, hb⟩ := ex_mx c hB e
      have p := pc_rm hB hb.1
      have s1 := sm_rm14 (w := w) hB hb.1
      have hw := h b hb.1
      have w1 := hw.1.1
      cases n with
      | zero => omega
      | succ n =>
        have q := selV_ok (c := c) (w := w) n (sd B (2 ^ b)) (ctA v (c b)) (s + w b) (sd_14 _ hB) (by omega) (fun y hy => h y (sd_sub.mp hy).1) (by omega) (by
          rw [ctA_w v hw.1, show 2 * (s + w b) - 2 = 2 * w b + (2 * s - 2) by omega, ss9_cat hw.1.2.2, hw.2.1, h1]; omega) (fun j hj => by
          rw [ctA_w v hw.1]
          by_cases z : j ≤ 2 * w b
          · rw [ss9_lo hw.1.2.2 z]
            by_cases z0 : j = 0
            · subst z0; rw [ss9]; omega
            · by_cases z1 : j = 2 * w b
              · rw [z1, hw.2.1]; omega
              · have := hw.2.2 j (by omega) (by omega); omega
          · obtain ⟨i, rfl⟩ : ∃ i, j = 2 * w b + i := ⟨j - 2 * w b, by omega⟩
            rw [ss9_cat hw.1.2.2, hw.2.1]
            have := h2 i (by omega)
            omega)
        rw [selV_s v hB hb]
        rw [show s + w b + sm w (sd B (2 ^ b)) 14 = s + sm w B 14 by omega] at q
        exact q
theorem CD_ok {g : Nat → Nat} (h : FG g) : ∀ (n W r : Nat), W < 16384 → W.testBit r = true → pc W ≤ n → wOK (wtD g W r) (CD g W r)
  | 0, W, r, hW, hr, hp => by have := pc_rm hW hr; omega
  | n + 1, W, r, hW, hr, hp => by
    refine ⟨CD_w h hW hr, ?_⟩
    have p := pc_rm hW hr
    have hk : ∀ b, (g r &&& sd W (2 ^ r)).testBit b = true → wOK (wtD g (sd W (2 ^ r)) b) (CD g (sd W (2 ^ r)) b) := fun b hb => CD_ok h n _ b (sd_14 _ hW) (sd_sub.mpr (chd_bit.mp hb).2) (by omega)
    have hb := selV_bd (c := fun b => CD g (sd W (2 ^ r)) b) (w := fun b => wtD g (sd W (2 ^ r)) b) 14 (g r &&& sd W (2 ^ r)) 1 1 (chd_lt hW) (pc_le _) (fun b hb => (hk b hb).1) (Nat.le_refl _) (by decide) (by decide)
    have ho := selV_ok (c := fun b => CD g (sd W (2 ^ r)) b) (w := fun b => wtD g (sd W (2 ^ r)) b) 14 (g r &&& sd W (2 ^ r)) 1 1 (chd_lt hW) (pc_le _) hk (Nat.le_refl _) rfl (fun j hj => by rw [show j = 0 by omega, ss9]; omega)
    rw [CD_eq g hW hr, wt_eq h hW hr]
    generalize sm (fun b => wtD g (sd W (2 ^ r)) b) (g r &&& sd W (2 ^ r)) 14 = s at hb ho
    generalize selV (fun b => CD g (sd W (2 ^ r)) b) (g r &&& sd W (2 ^ r)) 1 = X at hb ho
    obtain ⟨b1, b2⟩ := hb
    obtain ⟨o1, o2⟩ := ho
    have e : ∀ j, ss9 (2 * X) (1 + j) = -1 + ss9 X j := fun j => by
      have := ss9_cat (v := X) (c := 0) (m := 1) (by decide) j
      rw [show X * 2 ^ 1 + 0 = 2 * X by omega] at this
      rw [this]
      rfl
    have et : X.testBit (2 * (1 + s) - 2) = true := by
      have : X = 1 * 2 ^ (2 * (1 + s) - 2) + (X - 2 ^ (2 * (1 + s) - 2)) := by omega
      rw [this, cat_bit (by
        have : 2 ^ (2 * (1 + s) - 1) = 2 ^ (2 * (1 + s) - 2) * 2 := by rw [← Nat.pow_succ]; congr 1; omega
        omega), if_neg (by omega), Nat.sub_self]
      rfl
    refine ⟨?_, fun j h0 hj => ?_⟩
    · rw [show 2 * (1 + s) = 1 + ((2 * (1 + s) - 2) + 1) by omega, e, ss9, o1, if_pos et]
      rfl
    · obtain ⟨i, rfl⟩ : ∃ i, j = 1 + i := ⟨j - 1, by omega⟩
      rw [e]
      have := o2 i (by omega)
      omega
theorem iso_step {g : Nat → Nat} (h : FG g) {W W2 r r2 : Nat} (hW : W < 16384) (hW2 : W2 < 16384) (hr : W.testBit r = true) (hr2 : W2.testBit r2 = true) (β : Nat → Nat) (F : Nat → Nat → Nat)
    (b1 : ∀ b, (g r &&& sd W (2 ^ r)).testBit b = true → (g r2 &&& sd W2 (2 ^ r2)).testBit (β b) = true) (b2 : ∀ a b, (g r &&& sd W (2 ^ r)).testBit a = true → (g r &&& sd W (2 ^ r)).testBit b = true → β a = β b → a = b) (b3 : ∀ d, (g r2 &&& sd W2 (2 ^ r2)).testBit d = true → ∃ b, (g r &&& sd W (2 ^ r)).testBit b = true ∧ β b = d)
    (hF : ∀ b, (g r &&& sd W (2 ^ r)).testBit b = true → isoG g (comp g (sd W (2 ^ r)) b) (comp g (sd W2 (2 ^ r2)) (β b)) (F b) ∧ F b b = β b) : ∃ f, isoG g (comp g W r) (comp g W2 r2) f ∧ f r = r2 := by
  have hr14 := bit_in hW hr
  have hr214 := bit_in hW2 hr2
  have hS := sd_14 (2 ^ r) hW
  have hS2 := sd_14 (2 ^ r2) hW2
  have hsp : ∀ x, (comp g W r).testBit x = true ↔ x = r ∨ ∃ b, (g r &&& sd W (2 ^ r)).testBit b = true ∧ (comp g (sd W (2 ^ r)) b).testBit x = true := fun x => by
    rw [comp_split hW hr, Nat.testBit_or, Bool.or_eq_true, pow_bit, decide_eq_true_eq, un_bit]
    exact ⟨fun z => z.elim (fun q => Or.inl q.symm) (fun ⟨b, _, q⟩ => Or.inr ⟨b, q⟩), fun z => z.elim (fun q => Or.inl q.symm) (fun ⟨b, q1, q2⟩ => Or.inr ⟨b, bit_in (chd_lt hW) q1, q1, q2⟩)⟩
  have hsp2 : ∀ x, (comp g W2 r2).testBit x = true ↔ x = r2 ∨ ∃ b, (g r2 &&& sd W2 (2 ^ r2)).testBit b = true ∧ (comp g (sd W2 (2 ^ r2)) b).testBit x = true := fun x => by
    rw [comp_split hW2 hr2, Nat.testBit_or, Bool.or_eq_true, pow_bit, decide_eq_true_eq, un_bit]
    exact ⟨fun z => z.elim (fun q => Or.inl q.symm) (fun ⟨b, _, q⟩ => Or.inr ⟨b, q⟩), fun z => z.elim (fun q => Or.inl q.symm) (fun ⟨b, q1, q2⟩ => Or.inr ⟨b, bit_in (chd_lt hW2) q1, q1, q2⟩)⟩
  have hno : ∀ b x, (g r &&& sd W (2 ^ r)).testBit b = true → (comp g (sd W (2 ^ r)) b).testBit x = true → x ≠ r ∧ x < 14 := fun b x hb hx =>
    ⟨(sd_sub.mp (comp_sub (sd_sub.mpr (chd_bit.mp hb).2) hx)).2, bit_in (comp_lt _ _ _) hx⟩
  have hno2 : ∀ b x, (g r2 &&& sd W2 (2 ^ r2)).testBit b = true → (comp g (sd W2 (2 ^ r2)) b).testBit x = true → x ≠ r2 ∧ x < 14 := fun b x hb hx =>
    ⟨(sd_sub.mp (comp_sub (sd_sub.mpr (chd_bit.mp hb).2) hx)).2, bit_in (comp_lt _ _ _) hx⟩
  have hch : ∀ x, ∃ b, (x ≠ r → (comp g W r).testBit x = true → (g r &&& sd W (2 ^ r)).testBit b = true ∧ (comp g (sd W (2 ^ r)) b).testBit x = true) := fun x => by
    by_cases q : x ≠ r ∧ (comp g W r).testBit x = true
    · rcases (hsp x).mp q.2 with z | ⟨b, z⟩
      · exact absurd z q.1
      · exact ⟨b, fun _ _ => z⟩
    · exact ⟨0, fun z1 z2 => absurd ⟨z1, z2⟩ q⟩
  obtain ⟨br, hbr⟩ := Classical.axiomOfChoice hch
  have hbu : ∀ b x, (g r &&& sd W (2 ^ r)).testBit b = true → (comp g (sd W (2 ^ r)) b).testBit x = true → br x = b := fun b x hb hx => by
    have z := hbr x (hno b x hb hx).1 ((hsp x).mpr (Or.inr ⟨b, hb, hx⟩))
    exact part_dis h hW hr14 z.1 hb z.2 hx
  have hself : ∀ b, (g r &&& sd W (2 ^ r)).testBit b = true → (comp g (sd W (2 ^ r)) b).testBit b = true := fun b hb => comp_self g _ (bit_in (chd_lt hW) hb)
  have hself2 : ∀ b, (g r2 &&& sd W2 (2 ^ r2)).testBit b = true → (comp g (sd W2 (2 ^ r2)) b).testBit b = true := fun b hb => comp_self g _ (bit_in (chd_lt hW2) hb)
  have hadj : ∀ y, y ≠ r → (comp g W r).testBit y = true → ((g r).testBit y = true ↔ y = br y) := fun y h1 h2 => by
    have z := hbr y h1 h2
    constructor
    · intro q
      have hB : (g r &&& sd W (2 ^ r)).testBit y = true := chd_bit.mpr ⟨q, comp_sub hr h2, h1⟩
      exact (hbu y y hB (hself y hB)).symm
    · intro q
      rw [q]
      exact (chd_bit.mp z.1).1
  have hadj2 : ∀ y, y ≠ r → (comp g W r).testBit y = true → ((g r2).testBit (F (br y) y) = true ↔ y = br y) := fun y h1 h2 => by
    have z := hbr y h1 h2
    obtain ⟨i1, i2⟩ := hF _ z.1
    have h5 := i1.1 y z.2
    constructor
    · intro q
      have hB : (g r2 &&& sd W2 (2 ^ r2)).testBit (F (br y) y) = true := chd_bit.mpr ⟨q, sd_sub.mp (comp_sub (sd_sub.mpr (chd_bit.mp (b1 _ z.1)).2) h5)⟩
      have e := part_dis h hW2 hr214 hB (b1 _ z.1) (hself2 _ hB) h5
      rw [← i2] at e
      exact i1.2.1 _ _ z.2 (hself _ z.1) e
    · intro q
      have : F (br y) y = β (br y) := by
        have := i2
        rw [← q] at this ⊢
        exact this
      rw [this]
      exact (chd_bit.mp (b1 _ z.1)).1
  have hcl : ∀ b x y, (g r &&& sd W (2 ^ r)).testBit b = true → (comp g (sd W (2 ^ r)) b).testBit x = true → (g x).testBit y = true → y ≠ r → W.testBit y = true → (comp g (sd W (2 ^ r)) b).testBit y = true := fun b x y hb hx he hy hWy =>
    comp_cls hS b x hx y he (sd_sub.mpr ⟨hWy, hy⟩)
  have hcl2 : ∀ b x y, (g r2 &&& sd W2 (2 ^ r2)).testBit b = true → (comp g (sd W2 (2 ^ r2)) b).testBit x = true → (g x).testBit y = true → y ≠ r2 → W2.testBit y = true → (comp g (sd W2 (2 ^ r2)) b).testBit y = true := fun b x y hb hx he hy hWy =>
    comp_cls hS2 b x hx y he (sd_sub.mpr ⟨hWy, hy⟩)
  refine ⟨fun x => if x = r then r2 else F (br x) x, ⟨fun x hx => ?_, fun x y hx hy e => ?_, fun y hy => ?_, fun x y hx hy => ?_⟩, by simp only [if_true]⟩
  · by_cases q : x = r
    · simp only [if_pos q]; exact comp_self g W2 hr214
    · simp only [if_neg q]
      have z := hbr x q hx
      exact (hsp2 _).mpr (Or.inr ⟨_, b1 _ z.1, (hF _ z.1).1.1 x z.2⟩)
  · by_cases q1 : x = r
    · by_cases q2 : y = r
      · rw [q1, q2]
      · simp only [if_pos q1, if_neg q2] at e
        have z := hbr y q2 hy
        exact absurd e.symm (hno2 _ _ (b1 _ z.1) ((hF _ z.1).1.1 y z.2)).1
    · have z1 := hbr x q1 hx
      by_cases q2 : y = r
      · simp only [if_neg q1, if_pos q2] at e
        exact absurd e (hno2 _ _ (b1 _ z1.1) ((hF _ z1.1).1.1 x z1.2)).1
      · simp only [if_neg q1, if_neg q2] at e
        have z2 := hbr y q2 hy
        have y1 := (hF _ z1.1).1.1 x z1.2
        have y2 := (hF _ z2.1).1.1 y z2.2
        rw [e] at y1
        have e3 := b2 _ _ z1.1 z2.1 (part_dis h hW2 hr214 (b1 _ z1.1) (b1 _ z2.1) y1 y2)
        rw [← e3] at e z2
        exact (hF _ z1.1).1.2.1 x y z1.2 z2.2 e
  · rcases (hsp2 y).mp hy with rfl | ⟨d, d1, d2⟩
    · exact ⟨r, comp_self g W hr14, by simp only [if_true]⟩
    · obtain ⟨b, hb, rfl⟩ := b3 d d1
      obtain ⟨x, hx, rfl⟩ := (hF b hb).1.2.2.1 y d2
      refine ⟨x, (hsp x).mpr (Or.inr ⟨b, hb, hx⟩), ?_⟩
      simp only [if_neg (hno b x hb hx).1, hbu b x hb hx]
  · by_cases q1 : x = r
    · by_cases q2 : y = r
      · simp only [if_pos q1, if_pos q2]
        subst q1
        rw [q2]
        have e1 : (g x).testBit x = false := by
          cases z : (g x).testBit x
          · rfl
          · exact absurd rfl (FG_ne h hr14 z)
        have e2 : (g r2).testBit r2 = false := by
          cases z : (g r2).testBit r2
          · rfl
          · exact absurd rfl (FG_ne h hr214 z)
        rw [e1, e2]
      · simp only [if_pos q1, if_neg q2]
        rw [q1]
        exact bool_iff ((hadj y q2 hy).trans (hadj2 y q2 hy).symm)
    · have z1 := hbr x q1 hx
      have x14 := (hno _ _ z1.1 z1.2).2
      have f14 := (hno2 _ _ (b1 _ z1.1) ((hF _ z1.1).1.1 x z1.2)).2
      by_cases q2 : y = r
      · simp only [if_neg q1, if_pos q2]
        rw [q2, h.2.1 x x14 r hr14, h.2.1 _ f14 r2 hr214]
        exact bool_iff ((hadj x q1 hx).trans (hadj2 x q1 hx).symm)
      · simp only [if_neg q1, if_neg q2]
        have z2 := hbr y q2 hy
        have y14 := (hno _ _ z2.1 z2.2).2
        by_cases e : br x = br y
        · rw [← e] at z2 ⊢
          exact (hF _ z1.1).1.2.2.2 x y z1.2 z2.2
        · have n1 : (g x).testBit y = false := by
            cases z : (g x).testBit y
            · rfl
            · exact absurd (hbu _ _ z1.1 (hcl _ x y z1.1 z1.2 z q2 (comp_sub hr hy))).symm e
          have y1 := (hF _ z1.1).1.1 x z1.2
          have y2 := (hF _ z2.1).1.1 y z2.2
          have n2 : (g (F (br x) x)).testBit (F (br y) y) = false := by
            cases z : (g (F (br x) x)).testBit (F (br y) y)
            · rfl
            · have k := hno2 _ _ (b1 _ z2.1) y2
              have k2 := hcl2 _ _ _ (b1 _ z1.1) y1 z k.1 (sd_sub.mp (comp_sub (sd_sub.mpr (chd_bit.mp (b1 _ z2.1)).2) y2)).1
              exact absurd (b2 _ _ z1.1 z2.1 (part_dis h hW2 hr214 (b1 _ z1.1) (b1 _ z2.1) k2 y2)) e
          rw [n1, n2]
theorem CD_iso {g : Nat → Nat} (h : FG g) (n : Nat) : ∀ (W W2 r r2 : Nat), W < 16384 → W2 < 16384 → W.testBit r = true → W2.testBit r2 = true → pc W ≤ n → CD g W r = CD g W2 r2 → ∃ f, isoG g (comp g W r) (comp g W2 r2) f ∧ f r = r2 := by
  induction n with
  | zero => intro W W2 r r2 hW hW2 hr hr2 hp he; have := pc_rm hW hr; omega
  | succ n ih =>
    intro W W2 r r2 hW hW2 hr hr2 hp he
    have p := pc_rm hW hr
    rw [CD_eq g hW hr, CD_eq g hW2 hr2] at he
    obtain ⟨β, k1, k2, k3⟩ := sel_bij (w := fun b => wtD g (sd W (2 ^ r)) b) (w2 := fun b => wtD g (sd W2 (2 ^ r2)) b) 14 _ _ 1 (chd_lt hW) (chd_lt hW2) (pc_le _) (fun b hb => CD_ok h 14 _ b (sd_14 _ hW) (sd_sub.mpr (chd_bit.mp hb).2) (pc_le _)) (fun b hb => CD_ok h 14 _ b (sd_14 _ hW2) (sd_sub.mpr (chd_bit.mp hb).2) (pc_le _)) (Nat.le_refl _) (show selV (fun b => CD g (sd W (2 ^ r)) b) (g r &&& sd W (2 ^ r)) 1 = selV (fun b => CD g (sd W2 (2 ^ r2)) b) (g r2 &&& sd W2 (2 ^ r2)) 1 by omega)
    have hch : ∀ b, ∃ f : Nat → Nat, (g r &&& sd W (2 ^ r)).testBit b = true → isoG g (comp g (sd W (2 ^ r)) b) (comp g (sd W2 (2 ^ r2)) (β b)) f ∧ f b = β b := fun b => by
      by_cases q : (g r &&& sd W (2 ^ r)).testBit b = true
      · have z := k1 b q
        obtain ⟨f, hf⟩ := ih (sd W (2 ^ r)) (sd W2 (2 ^ r2)) b (β b) (sd_14 _ hW) (sd_14 _ hW2) (sd_sub.mpr (chd_bit.mp q).2) (sd_sub.mpr (chd_bit.mp z.1).2) (by omega) z.2.symm
        exact ⟨f, fun _ => hf⟩
      · exact ⟨fun x => x, fun z => absurd z q⟩
    obtain ⟨F, hF⟩ := Classical.axiomOfChoice hch
    exact iso_step h hW hW2 hr hr2 β F (fun b hb => (k1 b hb).1) k2 k3 hF
theorem mxC_ge {g : Nat → Nat} {W r : Nat} (hr : W.testBit r = true) : ∀ n, r < n → CD g W r ≤ mxC g W n
  | 0, h => absurd h (Nat.not_lt_zero _)
  | n + 1, h => by
    rw [mxC]
    by_cases e : r = n
    · subst e; rw [if_pos hr]; exact Nat.le_max_right _ _
    · have := mxC_ge (g := g) hr n (by omega)
      split
      · exact Nat.le_trans this (Nat.le_max_left _ _)
      · exact this
theorem mxC_ex {g : Nat → Nat} {W : Nat} : ∀ n, mxC g W n = 0 ∨ ∃ r, r < n ∧ W.testBit r = true ∧ mxC g W n = CD g W r
  | 0 => Or.inl rfl
  | n + 1 => by
    rw [mxC]
    have ih := mxC_ex (g := g) (W := W) n
    by_cases e : W.testBit n = true
    · rw [if_pos e]
      by_cases q : mxC g W n ≤ CD g W n
      · exact Or.inr ⟨n, by omega, e, Nat.max_eq_right q⟩
      · rw [Nat.max_eq_left (by omega)]
        rcases ih with z | ⟨k, h1, h2⟩
        · exact Or.inl z
        · exact Or.inr ⟨k, by omega, h2⟩
    · rw [if_neg e]
      rcases ih with z | ⟨k, h1, h2⟩
      · exact Or.inl z
      · exact Or.inr ⟨k, by omega, h2⟩
theorem mxC_root {g : Nat → Nat} (h : FG g) {W : Nat} (hW : W < 16384) (h0 : W ≠ 0) : ∃ r, W.testBit r = true ∧ mxC g W 14 = CD g W r := by
  obtain ⟨k, hk, hb⟩ := bit_ex hW h0
  have h1 := mxC_ge (g := g) hb 14 hk
  have h2 := CD_w h hW hb
  rcases mxC_ex (g := g) (W := W) 14 with z | ⟨r, -, h3, h4⟩
  · have := h2.2.1
    have := Nat.two_pow_pos (2 * wtD g W k - 1)
    omega
  · exact ⟨r, h3, h4⟩
/-- a tree: one part -/
def oneG (g : Nat → Nat) (A : Nat) : Prop := A < 16384 ∧ A ≠ 0 ∧ ∀ r, A.testBit r = true → comp g A r = A
theorem one_comp {g : Nat → Nat} (hs : symG g) {W a : Nat} (hW : W < 16384) (ha : W.testBit a = true) : oneG g (comp g W a) := by
  refine ⟨comp_lt _ _ _, ne0 (comp_self g W (bit_in hW ha)), fun r hr => ?_⟩
  have hr2 := (comp_bit _ _ _ _).mp hr
  have e1 : comp g W r = comp g (comp g W a) r := comp_cut hW hr2.1 (fun x hx => comp_sub ha hx) (fun x hx => (comp_bit _ _ _ _).mpr ⟨rch_lt hW hr2.1 hx, rch_trans hr2.2 hx⟩)
  rw [← e1]
  refine eq_of_bits (comp_lt _ _ _) (comp_lt _ _ _) (fun i hi => bool_iff ⟨fun z => ?_, fun z => ?_⟩)
  · exact (comp_bit _ _ _ _).mpr ⟨hi, rch_trans hr2.2 ((comp_bit _ _ _ _).mp z).2⟩
  · exact (comp_bit _ _ _ _).mpr ⟨hi, rch_trans (rch_sym hs hW ha hr2.2) ((comp_bit _ _ _ _).mp z).2⟩
theorem same_class {g : Nat → Nat} (h : FG g) {A B : Nat} (hA : oneG g A) (hB : oneG g B) (he : mxC g A 14 = mxC g B 14) : pc A = pc B ∧ V g A = V g B ∧ lwA g A 14 = lwA g B 14 := by
  obtain ⟨r, hr, e1⟩ := mxC_root h hA.1 hA.2.1
  obtain ⟨r2, hr2, e2⟩ := mxC_root h hB.1 hB.2.1
  obtain ⟨f, hf, -⟩ := CD_iso h 14 A B r r2 hA.1 hB.1 hr hr2 (pc_le _) (by rw [← e1, ← e2, he])
  rw [hA.2.2 r hr, hB.2.2 r2 hr2] at hf
  have e3 := img_A hf hA.1 hB.1
  have e4 := pc_iso hf hA.1 hB.1 14 A (pc_le _) (fun _ q => q)
  have e5 := V_iso hf hA.1 hB.1 14 A (pc_le _) (fun _ q => q)
  rw [e3] at e4 e5
  exact ⟨e4.symm, e5.symm, lwA_iso hf hA.1 hB.1⟩
