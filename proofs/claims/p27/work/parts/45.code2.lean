/-! unions of parts -/
theorem pcn_or {X Y : Nat} (h : ∀ i, X.testBit i = true → Y.testBit i = false) : ∀ n, pcn (X ||| Y) n = pcn X n + pcn Y n
  | 0 => rfl
  | n + 1 => by
    rw [pcn, pcn, pcn, pcn_or h n, Nat.testBit_or]
    cases e : X.testBit n
    · cases Y.testBit n <;> simp <;> omega
    · rw [h n e]; simp; omega
def un (C : Nat → Nat) (B : Nat) : Nat → Nat
  | 0 => 0
  | k + 1 => un C B k ||| (if B.testBit k then C k else 0)
theorem un_bit {C : Nat → Nat} {B x : Nat} : ∀ n, (un C B n).testBit x = true ↔ ∃ b, b < n ∧ B.testBit b = true ∧ (C b).testBit x = true
  | 0 => by
    rw [un, Nat.zero_testBit]
    exact ⟨fun z => (by cases z), fun ⟨b, h1, _⟩ => absurd h1 (Nat.not_lt_zero _)⟩
  | n + 1 => by
    rw [un, Nat.testBit_or, Bool.or_eq_true, un_bit n]
    constructor
    · rintro (⟨b, h1, h2⟩ | h)
      · exact ⟨b, by omega, h2⟩
      · by_cases e : B.testBit n = true
        · rw [if_pos e] at h; exact ⟨n, by omega, e, h⟩
        · rw [if_neg e, Nat.zero_testBit] at h; cases h
    · rintro ⟨b, h1, h2, h3⟩
      by_cases e : b = n
      · subst e; rw [if_pos h2]; exact Or.inr h3
      · exact Or.inl ⟨b, by omega, h2, h3⟩
theorem pc_un {C : Nat → Nat} {B : Nat} (h : ∀ a b x, B.testBit a = true → B.testBit b = true → (C a).testBit x = true → (C b).testBit x = true → a = b) : ∀ n, pc (un C B n) = sm (fun b => pc (C b)) B n
  | 0 => pcn_zero 14
  | n + 1 => by
    rw [un, sm, ← pc_un h n, pc, pcn_or (fun x hx => ?_)]
    · by_cases e : B.testBit n = true
      · rw [if_pos e, if_pos e]; rfl
      · rw [if_neg e, if_neg e, pcn_zero]; rfl
    · obtain ⟨b, h1, h2, h3⟩ := (un_bit n).mp hx
      by_cases e : B.testBit n = true
      · rw [if_pos e]
        cases z : (C n).testBit x
        · rfl
        · have := h b n x h2 e h3 z
          omega
      · rw [if_neg e, Nat.zero_testBit]
theorem comp_split {g : Nat → Nat} {W r : Nat} (hW : W < 16384) (hr : W.testBit r = true) : comp g W r = 2 ^ r ||| un (fun b => comp g (sd W (2 ^ r)) b) (g r &&& sd W (2 ^ r)) 14 := by
  have hr14 := bit_in hW hr
  apply Nat.eq_of_testBit_eq
  intro x
  have q : (comp g W r).testBit x = true ↔ (2 ^ r ||| un (fun b => comp g (sd W (2 ^ r)) b) (g r &&& sd W (2 ^ r)) 14).testBit x = true := by
    rw [comp_bit, Nat.testBit_or, Bool.or_eq_true, un_bit, pow_bit, decide_eq_true_eq]
    constructor
    · rintro ⟨h1, h2⟩
      have := rch_ind (g := g) (fun x => x = r ∨ ∃ b, (g r &&& sd W (2 ^ r)).testBit b = true ∧ rch g (sd W (2 ^ r)) b x) hW hr14 (Or.inl rfl) (fun i j hi hj hw => by
        by_cases e : j = r
        · exact Or.inl e
        · right
          have hw2 : (sd W (2 ^ r)).testBit j = true := sd_sub.mpr ⟨hw, e⟩
          rcases hi with rfl | ⟨b, b1, b2⟩
          · exact ⟨j, chd_bit.mpr ⟨hj, hw, e⟩, rch_self _ _ _⟩
          · exact ⟨b, b1, rch_step b2 hj hw2⟩) h2
      rcases this with z | ⟨b, b1, b2⟩
      · exact Or.inl z.symm
      · exact Or.inr ⟨b, bit_in (chd_lt hW) b1, b1, (comp_bit _ _ _ _).mpr ⟨h1, b2⟩⟩
    · rintro (h | ⟨b, -, b1, b2⟩)
      · subst h; exact ⟨hr14, rch_self _ _ _⟩
      · obtain ⟨c1, c2⟩ := (comp_bit _ _ _ _).mp b2
        have hb := chd_bit.mp b1
        exact ⟨c1, rch_trans (rch_step (rch_self g W r) hb.1 hb.2.1) (rch_mono (fun k m z w => ⟨z, (sd_sub.mp w).1⟩) c2)⟩
  cases e1 : (comp g W r).testBit x <;> cases e2 : (2 ^ r ||| un (fun b => comp g (sd W (2 ^ r)) b) (g r &&& sd W (2 ^ r)) 14).testBit x <;> simp_all
/-- the parts behind a node's neighbours have nothing in common -/
theorem part_dis {g : Nat → Nat} (h : FG g) {W r a b x : Nat} (hW : W < 16384) (hr : r < 14) (ha : (g r &&& sd W (2 ^ r)).testBit a = true) (hb : (g r &&& sd W (2 ^ r)).testBit b = true) (h1 : (comp g (sd W (2 ^ r)) a).testBit x = true) (h2 : (comp g (sd W (2 ^ r)) b).testBit x = true) : a = b := by
  by_cases e : a = b
  · exact e
  · have ha2 := chd_bit.mp ha
    have hb2 := chd_bit.mp hb
    exact absurd (rch_trans ((comp_bit _ _ _ _).mp h1).2 (rch_sym h.2.1 (sd_14 _ hW) (sd_sub.mpr hb2.2) ((comp_bit _ _ _ _).mp h2).2)) (nb_no h hW hr ha2.1 hb2.1 e)
theorem pc_two {r : Nat} (hr : r < 14) : pc (2 ^ r) = 1 := by
  have : ∀ r, r < 14 → pc (2 ^ r) = 1 := by decide
  exact this r hr
noncomputable def wtD (g : Nat → Nat) (W r : Nat) : Nat := pc (comp g W r)
theorem wt_eq {g : Nat → Nat} (h : FG g) {W r : Nat} (hW : W < 16384) (hr : W.testBit r = true) : wtD g W r = 1 + sm (fun b => wtD g (sd W (2 ^ r)) b) (g r &&& sd W (2 ^ r)) 14 := by
  have hr14 := bit_in hW hr
  rw [wtD, comp_split hW hr, pc, pcn_or (fun x hx => ?_)]
  · have e1 : pcn (2 ^ r) 14 = 1 := pc_two hr14
    have e2 := pc_un (C := fun b => comp g (sd W (2 ^ r)) b) (B := g r &&& sd W (2 ^ r)) (fun a b x ha hb h1 h2 => part_dis h hW hr14 ha hb h1 h2) 14
    rw [e1, show pcn (un (fun b => comp g (sd W (2 ^ r)) b) (g r &&& sd W (2 ^ r)) 14) 14 = _ from e2]
    rfl
  · rw [pow_bit, decide_eq_true_eq] at hx
    subst hx
    cases z : (un (fun b => comp g (sd W (2 ^ r)) b) (g r &&& sd W (2 ^ r)) 14).testBit r
    · rfl
    · obtain ⟨b, b1, b2, b3⟩ := (un_bit 14).mp z
      have b4 := comp_sub (sd_sub.mpr (chd_bit.mp b2).2) b3
      exact absurd rfl (sd_sub.mp b4).2
theorem wt_le (g : Nat → Nat) (W r : Nat) : wtD g W r ≤ 14 := pc_le _
theorem CD_bd {g : Nat → Nat} (h : FG g) : ∀ (n W r : Nat), W < 16384 → W.testBit r = true → pc W ≤ n → cdW (wtD g W r) (CD g W r)
  | 0, W, r, hW, hr, hp => by have := pc_rm hW hr; omega
  | n + 1, W, r, hW, hr, hp => by
    have p := pc_rm hW hr
    have hb := selV_bd (c := fun b => CD g (sd W (2 ^ r)) b) (w := fun b => wtD g (sd W (2 ^ r)) b) 14 (g r &&& sd W (2 ^ r)) 1 1 (chd_lt hW) (pc_le _) (fun b hb => CD_bd h n _ b (sd_14 _ hW) (sd_sub.mpr (chd_bit.mp hb).2) (by omega)) (Nat.le_refl _) (by decide) (by decide)
    rw [CD_eq g hW hr, wt_eq h hW hr]
    generalize sm (fun b => wtD g (sd W (2 ^ r)) b) (g r &&& sd W (2 ^ r)) 14 = s at hb
    obtain ⟨h1, h2⟩ := hb
    refine ⟨by omega, ?_, ?_⟩
    · rw [show 2 * (1 + s) - 1 = (2 * (1 + s) - 2) + 1 by omega, Nat.pow_succ]
      omega
    · rw [show 2 * (1 + s) = (2 * (1 + s) - 1) + 1 by omega, Nat.pow_succ]
      omega
theorem CD_w {g : Nat → Nat} (h : FG g) {W r : Nat} (hW : W < 16384) (hr : W.testBit r = true) : cdW (wtD g W r) (CD g W r) := CD_bd h 14 W r hW hr (pc_le _)
theorem CD_lt {g : Nat → Nat} (h : FG g) {W r : Nat} (hW : W < 16384) (hr : W.testBit r = true) : CD g W r < 2 ^ 28 :=
  Nat.lt_of_lt_of_le (CD_w h hW hr).2.2 (Nat.pow_le_pow_right (by omega) (by have := wt_le g W r; omega))
/-- the greatest code -/
noncomputable def mxC (g : Nat → Nat) (W : Nat) : Nat → Nat
  | 0 => 0
  | k + 1 => if W.testBit k then max (mxC g W k) (CD g W k) else mxC g W k
theorem mxC_lt {g : Nat → Nat} (h : FG g) {W : Nat} (hW : W < 16384) : ∀ k, mxC g W k < 2 ^ 28
  | 0 => by rw [mxC]; decide
  | k + 1 => by
    rw [mxC]
    by_cases e : W.testBit k = true
    · rw [if_pos e]
      have := CD_lt h hW e
      have := mxC_lt h hW k
      exact Nat.max_lt.mpr ⟨by omega, by omega⟩
    · rw [if_neg e]; exact mxC_lt h hW k
