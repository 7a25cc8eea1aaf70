/-- the lowest tree of the class of a tree -/
noncomputable def alk (g tr : Nat → Nat) (n t : Nat) : Nat := fst (fun k => decide (mxC g (tr k) n = mxC g (tr t) n)) t
theorem alk_le (g tr : Nat → Nat) (n t : Nat) : alk g tr n t ≤ t := fst_le
noncomputable def clN (g tr : Nat → Nat) (n : Nat) : Nat → Nat
  | 0 => 0
  | k + 1 => clN g tr n k + (if alk g tr n k = k then 1 else 0)
theorem mxC_hi {g : Nat → Nat} {W n : Nat} (h : W < 2 ^ n) : ∀ d, mxC g W (n + d) = mxC g W n
  | 0 => rfl
  | d + 1 => by rw [show n + (d + 1) = (n + d) + 1 by omega, mxC, if_f (bit_of_lt h (by omega)), mxC_hi h d]
theorem mxC_14 {g : Nat → Nat} {W n : Nat} (h : W < 2 ^ n) (hn : n ≤ 14) : mxC g W 14 = mxC g W n := by
  have := mxC_hi (g := g) h (14 - n)
  rw [show n + (14 - n) = 14 by omega] at this
  exact this
/-! edges between equal halves -/
theorem sel_same {g g2 : Nat → Nat} : ∀ (n A r : Nat), A < 16384 → A.testBit r = true → pc A ≤ n → (∀ x y, A.testBit x = true → A.testBit y = true → (g x).testBit y = (g2 x).testBit y) → CD g A r = CD g2 A r
  | 0, A, r, hA, hr, hp, _ => by have := pc_rm hA hr; omega
  | n + 1, A, r, hA, hr, hp, h => by
    have p := pc_rm hA hr
    have ech : g r &&& sd A (2 ^ r) = g2 r &&& sd A (2 ^ r) := eq_of_bits (chd_lt hA) (chd_lt hA) (fun b _ => by
      rw [Nat.testBit_and, Nat.testBit_and]
      cases e : (sd A (2 ^ r)).testBit b
      · rw [Bool.and_false, Bool.and_false]
      · rw [Bool.and_true, Bool.and_true, h r b hr (sd_sub.mp e).1])
    rw [CD_eq g hA hr, CD_eq g2 hA hr, ← ech]
    refine congrArg (fun z => 2 * z) ?_
    refine selV_congr 14 _ 1 (chd_lt hA) (pc_le _) (fun b hb => ?_)
    exact sel_same n _ b (sd_14 _ hA) (sd_sub.mpr (chd_bit.mp hb).2) (by omega) (fun x y hx hy => h x y (sd_sub.mp hx).1 (sd_sub.mp hy).1)
theorem mxC_same {g g2 : Nat → Nat} {A : Nat} (hA : A < 16384) (h : ∀ x y, A.testBit x = true → A.testBit y = true → (g x).testBit y = (g2 x).testBit y) : ∀ k, mxC g A k = mxC g2 A k
  | 0 => rfl
  | k + 1 => by
    rw [mxC, mxC, mxC_same hA h k]
    by_cases e : A.testBit k = true
    · rw [if_pos e, if_pos e, sel_same 14 A k hA e (pc_le _) h]
    · rw [if_neg e, if_neg e]
/-- whether the halves are of one class -/
noncomputable def mrB (g : Nat → Nat) (W n i j : Nat) : Bool := decide (pc (comp g (sd W (2 ^ j)) i) = pc (comp g (sd W (2 ^ i)) j)) && decide (mxC g (comp g (sd W (2 ^ j)) i) n = mxC g (comp g (sd W (2 ^ i)) j) n)
def edB (g : Nat → Nat) (W i j : Nat) : Bool := W.testBit i && W.testBit j && (g i).testBit j
noncomputable def miB (g : Nat → Nat) (W n i j : Nat) : Bool := edB g W i j && mrB g W n i j
/-! mirrors, one after the other -/
def innM (q : Nat → Nat → Bool) (i : Nat) (R : Int32) (s : Nat × Int32) : Nat → Nat × Int32
  | 0 => s
  | j + 1 => if decide (i < j) && q i j then ((innM q i R s j).1 + 1, if nI (innM q i R s j).1 = R then nI (100 * i + j) else (innM q i R s j).2) else innM q i R s j
def outM (q : Nat → Nat → Bool) (n : Nat) (R : Int32) : Nat → Nat × Int32
  | 0 => (0, -1)
  | i + 1 => innM q i R (outM q n R i) n
theorem innM_lo {q : Nat → Nat → Bool} {i : Nat} {R : Int32} {s : Nat × Int32} : ∀ j, j ≤ i + 1 → innM q i R s j = s
  | 0, _ => rfl
  | j + 1, h => by rw [innM, decide_eq_false (by omega), Bool.false_and, if_neg (by decide), innM_lo j (by omega)]
theorem innM_le {q : Nat → Nat → Bool} {i : Nat} {R : Int32} {s : Nat × Int32} : ∀ j, (innM q i R s j).1 ≤ s.1 + j
  | 0 => Nat.le_refl _
  | j + 1 => by
    have := innM_le (q := q) (i := i) (R := R) (s := s) j
    rw [innM]
    split
    · show _ + 1 ≤ _; omega
    · omega
theorem outM_le {q : Nat → Nat → Bool} {n : Nat} {R : Int32} (hn : n ≤ 14) : ∀ i, (outM q n R i).1 ≤ 14 * i
  | 0 => Nat.le_refl _
  | i + 1 => by
    have h1 := outM_le (q := q) (R := R) hn i
    have h2 := innM_le (q := q) (i := i) (R := R) (s := outM q n R i) n
    rw [outM]; omega
theorem innM_t {q : Nat → Nat → Bool} {i j : Nat} {R : Int32} {s : Nat × Int32} (hij : i < j) (h : q i j = true) : innM q i R s (j + 1) = ((innM q i R s j).1 + 1, if nI (innM q i R s j).1 = R then nI (100 * i + j) else (innM q i R s j).2) := by
  rw [innM, decide_eq_true hij, h, Bool.and_self, if_pos rfl]
theorem innM_f {q : Nat → Nat → Bool} {i j : Nat} {R : Int32} {s : Nat × Int32} (h : q i j = false) : innM q i R s (j + 1) = innM q i R s j := by
  rw [innM, h, Bool.and_false, if_neg (by decide)]
/-- which edges of a set are mirrors -/
noncomputable def miQ (g : Nat → Nat) (W n S : Nat) : Nat → Nat → Bool := fun i j => S.testBit i && miB g W n i j
