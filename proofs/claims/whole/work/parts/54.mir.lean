/-! classes of trees -/
def fdC (q : Nat → Bool) (t : Nat) : Nat → Nat
  | 0 => t
  | d + 1 => if q (t - d) then t - d else fdC q t d
theorem fdC_spec {q : Nat → Bool} {t : Nat} (h : q t = true) : ∀ d, d ≤ t + 1 → q (fdC q t d) = true ∧ fdC q t d ≤ t ∧ ∀ i, t + 1 ≤ i + d → i < fdC q t d → q i = false
  | 0, _ => ⟨h, Nat.le_refl _, fun i h1 h2 => by rw [fdC] at h2; omega⟩
  | d + 1, hd => by
    obtain ⟨a, b, c⟩ := fdC_spec h d (by omega)
    rw [fdC]
    by_cases e : q (t - d) = true
    · rw [if_pos e]; exact ⟨e, by omega, fun i h1 h2 => by omega⟩
    · rw [if_neg e]
      refine ⟨a, b, fun i h1 h2 => ?_⟩
      by_cases z : i = t - d
      · rw [z]; exact ts_f e
      · exact c i (by omega) h2
theorem fdC_fst {q : Nat → Bool} {t : Nat} (h : q t = true) : fdC q t (t + 1) = fst q t := by
  obtain ⟨a, b, c⟩ := fdC_spec h (t + 1) (Nat.le_refl _)
  by_cases e : fdC q t (t + 1) < t
  · exact (fst_eq e a (fun i hi => c i (by omega) hi)).symm
  · have e2 : fdC q t (t + 1) = t := by omega
    rw [e2] at c ⊢
    exact (fst_all (fun i hi => c i (by omega) hi)).symm
/-- the lowest tree of the class of a tree -/
noncomputable def alk (g tr : Nat → Nat) (n t : Nat) : Nat := fst (fun k => decide (mxC g (tr k) n = mxC g (tr t) n)) t
theorem alk_le (g tr : Nat → Nat) (n t : Nat) : alk g tr n t ≤ t := fst_le
noncomputable def clN (g tr : Nat → Nat) (n : Nat) : Nat → Nat
  | 0 => 0
  | k + 1 => clN g tr n k + (if alk g tr n k = k then 1 else 0)
theorem clN_le (g tr : Nat → Nat) (n : Nat) : ∀ k, clN g tr n k ≤ k
  | 0 => Nat.le_refl _
  | k + 1 => by
    have := clN_le g tr n k
    rw [clN]; split <;> omega
theorem mxC_hi {g : Nat → Nat} {W n : Nat} (h : W < 2 ^ n) : ∀ d, mxC g W (n + d) = mxC g W n
  | 0 => rfl
  | d + 1 => by rw [show n + (d + 1) = (n + d) + 1 by omega, mxC, if_f (bit_of_lt h (by omega)), mxC_hi h d]
theorem mxC_14 {g : Nat → Nat} {W n : Nat} (h : W < 2 ^ n) (hn : n ≤ 14) : mxC g W 14 = mxC g W n := by
  have := mxC_hi (g := g) h (14 - n)
  rw [show n + (14 - n) = 14 by omega] at this
  exact this
/-! edges between equal halves -/
theorem sel_same {g g2 : Nat → Nat} : ∀ (n A r : Nat), A < 16384 → A.testBit r = true → pc A ≤ n → (∀ x y, A.testBit x = true → A.testBit y = true → (g x).testBit y = (g2 x).testBit y) → CD g A r = CD g2 A r
  | 0, A, r, hA, hr, hp, _ => by have := pc_rm hA hr; omega
  | n + 1, A, r, hA, hr, hp, h => by
    have p := pc_rm hA hr
    have ech : g r &&& sd A (2 ^ r) = g2 r &&& sd A (2 ^ r) := eq_of_bits (chd_lt hA) (chd_lt hA) (fun b _ => by
      rw [Nat.testBit_and, Nat.testBit_and]
      cases e : (sd A (2 ^ r)).testBit b
      · rw [Bool.and_false, Bool.and_false]
      · rw [Bool.and_true, Bool.and_true, h r b hr (sd_sub.mp e).1])
    rw [CD_eq g hA hr, CD_eq g2 hA hr, ← ech]
    refine congrArg (fun z => 2 * z) ?_
    refine selV_congr 14 _ 1 (chd_lt hA) (pc_le _) (fun b hb => ?_)
    exact sel_same n _ b (sd_14 _ hA) (sd_sub.mpr (chd_bit.mp hb).2) (by omega) (fun x y hx hy => h x y (sd_sub.mp hx).1 (sd_sub.mp hy).1)
theorem mxC_same {g g2 : Nat → Nat} {A : Nat} (hA : A < 16384) (h : ∀ x y, A.testBit x = true → A.testBit y = true → (g x).testBit y = (g2 x).testBit y) : ∀ k, mxC g A k = mxC g2 A k
  | 0 => rfl
  | k + 1 => by
    rw [mxC, mxC, mxC_same hA h k]
    by_cases e : A.testBit k = true
    · rw [if_pos e, if_pos e, sel_same 14 A k hA e (pc_le _) h]
    · rw [if_neg e, if_neg e]
/-- without the edge, or without the other end -/
theorem half_comp {g : Nat → Nat} (hf : FG g) {W i j : Nat} (hW : W < 16384) (hi : W.testBit i = true) (he : (g i).testBit j = true) : comp (lk2 g i j false) W i = comp g (sd W (2 ^ j)) i ∧ (comp g (sd W (2 ^ j)) i).testBit j = false := by
  have hi14 := bit_in hW hi
  have hj14 := bit_in (hf.1 i hi14) he
  obtain ⟨hne, hbr⟩ := hf.2.2 i j hi14 hj14 he
  have hin : (sd W (2 ^ j)).testBit i = true := sd_sub.mpr ⟨hi, hne⟩
  have hj : (comp g (sd W (2 ^ j)) i).testBit j = false := by
    cases z : (comp g (sd W (2 ^ j)) i).testBit j
    · rfl
    · exact absurd rfl (sd_sub.mp (comp_in hin z)).2
  refine ⟨?_, hj⟩
  have nj : ∀ x, rch (lk2 g i j false) W i x → x ≠ j := fun x hx e => by
    subst e
    exact hbr (rch_mono (fun k m z w => ⟨z, F_bit (bit_in hW w)⟩) hx)
  refine eq_of_bits (comp_lt _ _ _) (comp_lt _ _ _) (fun x _ => ?_)
  have q : (comp (lk2 g i j false) W i).testBit x = true ↔ (comp g (sd W (2 ^ j)) i).testBit x = true := by
    rw [comp_bit, comp_bit]
    constructor
    · rintro ⟨z1, z2⟩
      refine ⟨z1, (rch_ind (g := lk2 g i j false) (fun x => rch (lk2 g i j false) W i x ∧ rch g (sd W (2 ^ j)) i x) hW hi14 ⟨rch_self _ _ _, rch_self _ _ _⟩ (fun k m hk hm hw => ?_) z2).2⟩
      have z3 := rch_step hk.1 hm hw
      exact ⟨z3, rch_step hk.2 ((lk2_del hne).mp hm).1 (sd_sub.mpr ⟨hw, nj m z3⟩)⟩
    · rintro ⟨z1, z2⟩
      refine ⟨z1, (rch_ind (g := g) (fun x => x ≠ j ∧ rch (lk2 g i j false) W i x) (sd_14 _ hW) hi14 ⟨hne, rch_self _ _ _⟩ (fun k m hk hm hw => ?_) z2).2⟩
      have hw2 := sd_sub.mp hw
      exact ⟨hw2.2, rch_step hk.2 ((lk2_del hne).mpr ⟨hm, by have := hk.1; omega⟩) hw2.1⟩
  cases e1 : (comp (lk2 g i j false) W i).testBit x <;> cases e2 : (comp g (sd W (2 ^ j)) i).testBit x <;> simp_all
theorem half_mx {g : Nat → Nat} {A i j : Nat} (hA : A < 16384) (hne : i ≠ j) (h : A.testBit i = false ∨ A.testBit j = false) (k : Nat) : mxC (lk2 g i j false) A k = mxC g A k :=
  mxC_same hA (fun x y hx hy => by
    rw [lk2_bit hne, if_neg (fun q => by
      rcases h with z | z <;> rcases q with ⟨rfl, rfl⟩ | ⟨rfl, rfl⟩ <;> simp_all)]) k
/-- whether the halves are of one class -/
noncomputable def mrB (g : Nat → Nat) (W n i j : Nat) : Bool := decide (pc (comp g (sd W (2 ^ j)) i) = pc (comp g (sd W (2 ^ i)) j)) && decide (mxC g (comp g (sd W (2 ^ j)) i) n = mxC g (comp g (sd W (2 ^ i)) j) n)
def edB (g : Nat → Nat) (W i j : Nat) : Bool := W.testBit i && W.testBit j && (g i).testBit j
noncomputable def miB (g : Nat → Nat) (W n i j : Nat) : Bool := edB g W i j && mrB g W n i j
theorem lk2_swap {g : Nat → Nat} {i j : Nat} (hne : i ≠ j) (b : Bool) : lk2 g i j b = lk2 g j i b := by
  funext k
  apply Nat.eq_of_testBit_eq
  intro m
  rw [lk2_bit hne, lk2_bit (fun q => hne q.symm)]
  by_cases e : (k = i ∧ m = j) ∨ (k = j ∧ m = i)
  · rw [if_pos e, if_pos (by omega)]
  · rw [if_neg e, if_neg (by omega)]
/-! mirrors, one after the other -/
def innM (q : Nat → Nat → Bool) (i : Nat) (R : Int32) (s : Nat × Int32) : Nat → Nat × Int32
  | 0 => s
  | j + 1 => if decide (i < j) && q i j then ((innM q i R s j).1 + 1, if nI (innM q i R s j).1 = R then nI (100 * i + j) else (innM q i R s j).2) else innM q i R s j
def outM (q : Nat → Nat → Bool) (n : Nat) (R : Int32) : Nat → Nat × Int32
  | 0 => (0, -1)
  | i + 1 => innM q i R (outM q n R i) n
theorem innM_lo {q : Nat → Nat → Bool} {i : Nat} {R : Int32} {s : Nat × Int32} : ∀ j, j ≤ i + 1 → innM q i R s j = s
  | 0, _ => rfl
  | j + 1, h => by rw [innM, decide_eq_false (by omega), Bool.false_and, if_neg (by decide), innM_lo j (by omega)]
theorem innM_le {q : Nat → Nat → Bool} {i : Nat} {R : Int32} {s : Nat × Int32} : ∀ j, (innM q i R s j).1 ≤ s.1 + j
  | 0 => Nat.le_refl _
  | j + 1 => by
    have := innM_le (q := q) (i := i) (R := R) (s := s) j
    rw [innM]
    split
    · show _ + 1 ≤ _; omega
    · omega
theorem outM_le {q : Nat → Nat → Bool} {n : Nat} {R : Int32} (hn : n ≤ 14) : ∀ i, (outM q n R i).1 ≤ 14 * i
  | 0 => Nat.le_refl _
  | i + 1 => by
    have h1 := outM_le (q := q) (R := R) hn i
    have h2 := innM_le (q := q) (i := i) (R := R) (s := outM q n R i) n
    rw [outM]; omega
theorem innM_t {q : Nat → Nat → Bool} {i j : Nat} {R : Int32} {s : Nat × Int32} (hij : i < j) (h : q i j = true) : innM q i R s (j + 1) = ((innM q i R s j).1 + 1, if nI (innM q i R s j).1 = R then nI (100 * i + j) else (innM q i R s j).2) := by
  rw [innM, decide_eq_true hij, h, Bool.and_self, if_pos rfl]
theorem innM_f {q : Nat → Nat → Bool} {i j : Nat} {R : Int32} {s : Nat × Int32} (h : q i j = false) : innM q i R s (j + 1) = innM q i R s j := by
  rw [innM, h, Bool.and_false, if_neg (by decide)]
def mrR (q : Nat → Nat → Bool) (n : Nat) (R : Int32) : Int32 := if R < 0 then nI (outM q n R n).1 else (outM q n R n).2
/-- which edges of a set are mirrors -/
noncomputable def miQ (g : Nat → Nat) (W n S : Nat) : Nat → Nat → Bool := fun i j => S.testBit i && miB g W n i j
theorem alk_tr {g tr tr2 : Nat → Nat} {n t : Nat} (h : ∀ i, i ≤ t → tr i = tr2 i) : alk g tr n t = alk g tr2 n t := by
  rw [alk, alk]
  exact fst_g (fun i hi => by rw [h i (by omega), h t (Nat.le_refl _)])
theorem clN_tr {g tr tr2 : Nat → Nat} {n : Nat} : ∀ k, (∀ i, i < k → tr i = tr2 i) → clN g tr n k = clN g tr2 n k
  | 0, _ => rfl
  | k + 1, h => by rw [clN, clN, clN_tr k (fun i hi => h i (by omega)), alk_tr (fun i hi => h i (by omega))]
theorem trA_lt2 {g : Nat → Nat} {W n : Nat} (h1 : W < 2 ^ n) (hn : n ≤ 14) (k : Nat) : trA g W k < 2 ^ n := trA_n h1 (w14 h1 hn) k
/-- the trees as the model tells of them -/
noncomputable def tvX (g : Nat → Nat) (W n S a : Nat) : Nat → Int32
  | 0 => nI S
  | 1 => nI (pc S)
  | 2 => nI (V g S)
  | 3 => nI a
  | 4 => mrR (miQ g W n S) n (-1)
  | 5 => nI (lwA g S n)
  | _ => 0
noncomputable def tvR (g : Nat → Nat) (W n : Nat) (tr : Nat → Nat) (t w : Nat) : Int32 := tvX g W n (tr t) (alk g tr n t) w
noncomputable def cnR (ss : Nat → Nat) (sn : Nat) : Nat → Int32
  | 0 => nI (ss 0)
  | 1 => nI (pc (ss 1))
  | 2 => nI (eIn (gS ss) (ss 1) (ss 0) / 2)
  | 3 => nI (trC (gS ss) (ss 1))
  | 4 => nI (clN (gS ss) (trA (gS ss) (ss 1)) (ss 0) (trC (gS ss) (ss 1)))
  | 5 => nI (V (gS ss) (ss 1))
  | 6 => nI (mxS (gS ss) (ss 1) (trC (gS ss) (ss 1)))
  | 7 => nI (if T (gS ss) (ss 1) < 4096 then 0 else 1)
  | 8 => nI (ss 2)
  | 9 => nI (ss 3)
  | 10 => nI (wd (wnP (gS ss) (ss 1)) (ss 0) (ss 0))
  | 11 => nI sn
  | _ => 0
