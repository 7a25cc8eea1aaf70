/-! graphs out of texts -/
def ldG (tx : Nat → Nat) : Nat → (Nat → Nat)
  | 0 => fun _ => 0
  | k + 1 => if tx k = 46 then ldG tx k else lk2 (ldG tx k) k (tx k - 97) true
theorem grow_th (k : Nat) : (2 ^ k - 1) ||| 2 ^ k = 2 ^ (k + 1) - 1 := by
  apply Nat.eq_of_testBit_eq
  intro i
  rw [Nat.testBit_or, full_bit, full_bit, pow_bit]
  by_cases e : i < k
  · rw [decide_eq_true e, decide_eq_true (show i < k + 1 by omega), Bool.true_or]
  · by_cases e2 : k = i
    · rw [decide_eq_true e2, decide_eq_true (show i < k + 1 by omega), Bool.or_true]
    · rw [decide_eq_false e, decide_eq_false e2, decide_eq_false (show ¬ i < k + 1 by omega)]; rfl
/-- what the class tells of its numbers -/
noncomputable def cnT (g : Nat → Nat) (th n mv hs : Nat) : Nat → Int32
  | 0 => nI n
  | 1 => nI (pc th)
  | 2 => nI (eIn g th 14 / 2)
  | 3 => nI (trC g th)
  | 4 => nI (clN g (trA g th) 14 (trC g th))
  | 5 => nI (V g th)
  | 6 => nI (mxS g th (trC g th))
  | 7 => bI (Mi g th)
  | 8 => nI (mv &&& 1)
  | 9 => nI mv
  | 10 => nI (cnt (wnP g th) n)
  | 11 => nI hs
  | _ => 0
noncomputable def ndT (g : Nat → Nat) (th v : Nat) : Nat → Int32
  | 0 => nI (th.testBit v).toNat
  | 1 => if th.testBit v then nI (g v &&& th) else nI 0
  | 2 => if th.testBit v then nI (trN g th v) else -1
  | 3 => if th.testBit v then nI (V g (lft g th v)) else -1
  | 4 => if th.testBit v then bI (wnP g th v) else -1
  | 5 => if th.testBit v then bI (!Mi g (lft g th v)) else -1
  | _ => 0
noncomputable def tvT (g : Nat → Nat) (th t : Nat) : Nat → Int32
  | 0 => nI (trA g th t)
  | 1 => nI (pc (trA g th t))
  | 2 => nI (V g (trA g th t))
  | 3 => nI (alk g (trA g th) 14 t)
  | 4 => nI (outM (miQ g th 14 (trA g th t)) 14 (-1) 14).1
  | 5 => nI (lwA g (trA g th t) 14)
  | _ => 0
/-- which mirror a rank names -/
noncomputable def mrC (g : Nat → Nat) (th n : Nat) (R : Int32) : Int32 := (outM (miB g th 14) n R n).2
/-! the first pair at a rank is the only one -/
theorem innM_stop {q : Nat → Nat → Bool} {i : Nat} {R : Int32} {s : Nat × Int32} (h : ∀ m, s.1 ≤ m → m < 2147483648 → nI m ≠ R) : ∀ j, s.1 + j < 2147483648 → (innM q i R s j).2 = s.2 ∧ s.1 ≤ (innM q i R s j).1
  | 0, _ => ⟨rfl, Nat.le_refl _⟩
  | j + 1, hj => by
    obtain ⟨a, b⟩ := innM_stop (q := q) (i := i) h j (by omega)
    have c := innM_le (q := q) (i := i) (R := R) (s := s) j
    rw [innM]
    split
    · rw [if_neg (h _ b (by omega))]
      exact ⟨a, by show s.1 ≤ _ + 1; omega⟩
    · exact ⟨a, b⟩
theorem nI_past {b m : Nat} (hm : b + 1 ≤ m) (h : m < 2147483648) : nI m ≠ nI b := fun e => by
  have := (nI_eq (by omega) (by omega)).mp e
  omega
theorem innM_mid {q : Nat → Nat → Bool} {i j : Nat} {R : Int32} {s : Nat × Int32} (hs : s.1 < 1000) (hj : j < 14) (hij : i < j) (hq : q i j = true) (he : nI (innM q i R s j).1 = R) : ∀ d, j + 1 + d ≤ 14 → (innM q i R s (j + 1 + d)).2 = nI (100 * i + j) ∧ (innM q i R s j).1 + 1 ≤ (innM q i R s (j + 1 + d)).1
  | 0, _ => by
    rw [Nat.add_zero, innM_t hij hq, if_pos he]
    exact ⟨rfl, Nat.le_refl _⟩
  | d + 1, hd => by
    obtain ⟨a, b⟩ := innM_mid hs hj hij hq he d (by omega)
    have c := innM_le (q := q) (i := i) (R := R) (s := s) (j + 1 + d)
    rw [show j + 1 + (d + 1) = (j + 1 + d) + 1 by omega, innM]
    split
    · rw [if_neg (fun q9 => nI_past b (by omega) (q9.trans he.symm))]
      exact ⟨a, by show _ ≤ _ + 1; omega⟩
    · exact ⟨a, b⟩
theorem outM_mid {q : Nat → Nat → Bool} {n i j : Nat} {R : Int32} (hn : n ≤ 14) (hi : i < n) (hjn : j < n) (hij : i < j) (hq : q i j = true) (he : nI (innM q i R (outM q n R i) j).1 = R) : ∀ d, i + 1 + d ≤ n → (outM q n R (i + 1 + d)).2 = nI (100 * i + j) ∧ (innM q i R (outM q n R i) j).1 + 1 ≤ (outM q n R (i + 1 + d)).1
  | 0, _ => by
    have h0 := outM_le (q := q) (R := R) hn i
    have h1 := innM_mid (s := outM q n R i) (by omega) (show j < 14 by omega) hij hq he (n - (j + 1)) (by omega)
    rw [show j + 1 + (n - (j + 1)) = n by omega] at h1
    rw [Nat.add_zero, outM]
    exact h1
  | d + 1, hd => by
    obtain ⟨a, b⟩ := outM_mid hn hi hjn hij hq he d (by omega)
    have h0 := outM_le (q := q) (R := R) hn (i + 1 + d)
    have h1 := innM_stop (q := q) (i := i + 1 + d) (R := R) (s := outM q n R (i + 1 + d)) (fun m hm hm2 q9 => nI_past (Nat.le_trans b hm) hm2 (q9.trans he.symm)) n (by omega)
    rw [show i + 1 + (d + 1) = (i + 1 + d) + 1 by omega, outM]
    exact ⟨h1.1.trans a, by omega⟩
theorem mrC_hit {g : Nat → Nat} {th n i j : Nat} {R : Int32} (hn : n ≤ 14) (hi : i < n) (hjn : j < n) (hij : i < j) (hq : miB g th 14 i j = true) (he : nI (innM (miB g th 14) i R (outM (miB g th 14) n R i) j).1 = R) : mrC g th n R = nI (100 * i + j) := by
  have h := (outM_mid hn hi hjn hij hq he (n - (i + 1)) (by omega)).1
  rw [show i + 1 + (n - (i + 1)) = n by omega] at h
  exact h
/-- no pair so far is at the rank -/
def noM (q : Nat → Nat → Bool) (n : Nat) (R : Int32) (s : Nat × Int32) : Prop := s.2 = -1
theorem innM_none {q : Nat → Nat → Bool} {i j : Nat} {R : Int32} {s : Nat × Int32} (hij : i < j) (hq : q i j = true) (he : nI (innM q i R s j).1 ≠ R) : (innM q i R s (j + 1)).2 = (innM q i R s j).2 := by
  rw [innM_t hij hq, if_neg he]
theorem cnt_wd (q : Nat → Bool) (n : Nat) : ∀ d, d ≤ n → cnt q (n - d) + wd q n d = cnt q n
  | 0, _ => by rw [wd]; simp
  | d + 1, hd => by
    have ih := cnt_wd q n d (by omega)
    rw [show n - d = (n - 1 - d) + 1 by omega, cnt] at ih
    rw [wd, show n - (d + 1) = n - 1 - d by omega]
    by_cases e : q (n - 1 - d) = true
    · rw [if_pos e] at ih ⊢; omega
    · rw [if_neg e] at ih ⊢; omega
theorem wd_cnt (q : Nat → Bool) (n : Nat) : wd q n n = cnt q n := by
  have h := cnt_wd q n n (Nat.le_refl _)
  rw [Nat.sub_self, cnt] at h
  omega
theorem cnt_pc {g : Nat → Nat} {W n : Nat} (hn : n ≤ 14) : cnt (wnP g W) n ≤ pc W := by
  rw [← wd_cnt]
  exact wd_pc hn
