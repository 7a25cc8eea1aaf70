/-! texts -/
def fstF (p : Nat → Bool) : Nat → Nat → Nat
  | 0, k => k
  | f + 1, k => if p k then k else fstF p f (k + 1)
def fst (p : Nat → Bool) (n : Nat) : Nat := fstF p n 0
theorem fstF_eq {p : Nat → Bool} : ∀ {f k j : Nat}, k ≤ j → j < k + f → p j = true → (∀ i, k ≤ i → i < j → p i = false) → fstF p f k = j
  | 0, k, j, h1, h2, _, _ => by omega
  | f + 1, k, j, h1, h2, h3, h4 => by
    rw [fstF]
    by_cases e : k = j
    · subst e; rw [if_pos h3]
    · rw [if_neg (by rw [h4 k (Nat.le_refl _) (by omega)]; decide)]
      exact fstF_eq (by omega) (by omega) h3 (fun i h5 h6 => h4 i (by omega) h6)
theorem fstF_all {p : Nat → Bool} : ∀ {f k : Nat}, (∀ i, k ≤ i → i < k + f → p i = false) → fstF p f k = k + f
  | 0, k, _ => rfl
  | f + 1, k, h => by
    rw [fstF, if_neg (by rw [h k (Nat.le_refl _) (by omega)]; decide), fstF_all (fun i h5 h6 => h i (by omega) (by omega))]
    omega
theorem fst_eq {p : Nat → Bool} {n k : Nat} (hk : k < n) (h : p k = true) (hl : ∀ i, i < k → p i = false) : fst p n = k := fstF_eq (Nat.zero_le _) (by omega) h (fun i _ h6 => hl i h6)
theorem fst_all {p : Nat → Bool} {n : Nat} (hl : ∀ i, i < n → p i = false) : fst p n = n := by
  have := fstF_all (p := p) (f := n) (k := 0) (fun i _ h6 => hl i (by omega))
  rw [Nat.zero_add] at this
  exact this
theorem fst_le {p : Nat → Bool} {n : Nat} : fst p n ≤ n := by
  by_cases h : ∃ k, k < n ∧ p k = true ∧ ∀ i, i < k → p i = false
  · obtain ⟨k, h1, h2, h3⟩ := h
    rw [fst_eq h1 h2 h3]; omega
  · rw [fst_all (fun i hi => ?_)]
    · exact Nat.le_refl _
    · induction i using Nat.strongRecOn with
      | _ i ih =>
        cases e : p i
        · rfl
        · exact absurd ⟨i, hi, e, fun j hj => ih j hj (by omega)⟩ h
/-- the character of a node without, or with, a lesser neighbour -/
def chO (o : Option Nat) : Nat := match o with
  | none => 46
  | some k => 97 + k
theorem oI_none {o : Option Nat} (ho : ∀ k, o = some k → k < 14) (h : oI o = -1) : o = none := by
  cases o with
  | none => rfl
  | some k => exact absurd h (nI_m1 (by have := ho k rfl; omega))
theorem oI_some {o : Option Nat} (h : oI o ≠ -1) : ∃ k, o = some k := by
  cases o with
  | none => exact absurd rfl h
  | some k => exact ⟨k, rfl⟩
theorem lsr_lt {g : Nat → Nat} (hg : ∀ i, i < 14 → g i < 16384) {v : Nat} (hv : v < 14) : ∀ k, lsr g v = some k → k < 14 := by
  intro k h
  rw [lsr] at h
  by_cases e : g v &&& (2 ^ v - 1) = 0
  · rw [if_pos e] at h; cases h
  · rw [if_neg e] at h
    obtain rfl := Option.some.inj h
    exact (low_spec (and_lt _ (hg _ hv)) e).1
/-- what is no character of a node -/
def wrg (tx : Nat → Nat) (k : Nat) : Bool := !(decide (tx k = 46)) && !(decide (97 ≤ tx k) && decide (tx k - 97 < k))
def lsA (tx : Nat → Nat) (k : Nat) : Int32 := if tx k = 46 then -1 else if 97 ≤ tx k ∧ tx k - 97 < k then nI (tx k - 97) else -2
theorem lsA_46 {tx : Nat → Nat} {k : Nat} (h : tx k = 46) : lsA tx k = -1 := by rw [lsA, if_pos h]
theorem lsA_ok {tx : Nat → Nat} {k : Nat} (h : tx k ≠ 46) (h1 : 97 ≤ tx k) (h2 : tx k - 97 < k) : lsA tx k = nI (tx k - 97) := by rw [lsA, if_neg h, if_pos ⟨h1, h2⟩]
theorem lsA_no {tx : Nat → Nat} {k : Nat} (h : tx k ≠ 46) (h1 : ¬ (97 ≤ tx k ∧ tx k - 97 < k)) : lsA tx k = -2 := by rw [lsA, if_neg h, if_neg h1]
theorem nI_m2 {a : Nat} (h : a < 2147483648) : nI a ≠ -2 := fun e => by
  have h2 := nI_toInt h
  rw [e] at h2
  have : (-2 : Int32).toInt = -2 := by decide
  omega
theorem lsA_iff {tx : Nat → Nat} {k : Nat} (hk : k < 14) : lsA tx k = -2 ↔ wrg tx k = true := by
  rw [lsA, wrg]
  by_cases h : tx k = 46
  · rw [if_pos h]; simp [h]
  · rw [if_neg h]
    by_cases h1 : 97 ≤ tx k ∧ tx k - 97 < k
    · rw [if_pos h1]
      simp only [h, h1.1, h1.2, decide_true, decide_false, Bool.not_false, Bool.and_self, Bool.not_true, Bool.and_false, Bool.false_eq_true, iff_false]
      exact nI_m2 (by omega)
    · rw [if_neg h1]
      simp only [h, decide_false, Bool.not_false, Bool.true_and, Bool.not_eq_true', true_iff]
      rcases Nat.lt_or_ge (tx k) 97 with q | q
      · simp; omega
      · have : ¬ tx k - 97 < k := fun z => h1 ⟨q, z⟩
        simp [this]
theorem ch_neg {c : Nat} (hc : c < 1073741824) : nI c - nI 97 < 0 ↔ c < 97 := by
  constructor
  · intro h
    rcases Nat.lt_or_ge c 97 with q | q
    · exact q
    · rw [ni_sub q] at h
      exact absurd h (nI_pos (by omega))
  · exact fun h => pk_sneg (by decide) h
/-! saved states: a ring of six rows -/
def upG {α : Type} (f : Nat → α) (k : Nat) (v : α) : Nat → α := fun i => if i = k then v else f i
def svO (ho hs : Nat) : Nat := if 6 ≤ hs then (ho + 1) % 6 else ho
def svS (hs : Nat) : Nat := if 6 ≤ hs then 5 else hs
theorem svO_lt {ho : Nat} (hs : Nat) (h : ho < 6) : svO ho hs < 6 := by rw [svO]; split <;> omega
theorem svS_lt {hs : Nat} : svS hs < 6 := by rw [svS]; split <;> omega
theorem six {j : Nat} (h : j < 6) : j = 0 ∨ j = 1 ∨ j = 2 ∨ j = 3 ∨ j = 4 ∨ j = 5 := by omega
section TPV
variable {p : Program} {l : Launch} {e : Env} {R : Room} {s : State} {m : MethodId} {args : Array Value} {below : List Frame} {meth : Method} {c : Code} {H : Heap} {locs : List Loc} {cells slots : Nat} {Q : State → Prop} {pc : Nat} {ls : Array Slot} {rest : List Value}
theorem tp_v {x y : Value} (h : x = y) (k : W p l e R s m args below meth c H locs cells slots Q (F0 m pc ls (y :: rest))) : W p l e R s m args below meth c H locs cells slots Q (F0 m pc ls (x :: rest)) := by subst h; exact k
end TPV
theorem va_rf_at {f : Nat → Option Nat} {j b k : Nat} (hj : j = k) (hk : j < 2147483648) (h : f k = some b) : va_rf (f (nI j).toNatClampNeg) = .ref b := by
  subst hj
  rw [nI_clamp hk, h]
  rfl
