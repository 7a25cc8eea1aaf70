/-! small things of the model -/
def gz (b1 b2 : Bool) : Nat := if b1 then (if b2 then 0 else 2) else 1
theorem gz_lt (b1 b2 : Bool) : gz b1 b2 < 2147483648 := by cases b1 <;> cases b2 <;> decide
def lwD (S : Nat) : Nat → Int32
  | 0 => -1
  | d + 1 => if S.testBit (13 - d) then nI (13 - d) else lwD S d
def dn (d : Nat) : Int32 := if d = 14 then -1 else nI (13 - d)
theorem dn_0 : nI 13 = dn 0 := rfl
theorem dn_neg {d : Nat} (hd : d ≤ 14) : dn d < 0 ↔ d = 14 := by
  rw [dn]
  by_cases h : d = 14
  · rw [if_pos h]; exact ⟨fun _ => h, fun _ => by decide⟩
  · rw [if_neg h]; exact ⟨fun q => absurd q (nI_pos (by omega)), fun q => absurd q h⟩
theorem dn_lt {d : Nat} (hd : d < 14) : dn d = nI (13 - d) := by rw [dn, if_neg (by omega)]
theorem dn_s {d : Nat} (hd : d < 14) : nI (13 - d) + Int32.ofInt (-1) = dn (d + 1) := by
  by_cases h : d = 13
  · subst h; decide
  · rw [dn_lt (show d + 1 < 14 by omega), idec_N (n := 1) (by decide) (by omega)]
    congr 1
theorem lwD_none : ∀ d, lwD 0 d = -1
  | 0 => rfl
  | d + 1 => by rw [lwD, Nat.zero_testBit, if_neg (by decide), lwD_none d]
theorem lwD_at {S k : Nat} (hk : k < 14) (h : S.testBit k = true) (hl : ∀ i, i < k → S.testBit i = false) : ∀ d, 14 ≤ d + k → d ≤ 14 → lwD S d = nI k
  | 0, h1, _ => by omega
  | d + 1, h1, h2 => by
    rw [lwD]
    by_cases e : 13 - d = k
    · rw [e, if_pos h]
    · rw [hl (13 - d) (by omega), if_neg (by decide)]
      exact lwD_at hk h hl d (by omega) (by omega)
def loI (S : Nat) : Int32 := if S = 0 then -1 else nI (low S)
theorem lwD_14 {S : Nat} (hS : S < 16384) : lwD S 14 = loI S := by
  rw [loI]
  by_cases h : S = 0
  · subst h; rw [if_pos rfl, lwD_none]
  · rw [if_neg h]
    obtain ⟨a, b, c⟩ := low_spec hS h
    exact lwD_at a b c 14 (by omega) (Nat.le_refl _)
def isN (n : Nat) (x : Int32) : Bool := decide (0 ≤ x.toInt ∧ x.toInt < n)
theorem isN_eq {n : Nat} (hn : n ≤ 14) (x : Int32) : decide (nI 0 ≤ x ∧ x ≤ nI n - nI 1) = isN n x := by
  rw [isN, decide_eq_decide, Int32.le_iff_toInt_le, Int32.le_iff_toInt_le, pk_sub_toInt (by omega) (by omega), nI_toInt (by omega)]
  omega
theorem isN_iff {n : Nat} {x : Int32} (hn : n ≤ 14) : isN n x = true ↔ ∃ k, k < n ∧ x = nI k := by
  rw [isN, decide_eq_true_eq]
  constructor
  · rintro ⟨h1, h2⟩
    refine ⟨x.toInt.toNat, by omega, ?_⟩
    apply Int32.toInt_inj.mp
    rw [nI_toInt (by omega)]
    omega
  · rintro ⟨k, h1, rfl⟩
    rw [nI_toInt (by omega)]
    omega
