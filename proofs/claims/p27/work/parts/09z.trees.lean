/-! trees by their numbers -/
noncomputable def trA (g : Nat → Nat) (W k : Nat) : Nat := if trL g W k = 0 then 0 else trT g W k
theorem trA_lt (g : Nat → Nat) (W k : Nat) : trA g W k < 16384 := by
  rw [trA]; split
  · decide
  · exact trT_lt g W k
theorem trL_up {g : Nat → Nat} {W k j : Nat} (h : trL g W k = 0) (hj : k ≤ j) : trL g W j = 0 := by
  obtain ⟨d, rfl⟩ := Nat.le.dest hj
  clear hj
  induction d with
  | zero => exact h
  | succ d ih => exact trL_0 ih
theorem trA_0 {g : Nat → Nat} {W k : Nat} (hW : W < 16384) : trA g W k = 0 ↔ trL g W k = 0 := by
  rw [trA]
  by_cases h : trL g W k = 0
  · rw [if_pos h]; exact ⟨fun _ => h, fun _ => rfl⟩
  · rw [if_neg h]; exact ⟨fun q => absurd q (trT_ne hW h), fun q => absurd q h⟩
theorem trA_up {g : Nat → Nat} {W k j : Nat} (h : trL g W k = 0) (hj : k ≤ j) : trA g W j = 0 := by rw [trA, if_pos (trL_up h hj)]
theorem trA_is {g : Nat → Nat} {W k : Nat} (h : trL g W k ≠ 0) : trA g W k = comp g W (low (trL g W k)) := by rw [trA, if_neg h]; rfl
theorem trA_in {g : Nat → Nat} {W k i : Nat} (hW : W < 16384) (hi : (trA g W k).testBit i = true) : W.testBit i = true := by
  by_cases h : trL g W k = 0
  · rw [trA, if_pos h, Nat.zero_testBit] at hi; cases hi
  · rw [trA, if_neg h] at hi; exact trT_in hW h hi
theorem trC_eq {g : Nat → Nat} {W k : Nat} (hW : W < 16384) (h : trL g W k = 0) (hl : ∀ i, i < k → trL g W i ≠ 0) : trC g W = k := by
  rcases Nat.lt_trichotomy (trC g W) k with q | q | q
  · exact absurd (trL_z hW (Nat.le_refl (trC g W))) (hl _ q)
  · exact q
  · exact absurd h ((trC_iff hW).mpr q)
theorem tr_cover {g : Nat → Nat} {W v : Nat} (hW : W < 16384) (hv : W.testBit v = true) : ∃ k, k < 14 ∧ (trA g W k).testBit v = true := by
  have key : ∀ k, (trL g W k).testBit v = true ∨ ∃ j, j < k ∧ (trA g W j).testBit v = true := by
    intro k
    induction k with
    | zero => exact Or.inl hv
    | succ k ih =>
      rcases ih with h | ⟨j, h1, h2⟩
      · have h0 : trL g W k ≠ 0 := ne0 h
        cases e : (comp g W (low (trL g W k))).testBit v
        · left
          rw [trL, sd_bit, h, e]; rfl
        · right
          exact ⟨k, by omega, by rw [trA_is h0]; exact e⟩
      · exact Or.inr ⟨j, by omega, h2⟩
  rcases key 14 with h | h
  · rw [trL_14 g hW, Nat.zero_testBit] at h; cases h
  · exact h
noncomputable def trN (g : Nat → Nat) (W v : Nat) : Nat := low (mk (fun k => (trA g W k).testBit v) 14)
theorem trN_eq {g : Nat → Nat} {W v k : Nat} (hk : k < 14) (h : (trA g W k).testBit v = true) (hl : ∀ i, i < k → (trA g W i).testBit v = false) : trN g W v = k :=
  low_eq hk (by rw [mk_bit, h]; simp [hk]) (fun i hi => by rw [mk_bit, hl i hi]; simp)
theorem pc_mono {S U : Nat} (h : ∀ i, S.testBit i = true → U.testBit i = true) : pc S ≤ pc U := pcn_mono h 14
def lsr (g : Nat → Nat) (v : Nat) : Option Nat := if g v &&& (2 ^ v - 1) = 0 then none else some (low (g v &&& (2 ^ v - 1)))
def wrt (g : Nat → Nat) : Nat → Bool
  | 0 => true
  | k + 1 => wrt g k && decide (pc (g k &&& (2 ^ k - 1)) ≤ 1)
theorem wrt_iff {g : Nat → Nat} : ∀ n, wrt g n = true ↔ ∀ i, i < n → pc (g i &&& (2 ^ i - 1)) ≤ 1
  | 0 => ⟨fun _ i hi => absurd hi (Nat.not_lt_zero _), fun _ => rfl⟩
  | n + 1 => by
    rw [wrt, Bool.and_eq_true, wrt_iff n, decide_eq_true_eq]
    exact ⟨fun h i hi => by
      by_cases e : i = n
      · subst e; exact h.2
      · exact h.1 i (by omega), fun h => ⟨fun i hi => h i (by omega), h n (by omega)⟩⟩
theorem wrt_no {g : Nat → Nat} {n k : Nat} (hk : k < n) (h : 1 < pc (g k &&& (2 ^ k - 1))) : wrt g n = false := by
  cases e : wrt g n
  · rfl
  · have := (wrt_iff n).mp e k hk
    omega
theorem full_bit {n i : Nat} : (2 ^ n - 1).testBit i = decide (i < n) := Nat.testBit_two_pow_sub_one n i
theorem full_lt {n : Nat} (h : n ≤ 14) : 2 ^ n - 1 < 16384 := by
  have := pow_15 h
  have : 0 < 2 ^ n := Nat.pow_pos (by omega)
  omega
theorem cpy14 {f f2 : Nat → Int32} {i : Nat} (h : i < 14) : va_cpy f f2 (nI 0).toNatClampNeg (nI 0).toNatClampNeg (nI 14).toNatClampNeg i = f i := by
  rw [nI_clamp (by omega), nI_clamp (by omega), pk_cpy_in (Nat.zero_le _) (by omega)]
  congr 1
  omega
