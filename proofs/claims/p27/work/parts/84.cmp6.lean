theorem trL_no {g : Nat → Nat} {W k x : Nat} (hk : trL g W k ≠ 0) : ∀ d, (trL g W (k + 1 + d)).testBit x = true → (trT g W k).testBit x = false
  | 0, h => by
    have h : (trL g W (k + 1)).testBit x = true := h
    rw [trL, sd_bit, ← trT, Bool.and_eq_true] at h
    cases hb : (trT g W k).testBit x
    · rfl
    · rw [hb] at h; exact absurd h.2 (by decide)
  | d + 1, h => by
    have h : (trL g W (k + 1 + d + 1)).testBit x = true := h
    rw [trL, sd_bit, Bool.and_eq_true] at h
    exact trL_no hk d h.1
theorem trA_dis {g : Nat → Nat} (hs : symG g) {W v k j : Nat} (hW : W < 16384) (hkj : k < j) (hv : (trA g W k).testBit v = true) : (trA g W j).testBit v = false := by
  cases hb : (trA g W j).testBit v
  · rfl
  · have hk0 : trL g W k ≠ 0 := fun q => by rw [trA, if_pos q, Nat.zero_testBit] at hv; cases hv
    have hj0 : trL g W j ≠ 0 := fun q => by rw [trA, if_pos q, Nat.zero_testBit] at hb; cases hb
    rw [trA_is hk0] at hv
    rw [trA_is hj0] at hb
    have sj := low_spec (trL_lt g hW j) hj0
    have wj := trL_in sj.2.1
    have a1 := ((comp_bit g W _ v).mp hv).2
    have a2 := rch_sym hs hW wj ((comp_bit g W _ v).mp hb).2
    have a3 : (trT g W k).testBit (low (trL g W j)) = true := (comp_bit g W _ _).mpr ⟨sj.1, rch_trans a1 a2⟩
    have a4 := trL_no hk0 (j - k - 1) (x := low (trL g W j)) (by rw [show k + 1 + (j - k - 1) = j by omega]; exact sj.2.1)
    rw [a3] at a4
    cases a4
