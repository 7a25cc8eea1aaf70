/-! the misere game, as the class tries it -/
theorem lone_same {g : Nat → Nat} (hsy : ∀ i, i < 14 → ∀ j, j < 14 → (g i).testBit j = (g j).testBit i) {S i k : Nat} (hS : S < 16384) (hi : S.testBit i = true) (hk : S.testBit k = true) (li : g i &&& S = 0) (lk : g k &&& S = 0) : Mi g (lft g S i) = Mi g (lft g S k) := by
  by_cases e : i = k
  · subst e; rfl
  · have hi14 := bit_in hS hi
    have hk14 := bit_in hS hk
    have no : ∀ {u}, g u &&& S = 0 → ∀ j, S.testBit j = true → (g u).testBit j = false := fun {u} h j hj => by
      have h2 : (g u &&& S).testBit j = false := by rw [h, Nat.zero_testBit]
      rw [Nat.testBit_and, hj, Bool.and_true] at h2
      exact h2
    have ek : lft g S i = sd (sd S (2 ^ i)) (2 ^ k) ||| 2 ^ k := by
      apply Nat.eq_of_testBit_eq
      intro j
      rw [lft_bit, Nat.testBit_or, sd_bit, sd_bit, pow_bit, pow_bit]
      cases hj : S.testBit j
      · by_cases q : k = j
        · subst q; rw [hk] at hj; cases hj
        · simp [q]
      · rw [no li j hj]
        by_cases q : k = j
        · subst q; simp [e]
        · simp [q]
    have ei : lft g S k = sd (sd S (2 ^ i)) (2 ^ k) ||| 2 ^ i := by
      apply Nat.eq_of_testBit_eq
      intro j
      rw [lft_bit, Nat.testBit_or, sd_bit, sd_bit, pow_bit, pow_bit]
      cases hj : S.testBit j
      · by_cases q : i = j
        · subst q; rw [hi] at hj; cases hj
        · simp [q]
      · rw [no lk j hj]
        by_cases q : i = j
        · subst q
          have : ¬ k = i := fun z => e z.symm
          simp [this]
        · simp [q]
    have hU := sd_14 (2 ^ k) (sd_14 (2 ^ i) hS)
    rw [ek, ei]
    refine lone g hsy _ _ k i rfl hU hk14 hi14 (by rw [sd_bit, pow_bit]; simp) (by rw [sd_bit, sd_bit, pow_bit]; simp) (fun j hj => ?_)
    have hjS := sd_in (sd_in hj)
    exact ⟨no lk j hjS, no li j hjS⟩
/-- so far no move wins; a lone node that was tried -/
def mInv (g : Nat → Nat) (S k : Nat) (t : Bool) : Prop := (∀ i, i < k → S.testBit i = true → Mi g (lft g S i) = true) ∧ (t = true → ∃ i, S.testBit i = true ∧ g i &&& S = 0 ∧ Mi g (lft g S i) = true)
theorem mInv_0 (g : Nat → Nat) (S : Nat) : mInv g S 0 false := ⟨fun i h => absurd h (Nat.not_lt_zero _), fun h => by cases h⟩
theorem mInv_no {g : Nat → Nat} {S k : Nat} {t : Bool} (h : mInv g S k t) (hk : S.testBit k = false) : mInv g S (k + 1) t := ⟨fun i hi hb => by
  by_cases e : i = k
  · subst e; rw [hk] at hb; cases hb
  · exact h.1 i (by omega) hb, h.2⟩
theorem mInv_lone {g : Nat → Nat} (hsy : ∀ i, i < 14 → ∀ j, j < 14 → (g i).testBit j = (g j).testBit i) {S k : Nat} (hS : S < 16384) (h : mInv g S k true) (hk : S.testBit k = true) (lk : g k &&& S = 0) : mInv g S (k + 1) true := ⟨fun i hi hb => by
  by_cases e : i = k
  · subst e
    obtain ⟨j, h1, h2, h3⟩ := h.2 rfl
    rw [lone_same hsy hS hb h1 lk h2]; exact h3
  · exact h.1 i (by omega) hb, h.2⟩
theorem mInv_try {g : Nat → Nat} {S k : Nat} {t : Bool} (h : mInv g S k t) (hm : Mi g (lft g S k) = true) : mInv g S (k + 1) t := ⟨fun i hi hb => by
  by_cases e : i = k
  · subst e; exact hm
  · exact h.1 i (by omega) hb, h.2⟩
theorem mInv_tryl {g : Nat → Nat} {S k : Nat} {t : Bool} (h : mInv g S k t) (hk : S.testBit k = true) (hm : Mi g (lft g S k) = true) (lk : g k &&& S = 0) : mInv g S (k + 1) true := ⟨(mInv_try h hm).1, fun _ => ⟨k, hk, lk, hm⟩⟩
theorem mInv_end {g : Nat → Nat} {S : Nat} {t : Bool} (hS : S < 16384) (h0 : S ≠ 0) (h : mInv g S 14 t) : Mi g S = false := by
  cases e : Mi g S
  · rfl
  · obtain ⟨k, h1, h2⟩ := (Mi_iff hS h0).mp e
    rw [h.1 k (bit_in hS h1) h1] at h2; cases h2
theorem mis_win {g : Nat → Nat} {S k : Nat} (hS : S < 16384) (hk : S.testBit k = true) (h : Mi g (lft g S k) = false) : Mi g S = true := (Mi_iff hS (ne0 hk)).mpr ⟨k, hk, h⟩
theorem ok_insm {g : Nat → Nat} {S x : Nat} (hS : S < 16384) (h : okE g S x) : ∃ y, x ||| ((if Mi g S then 67108864 else 0) ||| 33554432) = y ∧ okE g S y ∧ (y &&& 67108864 = 0 ↔ Mi g S = false) ∧ y < 134217728 := by
  obtain ⟨a, b, rfl⟩ := h
  have fin : ∀ y, y = (if a then pkS g S else 0) + 16777216 * (a.toNat + 2 * true.toNat + 4 * (true && Mi g S).toNat) → okE g S y ∧ (y &&& 67108864 = 0 ↔ Mi g S = false) ∧ y < 134217728 := fun y hy => by
    subst hy
    refine ⟨⟨a, true, rfl⟩, ?_, okE_lt hS ⟨a, true, rfl⟩⟩
    rw [ok_mw hS a true, Bool.true_and]
  cases b
  · exact ⟨_, rfl, fin _ (ok_putm hS a)⟩
  · refine ⟨_, rfl, fin _ ?_⟩
    have e : ((if Mi g S then 67108864 else 0) ||| 33554432) = 16777216 * (2 + 4 * (Mi g S).toNat) := by cases Mi g S <;> decide
    rw [e, or_fl (fl_lt g hS a), Bool.true_and]
    have : ∀ a c : Bool, (a.toNat + 2 * true.toNat + 4 * c.toNat) ||| (2 + 4 * c.toNat) = a.toNat + 2 * true.toNat + 4 * c.toNat := by decide
    rw [this]
theorem ok_gotm {g : Nat → Nat} {S x : Nat} (hS : S < 16384) (h : okE g S x) (hk : x &&& 33554432 ≠ 0) : (x &&& 67108864 = 0 ↔ Mi g S = false) ∧ x < 134217728 := by
  obtain ⟨a, b, rfl⟩ := h
  refine ⟨?_, okE_lt hS ⟨a, b, rfl⟩⟩
  cases b
  · exact absurd ((ok_mk hS a false).mpr rfl) hk
  · rw [ok_mw hS a true, Bool.true_and]
theorem bI_or (b : Bool) : bI b ||| nI 1 = bI true := by cases b <;> decide
theorem bI_or0 (b : Bool) : bI b ||| nI 0 = bI b := by cases b <;> decide
theorem nf_t {b : Bool} (h : ¬ b = false) : b = true := by cases b <;> simp_all
