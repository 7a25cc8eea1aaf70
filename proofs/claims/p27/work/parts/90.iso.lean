/-! trees that are alike: a map that keeps neighbours keeps values and ways -/
noncomputable def img (f : Nat → Nat) (S : Nat) : Nat := mk (fun j => @decide (∃ i, i < 14 ∧ S.testBit i = true ∧ f i = j) (Classical.propDecidable _)) 14
theorem img_bit {f : Nat → Nat} {S j : Nat} : (img f S).testBit j = true ↔ j < 14 ∧ ∃ i, i < 14 ∧ S.testBit i = true ∧ f i = j := by
  rw [img, mk_bit]
  simp only [Bool.and_eq_true, decide_eq_true_eq]
theorem img_lt (f : Nat → Nat) (S : Nat) : img f S < 16384 := mk_lt _ 14
def isoG (g : Nat → Nat) (A B : Nat) (f : Nat → Nat) : Prop := (∀ i, A.testBit i = true → B.testBit (f i) = true) ∧ (∀ i j, A.testBit i = true → A.testBit j = true → f i = f j → i = j) ∧ (∀ j, B.testBit j = true → ∃ i, A.testBit i = true ∧ f i = j) ∧ (∀ i j, A.testBit i = true → A.testBit j = true → (g i).testBit j = (g (f i)).testBit (f j))
theorem bool_iff {a b : Bool} (h : a = true ↔ b = true) : a = b := by
  cases a <;> cases b <;> simp at h <;> rfl
section ISO
variable {g : Nat → Nat} {A B : Nat} {f : Nat → Nat}
theorem iso_lt (h : isoG g A B f) (hB : B < 16384) {i : Nat} (hi : A.testBit i = true) : f i < 14 := bit_in hB (h.1 i hi)
theorem img_in (h : isoG g A B f) (hA : A < 16384) (hB : B < 16384) {S i : Nat} (hS : ∀ x, S.testBit x = true → A.testBit x = true) (hi : S.testBit i = true) : (img f S).testBit (f i) = true :=
  img_bit.mpr ⟨iso_lt h hB (hS i hi), i, bit_in hA (hS i hi), hi, rfl⟩
theorem img_of (h : isoG g A B f) {S i : Nat} (hS : ∀ x, S.testBit x = true → A.testBit x = true) (hi : A.testBit i = true) (hf : (img f S).testBit (f i) = true) : S.testBit i = true := by
  obtain ⟨-, k, -, hk, e⟩ := img_bit.mp hf
  rw [h.2.1 i k hi (hS k hk) e.symm]
  exact hk
theorem img_sub (h : isoG g A B f) {S j : Nat} (hS : ∀ x, S.testBit x = true → A.testBit x = true) (hj : (img f S).testBit j = true) : ∃ i, S.testBit i = true ∧ A.testBit i = true ∧ f i = j := by
  obtain ⟨-, k, -, hk, e⟩ := img_bit.mp hj
  exact ⟨k, hk, hS k hk, e⟩
theorem img_A (h : isoG g A B f) (hA : A < 16384) (hB : B < 16384) : img f A = B := by
  refine eq_of_bits (img_lt f A) hB (fun j hj => bool_iff ⟨fun z => ?_, fun z => ?_⟩)
  · obtain ⟨i, -, hi, rfl⟩ := img_sub h (fun _ q => q) z
    exact h.1 i hi
  · obtain ⟨i, hi, rfl⟩ := h.2.2.1 j z
    exact img_in h hA hB (fun _ q => q) hi
theorem img_lft (h : isoG g A B f) (hA : A < 16384) (hB : B < 16384) {S k : Nat} (hS : ∀ x, S.testBit x = true → A.testBit x = true) (hk : A.testBit k = true) : lft g (img f S) (f k) = img f (lft g S k) := by
  have hS2 : ∀ x, (lft g S k).testBit x = true → A.testBit x = true := fun x hx => hS x (lft_sub hx)
  refine eq_of_bits (lft_lt _ (img_lt f S)) (img_lt _ _) (fun j hj => bool_iff ⟨fun z => ?_, fun z => ?_⟩)
  · rw [lft_bit] at z
    simp only [Bool.and_eq_true, Bool.not_eq_true', decide_eq_false_iff_not] at z
    obtain ⟨⟨z1, z2⟩, z3⟩ := z
    obtain ⟨i, hi, hia, rfl⟩ := img_sub h hS z1
    refine img_in h hA hB hS2 ?_
    rw [lft_bit, hi, h.2.2.2 k i hk hia, z3, decide_eq_false (fun e => z2 (by rw [e]))]
    rfl
  · obtain ⟨i, hi, hia, rfl⟩ := img_sub h hS2 z
    rw [lft_bit] at hi
    simp only [Bool.and_eq_true, Bool.not_eq_true', decide_eq_false_iff_not] at hi
    obtain ⟨⟨z1, z2⟩, z3⟩ := hi
    rw [lft_bit, img_in h hA hB hS z1, ← h.2.2.2 k i hk hia, z3, decide_eq_false (fun e => z2 (h.2.1 k i hk hia e))]
    rfl
theorem V_iso (h : isoG g A B f) (hA : A < 16384) (hB : B < 16384) : ∀ (n S : Nat), pc S ≤ n → (∀ x, S.testBit x = true → A.testBit x = true) → V g (img f S) = V g S
  | 0, S, hp, hS => by
    have hS4 : S < 16384 := lt_of_bits (k := 14) (fun i hi => by
      cases e : S.testBit i
      · rfl
      · exact absurd (bit_in hA (hS i e)) (by omega))
    have e : S = 0 := by
      by_cases e : S = 0
      · exact e
      · have := pc_pos hS4 e; omega
    subst e
    rw [show img f 0 = 0 from eq0_of_bits (img_lt _ _) (fun j hj => by
      cases z : (img f 0).testBit j
      · rfl
      · obtain ⟨i, hi, -⟩ := img_sub h hS z
        rw [Nat.zero_testBit] at hi; cases hi)]
  | n + 1, S, hp, hS => by
    have hS4 : S < 16384 := lt_of_bits (k := 14) (fun i hi => by
      cases e : S.testBit i
      · rfl
      · exact absurd (bit_in hA (hS i e)) (by omega))
    refine V_uniq (img_lt f S) (fun k hk => ?_) (fun u hu => ?_)
    · obtain ⟨i, hi, hia, rfl⟩ := img_sub h hS hk
      rw [img_lft h hA hB hS hia, V_iso h hA hB n (lft g S i) (by have := lft_pc (g := g) hS4 hi; omega) (fun x hx => hS x (lft_sub hx))]
      exact V_ne hS4 hi
    · obtain ⟨i, hi, e⟩ := V_ex hS4 hu
      refine ⟨f i, img_in h hA hB hS hi, ?_⟩
      rw [img_lft h hA hB hS (hS i hi), V_iso h hA hB n (lft g S i) (by have := lft_pc (g := g) hS4 hi; omega) (fun x hx => hS x (lft_sub hx)), e]
theorem pc_iso (h : isoG g A B f) (hA : A < 16384) (hB : B < 16384) : ∀ (n S : Nat), pc S ≤ n → (∀ x, S.testBit x = true → A.testBit x = true) → pc (img f S) = pc S
  | n, S, hp, hS => by
    have hS4 : S < 16384 := lt_of_bits (k := 14) (fun i hi => by
      cases e : S.testBit i
      · rfl
      · exact absurd (bit_in hA (hS i e)) (by omega))
    by_cases e : S = 0
    · subst e
      rw [show img f 0 = 0 from eq0_of_bits (img_lt _ _) (fun j hj => by
        cases z : (img f 0).testBit j
        · rfl
        · obtain ⟨i, hi, -⟩ := img_sub h hS z
          rw [Nat.zero_testBit] at hi; cases hi)]
    · obtain ⟨i, -, hi⟩ := bit_ex hS4 e
      have p1 := pc_rm hS4 hi
      have p2 := pc_rm (img_lt f S) (img_in h hA hB hS hi)
      have e2 : sd (img f S) (2 ^ f i) = img f (sd S (2 ^ i)) := by
        refine eq_of_bits (sd_14 _ (img_lt f S)) (img_lt _ _) (fun j hj => bool_iff ⟨fun z => ?_, fun z => ?_⟩)
        · obtain ⟨z1, z2⟩ := sd_sub.mp z
          obtain ⟨k, hk, hka, rfl⟩ := img_sub h hS z1
          exact img_in h hA hB (fun x hx => hS x (sd_sub.mp hx).1) (sd_sub.mpr ⟨hk, fun q => z2 (by rw [q])⟩)
        · obtain ⟨k, hk, hka, rfl⟩ := img_sub h (fun x hx => hS x (sd_sub.mp hx).1) z
          obtain ⟨z1, z2⟩ := sd_sub.mp hk
          exact sd_sub.mpr ⟨img_in h hA hB hS z1, fun q => z2 (h.2.1 k i hka (hS i hi) q)⟩
      cases n with
      | zero => have := pc_pos hS4 e; omega
      | succ n =>
        have e3 := pc_iso h hA hB n (sd S (2 ^ i)) (by omega) (fun x hx => hS x (sd_sub.mp hx).1)
        rw [e2, e3] at p2
        omega
theorem nbrs_bit {S j : Nat} : ∀ n, (nbrs g S n).testBit j = true ↔ ∃ i, i < n ∧ S.testBit i = true ∧ (g i).testBit j = true
  | 0 => by
    rw [nbrs, Nat.zero_testBit]
    exact ⟨fun z => (by cases z), fun ⟨b, h1, _⟩ => absurd h1 (Nat.not_lt_zero _)⟩
  | n + 1 => by
    rw [nbrs]
    by_cases e : S.testBit n = true
    · rw [if_pos e, Nat.testBit_or, Bool.or_eq_true, nbrs_bit n]
      constructor
      · rintro (⟨b, h1, h2⟩ | h)
        · exact ⟨b, by omega, h2⟩
        · exact ⟨n, by omega, e, h⟩
      · rintro ⟨b, h1, h2, h3⟩
        by_cases e : b = n
        · subst e; exact Or.inr h3
        · exact Or.inl ⟨b, by omega, h2, h3⟩
    · rw [if_neg e, nbrs_bit n]
      constructor
      · rintro ⟨b, h1, h2⟩; exact ⟨b, by omega, h2⟩
      · rintro ⟨b, h1, h2, h3⟩
        by_cases q : b = n
        · subst q; exact absurd h2 e
        · exact ⟨b, by omega, h2, h3⟩
theorem lwX_in {W r : Nat} (hr : W.testBit r = true) : ∀ t x, (lwX g W r t).testBit x = true → W.testBit x = true
  | 0, x, hx => by
    rw [lwX, pow_bit, decide_eq_true_eq] at hx
    subst hx; exact hr
  | t + 1, x, hx => by
    rw [lwX, Nat.testBit_or, Bool.or_eq_true] at hx
    rcases hx with hx | hx
    · exact lwX_in hr t x hx
    · rw [Nat.testBit_and, Bool.and_eq_true] at hx
      exact hx.2
theorem lwX_14 {W r : Nat} (hW : W < 16384) (hr : W.testBit r = true) (t : Nat) : lwX g W r t < 16384 := lt_of_bits (k := 14) (fun i hi => by
  cases e : (lwX g W r t).testBit i
  · rfl
  · exact absurd (bit_in hW (lwX_in hr t i e)) (by omega))
theorem lwX_iso (h : isoG g A B f) (hA : A < 16384) (hB : B < 16384) {r : Nat} (hr : A.testBit r = true) : ∀ t, lwX g B (f r) t = img f (lwX g A r t)
  | 0 => by
    refine eq_of_bits (lwX_14 hB (h.1 r hr) 0) (img_lt _ _) (fun j hj => bool_iff ⟨fun z => ?_, fun z => ?_⟩)
    · rw [lwX, pow_bit, decide_eq_true_eq] at z
      subst z
      exact img_in h hA hB (lwX_in hr 0) (by rw [lwX, pow_bit, decide_eq_true rfl])
    · obtain ⟨k, hk, hka, rfl⟩ := img_sub h (lwX_in hr 0) z
      rw [lwX, pow_bit, decide_eq_true_eq] at hk
      subst hk
      rw [lwX, pow_bit, decide_eq_true rfl]
  | t + 1 => by
    have ih := lwX_iso h hA hB hr t
    refine eq_of_bits (lwX_14 hB (h.1 r hr) _) (img_lt _ _) (fun j hj => bool_iff ⟨fun z => ?_, fun z => ?_⟩)
    · rw [lwX, Nat.testBit_or, Bool.or_eq_true, ih] at z
      rcases z with z | z
      · obtain ⟨k, hk, hka, rfl⟩ := img_sub h (lwX_in hr t) z
        exact img_in h hA hB (lwX_in hr (t + 1)) (by rw [lwX, Nat.testBit_or, hk, Bool.true_or])
      · rw [Nat.testBit_and, Bool.and_eq_true, nbrs_bit] at z
        obtain ⟨⟨i, hi, z1, z2⟩, z3⟩ := z
        obtain ⟨k, hk, hka, rfl⟩ := img_sub h (lwX_in hr t) z1
        obtain ⟨y, hy, rfl⟩ := h.2.2.1 j z3
        refine img_in h hA hB (lwX_in hr (t + 1)) ?_
        rw [lwX, Nat.testBit_or, Bool.or_eq_true, Nat.testBit_and, Bool.and_eq_true, nbrs_bit]
        exact Or.inr ⟨⟨k, bit_in hA hka, hk, by rw [h.2.2.2 k y hka hy]; exact z2⟩, hy⟩
    · obtain ⟨k, hk, hka, rfl⟩ := img_sub h (lwX_in hr (t + 1)) z
      rw [lwX, Nat.testBit_or, Bool.or_eq_true] at hk
      rw [lwX, Nat.testBit_or, Bool.or_eq_true, ih]
      rcases hk with hk | hk
      · exact Or.inl (img_in h hA hB (lwX_in hr t) hk)
      · rw [Nat.testBit_and, Bool.and_eq_true, nbrs_bit] at hk
        obtain ⟨⟨i, hi, z1, z2⟩, z3⟩ := hk
        rw [Nat.testBit_and, Bool.and_eq_true, nbrs_bit]
        exact Or.inr ⟨⟨f i, iso_lt h hB (lwX_in hr t i z1), img_in h hA hB (lwX_in hr t) z1, by rw [← h.2.2.2 i k (lwX_in hr t i z1) hka]; exact z2⟩, h.1 k hka⟩
theorem img_inj (h : isoG g A B f) (hA : A < 16384) (hB : B < 16384) {S U : Nat} (hS : ∀ x, S.testBit x = true → A.testBit x = true) (hU : ∀ x, U.testBit x = true → A.testBit x = true) (e : img f S = img f U) : S = U := by
  apply Nat.eq_of_testBit_eq
  intro i
  refine bool_iff ⟨fun z => ?_, fun z => ?_⟩
  · have z2 := img_in h hA hB hS z
    rw [e] at z2
    exact img_of h hU (hS i z) z2
  · have z2 := img_in h hA hB hU z
    rw [← e] at z2
    exact img_of h hS (hU i z) z2
theorem lwW_iso (h : isoG g A B f) (hA : A < 16384) (hB : B < 16384) {r : Nat} (hr : A.testBit r = true) : ∀ t, lwW g B (f r) t = lwW g A r t
  | 0 => rfl
  | t + 1 => by
    rw [lwW, lwW, lwW_iso h hA hB hr t, lwX_iso h hA hB hr t, lwX_iso h hA hB hr (t + 1)]
    by_cases e : lwX g A r (t + 1) = lwX g A r t
    · rw [if_neg (fun q => q (by rw [e])), if_neg (fun q => q e)]
    · rw [if_pos (fun q => e (img_inj h hA hB (lwX_in hr _) (lwX_in hr _) q)), if_pos e]
theorem lwA_ge {W k : Nat} (hk : W.testBit k = true) : ∀ n, k < n → lwW g W k 13 ≤ lwA g W n
  | 0, h => absurd h (Nat.not_lt_zero _)
  | n + 1, h => by
    rw [lwA]
    by_cases e : k = n
    · subst e; rw [if_pos hk]; exact Nat.le_max_right _ _
    · have := lwA_ge hk n (by omega)
      split
      · exact Nat.le_trans this (Nat.le_max_left _ _)
      · exact this
theorem lwA_ex {W : Nat} : ∀ n, lwA g W n = 0 ∨ ∃ k, k < n ∧ W.testBit k = true ∧ lwA g W n = lwW g W k 13
  | 0 => Or.inl rfl
  | n + 1 => by
    rw [lwA]
    have ih := lwA_ex (W := W) n
    by_cases e : W.testBit n = true
    · rw [if_pos e]
      by_cases q : lwA g W n ≤ lwW g W n 13
      · exact Or.inr ⟨n, by omega, e, Nat.max_eq_right q⟩
      · rw [Nat.max_eq_left (by omega)]
        rcases ih with z | ⟨k, h1, h2⟩
        · exact Or.inl z
        · exact Or.inr ⟨k, by omega, h2⟩
    · rw [if_neg e]
      rcases ih with z | ⟨k, h1, h2⟩
      · exact Or.inl z
      · exact Or.inr ⟨k, by omega, h2⟩
theorem lwA_iso (h : isoG g A B f) (hA : A < 16384) (hB : B < 16384) : lwA g A 14 = lwA g B 14 := by
  apply Nat.le_antisymm
  · rcases lwA_ex (g := g) (W := A) 14 with z | ⟨k, h1, h2, h3⟩
    · rw [z]; exact Nat.zero_le _
    · rw [h3, ← lwW_iso h hA hB h2]
      exact lwA_ge (h.1 k h2) 14 (iso_lt h hB h2)
  · rcases lwA_ex (g := g) (W := B) 14 with z | ⟨k, h1, h2, h3⟩
    · rw [z]; exact Nat.zero_le _
    · obtain ⟨i, hi, rfl⟩ := h.2.2.1 k h2
      rw [h3, lwW_iso h hA hB hi]
      exact lwA_ge hi 14 (bit_in hA hi)
end ISO
