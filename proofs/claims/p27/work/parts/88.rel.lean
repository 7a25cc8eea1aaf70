def R0 (n th mv : Nat) (g ss : Nat → Nat) : Prop :=
  (n = ss 0 ∧ th = ss 1 ∧ mv = ss 3 ∧ ss 2 = ss 3 % 2 ∧ eqG g (gS ss)) ∧ FG g ∧ n ≤ 14 ∧ th < 2 ^ n ∧ ∀ i, i < 14 → g i < 2 ^ n
theorem upG_s {α : Type} (f : Nat → α) (k : Nat) (v : α) {i : Nat} (h : i = k) : upG f k v i = v := by rw [upG, if_pos h]
theorem upG_n {α : Type} (f : Nat → α) {k i : Nat} (v : α) (h : i ≠ k) : upG f k v i = f i := by rw [upG, if_neg h]
/-! what edges there are -/
theorem NB_0 {g : Nat → Nat} {n k : Nat} (hfg : FG g) (hnb : ∀ i, i < 14 → g i < 2 ^ n) (hk : n ≤ k) (h14 : k < 14) : g k = 0 :=
  eq0_of_bits (hfg.1 k h14) (fun j hj => by rw [hfg.2.1 k h14 j hj]; exact bit_of_lt (hnb j hj) hk)
theorem NB_lk {g : Nat → Nat} {n i j : Nat} {b : Bool} (hnb : ∀ i, i < 14 → g i < 2 ^ n) (hi : i < n) (hj : j < n) (hne : i ≠ j) : ∀ k, k < 14 → lk2 g i j b k < 2 ^ n := fun k hk => lt_of_bits (fun m hm => by
  rw [lk2_bit hne, if_neg (by omega)]
  exact bit_of_lt (hnb k hk) hm)
theorem NB_up {g : Nat → Nat} {n m : Nat} (hnb : ∀ i, i < 14 → g i < 2 ^ n) (h : n ≤ m) : ∀ k, k < 14 → g k < 2 ^ m := fun k hk => Nat.lt_of_lt_of_le (hnb k hk) (Nat.pow_le_pow_right (by omega) h)
theorem cj_rch {g : Nat → Nat} {W n i j : Nat} (hnb : ∀ i, i < 14 → g i < 2 ^ n) (hn : n ≤ 14) (hi : i < n) (hj : j < n) (h : cjB g W n i j = true) : ¬ rch g 16383 i j := fun hr => by
  have h1 : j < 14 ∧ rch g (2 ^ n - 1) i j := rch_ind (fun x => x < 14 ∧ rch g (2 ^ n - 1) i x) (by decide) (by omega) ⟨by omega, rch_self _ _ _⟩ (fun a b ha hb hw => by
    refine ⟨bit_in (by decide) hw, rch_step ha.2 hb ?_⟩
    rw [full_bit]
    refine decide_eq_true ?_
    rcases Nat.lt_or_ge b n with q | q
    · exact q
    · rw [bit_of_lt (hnb a ha.1) q] at hb; cases hb) hr
  rw [cjB, Bool.and_eq_true, (comp_bit _ _ _ _).mpr h1] at h
  exact absurd h.2 (by decide)
