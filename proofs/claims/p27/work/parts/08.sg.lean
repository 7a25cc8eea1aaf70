/-! values, lengths, the misere game: as the document means them -/
def V (g : Nat → Nat) (S : Nat) : Nat := T g S &&& 15
def Sh (g : Nat → Nat) (S : Nat) : Nat := (T g S >>> 4) &&& 15
def Lo (g : Nat → Nat) (S : Nat) : Nat := (T g S >>> 8) &&& 15
def Mi (g : Nat → Nat) (S : Nat) : Bool := decide (4096 ≤ T g S)
theorem and15 (x : Nat) : x &&& 15 = x % 16 := Nat.and_two_pow_sub_one_eq_mod x 4
theorem T_0 (g : Nat → Nat) : T g 0 = 4096 := by rw [T_eq, entr, if_pos rfl]
theorem V_0 (g : Nat → Nat) : V g 0 = 0 := by rw [V, T_0]; rfl
theorem Sh_0 (g : Nat → Nat) : Sh g 0 = 0 := by rw [Sh, T_0]; rfl
theorem Lo_0 (g : Nat → Nat) : Lo g 0 = 0 := by rw [Lo, T_0]; rfl
theorem Mi_0 (g : Nat → Nat) : Mi g 0 = true := by rw [Mi, T_0]; rfl
/-- what the table says of a set that isn't empty -/
theorem T_all (g : Nat → Nat) : ∀ n S, pc S = n → S < 16384 → V g S ≤ n ∧ Sh g S ≤ n ∧ Lo g S ≤ n ∧ T g S = V g S + 16 * Sh g S + 256 * Lo g S + (if Mi g S then 4096 else 0) ∧
    (S ≠ 0 → V g S = mex (seenF g (T g) S 14) ∧ Sh g S = shoF g (T g) S 14 + 1 ∧ Lo g S = lonF g (T g) S 14 + 1 ∧ Mi g S = wonF g (T g) S 14) := by
  intro n
  induction n using Nat.strongRecOn with
  | _ n ih =>
    intro S hn hS
    by_cases h0 : S = 0
    · subst h0
      rw [V_0, Sh_0, Lo_0, Mi_0, T_0]
      exact ⟨by omega, by omega, by omega, rfl, fun h => absurd rfl h⟩
    · have hp := pc_le S
      have hsub : ∀ k, S.testBit k = true → V g (lft g S k) ≤ n - 1 ∧ Sh g (lft g S k) ≤ n - 1 ∧ Lo g (lft g S k) ≤ n - 1 := fun k hk => by
        have hl := lft_pc (g := g) hS hk
        obtain ⟨a, b, c, -⟩ := ih (pc (lft g S k)) (by omega) (lft g S k) rfl (lft_lt k hS)
        omega
      have hpos := pc_pos hS h0
      have h1 : mex (seenF g (T g) S 14) ≤ n := by
        obtain ⟨-, -, c⟩ := mex_spec (x := seenF g (T g) S 14) (Nat.lt_trans (seen_lt 14) (by decide))
        rcases Nat.lt_or_ge n (mex (seenF g (T g) S 14)) with q | q
        · obtain ⟨k, -, hk, e⟩ := (seen_bit 14).mp (c n q)
          have h2 : V g (lft g S k) = n := e
          have := (hsub k hk).1
          omega
        · exact q
      obtain ⟨i, hi1, hi2⟩ := bit_ex hS h0
      obtain ⟨-, s2, -⟩ := sho_le (g := g) (t := T g) (S := S) 14
      have h2 : shoF g (T g) S 14 ≤ n - 1 := by
        have h3 := s2 i hi1 hi2
        have h4 := (hsub i hi2).2.1
        rw [Sh] at h4
        omega
      obtain ⟨-, l2⟩ := lon_le (g := g) (t := T g) (S := S) 14
      have h3 : lonF g (T g) S 14 ≤ n - 1 := by
        rcases Nat.eq_zero_or_pos (lonF g (T g) S 14) with q | q
        · omega
        · obtain ⟨k, -, hk, e⟩ := l2 q
          rw [e]
          exact (hsub k hk).2.2
      have hT : T g S = mex (seenF g (T g) S 14) + 16 * (shoF g (T g) S 14 + 1) + 256 * (lonF g (T g) S 14 + 1) + (if wonF g (T g) S 14 then 4096 else 0) := by
        conv => lhs; rw [T_eq]
        rw [entr, if_neg h0]
      generalize mex (seenF g (T g) S 14) = a at h1 hT ⊢
      generalize shoF g (T g) S 14 = b at h2 hT ⊢
      generalize lonF g (T g) S 14 = c at h3 hT ⊢
      have hVa : V g S = a ∧ Sh g S = b + 1 ∧ Lo g S = c + 1 ∧ Mi g S = wonF g (T g) S 14 := by
        rw [V, Sh, Lo, Mi, hT, and15, and15, and15, Nat.shiftRight_eq_div_pow, Nat.shiftRight_eq_div_pow]
        cases wonF g (T g) S 14
        · simp only [Bool.false_eq_true, if_false]
          refine ⟨by omega, by omega, by omega, ?_⟩
          rw [decide_eq_false_iff_not]; omega
        · simp only [if_true]
          refine ⟨by omega, by omega, by omega, ?_⟩
          rw [decide_eq_true_eq]; omega
      obtain ⟨e1, e2, e3, e4⟩ := hVa
      exact ⟨by omega, by omega, by omega, by rw [e1, e2, e3, e4, hT], fun _ => ⟨e1, e2, e3, e4⟩⟩
theorem V_le (g : Nat → Nat) {S : Nat} (hS : S < 16384) : V g S ≤ pc S := (T_all g _ S rfl hS).1
theorem Sh_le (g : Nat → Nat) {S : Nat} (hS : S < 16384) : Sh g S ≤ pc S := (T_all g _ S rfl hS).2.1
theorem Lo_le (g : Nat → Nat) {S : Nat} (hS : S < 16384) : Lo g S ≤ pc S := (T_all g _ S rfl hS).2.2.1
theorem T_is (g : Nat → Nat) {S : Nat} (hS : S < 16384) : T g S = V g S + 16 * Sh g S + 256 * Lo g S + (if Mi g S then 4096 else 0) := (T_all g _ S rfl hS).2.2.2.1
theorem V_lt (g : Nat → Nat) {S : Nat} (hS : S < 16384) : V g S < 15 := by have := V_le g hS; have := pc_le S; omega
theorem V_ne {g : Nat → Nat} {S k : Nat} (hS : S < 16384) (hk : S.testBit k = true) : V g (lft g S k) ≠ V g S := by
  have h0 : S ≠ 0 := fun q => by rw [q, Nat.zero_testBit] at hk; cases hk
  intro e
  obtain ⟨-, b, -⟩ := mex_spec (x := seenF g (T g) S 14) (Nat.lt_trans (seen_lt 14) (by decide))
  rw [← ((T_all g _ S rfl hS).2.2.2.2 h0).1, (seen_bit 14).mpr ⟨k, bit_in hS hk, hk, e⟩] at b
  cases b
theorem V_ex {g : Nat → Nat} {S u : Nat} (hS : S < 16384) (hu : u < V g S) : ∃ k, S.testBit k = true ∧ V g (lft g S k) = u := by
  have h0 : S ≠ 0 := fun q => by rw [q, V_0] at hu; omega
  obtain ⟨-, -, c⟩ := mex_spec (x := seenF g (T g) S 14) (Nat.lt_trans (seen_lt 14) (by decide))
  rw [((T_all g _ S rfl hS).2.2.2.2 h0).1] at hu
  obtain ⟨k, -, h1, h2⟩ := (seen_bit 14).mp (c u hu)
  exact ⟨k, h1, h2⟩
theorem V_uniq {g : Nat → Nat} {S v : Nat} (hS : S < 16384) (h1 : ∀ k, S.testBit k = true → V g (lft g S k) ≠ v) (h2 : ∀ u, u < v → ∃ k, S.testBit k = true ∧ V g (lft g S k) = u) : V g S = v := by
  rcases Nat.lt_trichotomy (V g S) v with q | q | q
  · obtain ⟨k, hk, e⟩ := h2 _ q
    exact absurd e (V_ne hS hk)
  · exact q
  · obtain ⟨k, hk, e⟩ := V_ex hS q
    exact absurd e (h1 k hk)
theorem ne0 {S k : Nat} (hk : S.testBit k = true) : S ≠ 0 := fun q => by rw [q, Nat.zero_testBit] at hk; cases hk
theorem Sh_b {g : Nat → Nat} {S k : Nat} (hS : S < 16384) (hk : S.testBit k = true) : Sh g S ≤ Sh g (lft g S k) + 1 := by
  rw [((T_all g _ S rfl hS).2.2.2.2 (ne0 hk)).2.1]
  have := (sho_le (g := g) (t := T g) (S := S) 14).2.1 k (bit_in hS hk) hk
  rw [Sh]; omega
theorem Sh_ex {g : Nat → Nat} {S : Nat} (hS : S < 16384) (h0 : S ≠ 0) : ∃ k, S.testBit k = true ∧ Sh g S = Sh g (lft g S k) + 1 := by
  have e := ((T_all g _ S rfl hS).2.2.2.2 h0).2.1
  have h1 := Sh_le g hS
  have h2 := pc_le S
  obtain ⟨k, -, hk, h3⟩ := (sho_le (g := g) (t := T g) (S := S) 14).2.2 (by omega)
  exact ⟨k, hk, by rw [e, h3, Sh]⟩
theorem Lo_b {g : Nat → Nat} {S k : Nat} (hS : S < 16384) (hk : S.testBit k = true) : Lo g (lft g S k) + 1 ≤ Lo g S := by
  rw [((T_all g _ S rfl hS).2.2.2.2 (ne0 hk)).2.2.1]
  have := (lon_le (g := g) (t := T g) (S := S) 14).1 k (bit_in hS hk) hk
  rw [Lo]; omega
theorem Lo_ex {g : Nat → Nat} {S : Nat} (hS : S < 16384) (h0 : S ≠ 0) : ∃ k, S.testBit k = true ∧ Lo g S = Lo g (lft g S k) + 1 := by
  have e := ((T_all g _ S rfl hS).2.2.2.2 h0).2.2.1
  rcases Nat.eq_zero_or_pos (lonF g (T g) S 14) with q | q
  · obtain ⟨i, hi1, hi2⟩ := bit_ex hS h0
    refine ⟨i, hi2, ?_⟩
    have := (lon_le (g := g) (t := T g) (S := S) 14).1 i hi1 hi2
    rw [e, Lo]; omega
  · obtain ⟨k, -, hk, h3⟩ := (lon_le (g := g) (t := T g) (S := S) 14).2 q
    exact ⟨k, hk, by rw [e, h3, Lo]⟩
theorem Mi_iff {g : Nat → Nat} {S : Nat} (hS : S < 16384) (h0 : S ≠ 0) : Mi g S = true ↔ ∃ k, S.testBit k = true ∧ Mi g (lft g S k) = false := by
  rw [((T_all g _ S rfl hS).2.2.2.2 h0).2.2.2, won_iff]
  constructor
  · rintro ⟨k, -, h1, h2⟩
    exact ⟨k, h1, by rw [Mi, decide_eq_false_iff_not]; omega⟩
  · rintro ⟨k, h1, h2⟩
    rw [Mi, decide_eq_false_iff_not] at h2
    exact ⟨k, bit_in hS h1, h1, by omega⟩
/-! parts side by side -/
def apart (g : Nat → Nat) (A B : Nat) : Prop := (∀ i, A.testBit i = true → B.testBit i = false ∧ ∀ j, (g i).testBit j = true → B.testBit j = false) ∧ ∀ i, B.testBit i = true → ∀ j, (g i).testBit j = true → A.testBit j = false
theorem apart_sub {g : Nat → Nat} {A B A' B' : Nat} (h : apart g A B) (hA : ∀ i, A'.testBit i = true → A.testBit i = true) (hB : ∀ i, B'.testBit i = true → B.testBit i = true) : apart g A' B' := by
  have nB : ∀ {i}, B.testBit i = false → B'.testBit i = false := fun {i} q => by
    cases z : B'.testBit i
    · rfl
    · rw [hB i z] at q; cases q
  have nA : ∀ {i}, A.testBit i = false → A'.testBit i = false := fun {i} q => by
    cases z : A'.testBit i
    · rfl
    · rw [hA i z] at q; cases q
  exact ⟨fun i hi => ⟨nB (h.1 i (hA i hi)).1, fun j hj => nB ((h.1 i (hA i hi)).2 j hj)⟩, fun i hi j hj => nA (h.2 i (hB i hi) j hj)⟩
theorem apart_symm {g : Nat → Nat} {A B : Nat} (h : apart g A B) : apart g B A := by
  refine ⟨fun i hi => ⟨?_, fun j hj => h.2 i hi j hj⟩, fun i hi j hj => (h.1 i hi).2 j hj⟩
  cases z : A.testBit i
  · rfl
  · rw [(h.1 i z).1] at hi; cases hi
theorem xor_rc {a b c : Nat} (h : a ^^^ c = b ^^^ c) : a = b := by
  have h2 : (a ^^^ c) ^^^ c = (b ^^^ c) ^^^ c := by rw [h]
  rw [Nat.xor_assoc, Nat.xor_assoc, Nat.xor_self, Nat.xor_zero, Nat.xor_zero] at h2
  exact h2
theorem xor_lc {a b c : Nat} (h : c ^^^ a = c ^^^ b) : a = b := by
  rw [Nat.xor_comm c a, Nat.xor_comm c b] at h
  exact xor_rc h
theorem or_ne {A : Nat} (B : Nat) (h : A ≠ 0) : A ||| B ≠ 0 := fun q => h (by
  apply Nat.eq_of_testBit_eq
  intro i
  have h2 : (A ||| B).testBit i = false := by rw [q, Nat.zero_testBit]
  rw [Nat.testBit_or, Bool.or_eq_false_iff] at h2
  rw [h2.1, Nat.zero_testBit])
theorem lft_or {g : Nat → Nat} {A B k : Nat} (h : apart g A B) (hk : A.testBit k = true) : lft g (A ||| B) k = lft g A k ||| B := by
  apply Nat.eq_of_testBit_eq
  intro i
  rw [lft_bit, Nat.testBit_or, Nat.testBit_or, lft_bit]
  cases hB : B.testBit i
  · simp
  · have h1 : k ≠ i := fun q => by subst q; rw [(h.1 k hk).1] at hB; cases hB
    have h2 : (g k).testBit i = false := by
      cases z : (g k).testBit i
      · rfl
      · rw [(h.1 k hk).2 i z] at hB; cases hB
    simp [h1, h2]
theorem or_comm' (A B : Nat) : A ||| B = B ||| A := Nat.or_comm A B
theorem xor_lem : ∀ a, a < 16 → ∀ b, b < 16 → ∀ v, v < a ^^^ b → (v ^^^ b < a ∨ v ^^^ a < b) := by decide +kernel
theorem sg (g : Nat → Nat) : ∀ n A B, pc (A ||| B) = n → A < 16384 → B < 16384 → apart g A B → V g (A ||| B) = V g A ^^^ V g B ∧ Sh g (A ||| B) = Sh g A + Sh g B ∧ Lo g (A ||| B) = Lo g A + Lo g B := by
  intro n
  induction n using Nat.strongRecOn with
  | _ n ih =>
    intro A B hn hA hB hap
    have hAB := or_14 hA hB
    have stepA : ∀ k, A.testBit k = true → V g (lft g (A ||| B) k) = V g (lft g A k) ^^^ V g B ∧ Sh g (lft g (A ||| B) k) = Sh g (lft g A k) + Sh g B ∧ Lo g (lft g (A ||| B) k) = Lo g (lft g A k) + Lo g B := fun k hk => by
      have hp := lft_pc (g := g) hAB (k := k) (by rw [Nat.testBit_or, hk]; rfl)
      rw [lft_or hap hk] at hp ⊢
      exact ih _ (by omega) (lft g A k) B rfl (lft_lt k hA) hB (apart_sub hap (fun _ h => lft_sub h) (fun _ h => h))
    have stepB : ∀ k, B.testBit k = true → V g (lft g (A ||| B) k) = V g A ^^^ V g (lft g B k) ∧ Sh g (lft g (A ||| B) k) = Sh g A + Sh g (lft g B k) ∧ Lo g (lft g (A ||| B) k) = Lo g A + Lo g (lft g B k) := fun k hk => by
      have hp := lft_pc (g := g) hAB (k := k) (by rw [Nat.testBit_or, hk, Bool.or_true])
      rw [or_comm' A B, lft_or (apart_symm hap) hk, or_comm' _ A] at hp ⊢
      exact ih _ (by rw [or_comm' B A] at hp; omega) A (lft g B k) rfl hA (lft_lt k hB) (apart_sub hap (fun _ h => h) (fun _ h => lft_sub h))
    have hva := V_lt g hA
    have hvb := V_lt g hB
    refine ⟨V_uniq hAB (fun k hk e => ?_) (fun u hu => ?_), ?_, ?_⟩
    · rw [Nat.testBit_or, Bool.or_eq_true] at hk
      rcases hk with hk | hk
      · rw [(stepA k hk).1] at e
        exact V_ne hA hk (xor_rc e)
      · rw [(stepB k hk).1] at e
        exact V_ne hB hk (xor_lc e)
    · rcases xor_lem _ (show V g A < 16 by omega) _ (show V g B < 16 by omega) u hu with q | q
      · obtain ⟨k, hk, e⟩ := V_ex hA q
        refine ⟨k, by rw [Nat.testBit_or, hk]; rfl, ?_⟩
        rw [(stepA k hk).1, e, Nat.xor_assoc, Nat.xor_self, Nat.xor_zero]
      · obtain ⟨k, hk, e⟩ := V_ex hB q
        refine ⟨k, by rw [Nat.testBit_or, hk, Bool.or_true], ?_⟩
        rw [(stepB k hk).1, e, Nat.xor_comm u, ← Nat.xor_assoc, Nat.xor_self, Nat.zero_xor]
    · by_cases hA0 : A = 0
      · subst hA0; rw [Nat.zero_or, Sh_0, Nat.zero_add]
      · have hAB0 : A ||| B ≠ 0 := or_ne B hA0
        obtain ⟨k, hk, e⟩ := Sh_ex (g := g) hAB hAB0
        rw [Nat.testBit_or, Bool.or_eq_true] at hk
        obtain ⟨i, hi, ei⟩ := Sh_ex (g := g) hA hA0
        have h1 := Sh_b (g := g) hAB (k := i) (by rw [Nat.testBit_or, hi]; rfl)
        rw [(stepA i hi).2.1] at h1
        rcases hk with hk | hk
        · rw [(stepA k hk).2.1] at e
          have h2 := Sh_b (g := g) hA hk
          omega
        · rw [(stepB k hk).2.1] at e
          have h2 := Sh_b (g := g) hB hk
          omega
    · by_cases hA0 : A = 0
      · subst hA0; rw [Nat.zero_or, Lo_0, Nat.zero_add]
      · have hAB0 : A ||| B ≠ 0 := or_ne B hA0
        obtain ⟨k, hk, e⟩ := Lo_ex (g := g) hAB hAB0
        rw [Nat.testBit_or, Bool.or_eq_true] at hk
        obtain ⟨i, hi, ei⟩ := Lo_ex (g := g) hA hA0
        have h1 := Lo_b (g := g) hAB (k := i) (by rw [Nat.testBit_or, hi]; rfl)
        rw [(stepA i hi).2.2] at h1
        rcases hk with hk | hk
        · rw [(stepA k hk).2.2] at e
          have h2 := Lo_b (g := g) hA hk
          omega
        · rw [(stepB k hk).2.2] at e
          have h2 := Lo_b (g := g) hB hk
          omega
/-- what is left without one lone node is like what is left without another one -/
theorem lone (g : Nat → Nat) (hg : ∀ i, i < 14 → ∀ j, j < 14 → (g i).testBit j = (g j).testBit i) : ∀ n S u v, pc S = n → S < 16384 → u < 14 → v < 14 → S.testBit u = false → S.testBit v = false → (∀ i, S.testBit i = true → (g u).testBit i = false ∧ (g v).testBit i = false) → Mi g (S ||| 2 ^ u) = Mi g (S ||| 2 ^ v) := by
  intro n
  induction n using Nat.strongRecOn with
  | _ n ih =>
    intro S u v hn hS hu hv hSu hSv hl
    have key : ∀ a b, a < 14 → b < 14 → S.testBit a = false → S.testBit b = false → (∀ i, S.testBit i = true → (g a).testBit i = false ∧ (g b).testBit i = false) → Mi g (S ||| 2 ^ a) = true → Mi g (S ||| 2 ^ b) = true := by
      intro a b ha hb hSa hSb hl h
      have hsa := or_14 hS (pow_14 ha)
      have hsb := or_14 hS (pow_14 hb)
      have ba : (S ||| 2 ^ a).testBit a = true := by rw [Nat.testBit_or, pow_bit]; simp
      have bb : (S ||| 2 ^ b).testBit b = true := by rw [Nat.testBit_or, pow_bit]; simp
      have la : lft g (S ||| 2 ^ a) a = S := by
        apply Nat.eq_of_testBit_eq
        intro i
        rw [lft_bit, Nat.testBit_or, pow_bit]
        by_cases e : a = i
        · subst e; simp [hSa]
        · cases hi : S.testBit i
          · simp [e]
          · simp [e, (hl i hi).1]
      have lb : lft g (S ||| 2 ^ b) b = S := by
        apply Nat.eq_of_testBit_eq
        intro i
        rw [lft_bit, Nat.testBit_or, pow_bit]
        by_cases e : b = i
        · subst e; simp [hSb]
        · cases hi : S.testBit i
          · simp [e]
          · simp [e, (hl i hi).2]
      obtain ⟨k, hk, hm⟩ := (Mi_iff hsa (ne0 ba)).mp h
      by_cases e : k = a
      · subst e
        rw [la] at hm
        exact (Mi_iff hsb (ne0 bb)).mpr ⟨b, bb, by rw [lb]; exact hm⟩
      · have hkS : S.testBit k = true := by
          rw [Nat.testBit_or, pow_bit, Bool.or_eq_true, decide_eq_true_eq] at hk
          rcases hk with q | q
          · exact q
          · exact absurd q.symm e
        have ga : (g k).testBit a = false := by rw [hg k (bit_in hS hkS) a ha]; exact (hl k hkS).1
        have gb : (g k).testBit b = false := by rw [hg k (bit_in hS hkS) b hb]; exact (hl k hkS).2
        have hkb : k ≠ b := fun q => by subst q; rw [hSb] at hkS; cases hkS
        have e1 : ∀ w, k ≠ w → (g k).testBit w = false → lft g (S ||| 2 ^ w) k = lft g S k ||| 2 ^ w := fun w hw gw => by
          apply Nat.eq_of_testBit_eq
          intro i
          rw [lft_bit, Nat.testBit_or, Nat.testBit_or, pow_bit, lft_bit]
          by_cases q : w = i
          · subst q; simp [hw, gw]
          · simp [q]
        rw [e1 a e ga] at hm
        have hlt := lft_pc (g := g) hS hkS
        have := ih _ (by omega) (lft g S k) a b rfl (lft_lt k hS) ha hb (by rw [lft_bit, hSa]; rfl) (by rw [lft_bit, hSb]; rfl) (fun i hi => hl i (lft_sub hi))
        refine (Mi_iff hsb (ne0 bb)).mpr ⟨k, by rw [Nat.testBit_or, hkS]; rfl, ?_⟩
        rw [e1 b hkb gb, ← this]
        exact hm
    cases h1 : Mi g (S ||| 2 ^ u)
    · cases h2 : Mi g (S ||| 2 ^ v)
      · rfl
      · rw [key v u hv hu hSv hSu (fun i hi => ⟨(hl i hi).2, (hl i hi).1⟩) h2] at h1; cases h1
    · rw [key u v hu hv hSu hSv hl h1]
