/-! the game: what a set of nodes comes to, worked out by all that can be left of it -/
/-- what is left if a node is chosen -/
def lft (g : Nat → Nat) (S k : Nat) : Nat := sd S (2 ^ k ||| g k)
theorem lft_bit (g : Nat → Nat) (S k i : Nat) : (lft g S k).testBit i = (S.testBit i && !(decide (k = i)) && !((g k).testBit i)) := by
  rw [lft, sd_bit, Nat.testBit_or, pow_bit]
  cases S.testBit i <;> cases (decide (k = i)) <;> cases (g k).testBit i <;> rfl
theorem lft_lt {g : Nat → Nat} {S : Nat} (k : Nat) (h : S < 16384) : lft g S k < 16384 := sd_14 _ h
theorem lft_sub {g : Nat → Nat} {S k i : Nat} (h : (lft g S k).testBit i = true) : S.testBit i = true := by
  rw [lft_bit] at h
  cases hS : S.testBit i
  · rw [hS] at h; simp at h
  · rfl
theorem lft_no (g : Nat → Nat) (S k : Nat) : (lft g S k).testBit k = false := by
  rw [lft_bit]; simp
theorem lft_pc {g : Nat → Nat} {S k : Nat} (hS : S < 16384) (hk : S.testBit k = true) : pc (lft g S k) < pc S :=
  pc_lt (fun _ h => lft_sub h) hk (lft_no g S k) (bit_in hS hk)
theorem lt_of_sub {S T : Nat} (h : ∀ i, S.testBit i = true → T.testBit i = true) (hne : S ≠ T) : S < T := by
  rcases Nat.lt_trichotomy S T with q | q | q
  · exact q
  · exact absurd q hne
  · exfalso
    have hle : S ≤ T := by
      have e : S = S &&& T := by
        apply Nat.eq_of_testBit_eq
        intro i
        rw [Nat.testBit_and]
        cases hs : S.testBit i
        · rfl
        · rw [h i hs]; rfl
      rw [e]; exact Nat.and_le_right
    omega
theorem lft_less {g : Nat → Nat} {S k : Nat} (hk : S.testBit k = true) : lft g S k < S :=
  lt_of_sub (fun _ h => lft_sub h) (fun e => by
    have := lft_no g S k
    rw [e, hk] at this
    cases this)
/-- the four things that are gathered over the nodes below k, out of a table -/
def seenF (g t : Nat → Nat) (S : Nat) : Nat → Nat
  | 0 => 0
  | k + 1 => if S.testBit k then seenF g t S k ||| 2 ^ (t (lft g S k) &&& 15) else seenF g t S k
def shoF (g t : Nat → Nat) (S : Nat) : Nat → Nat
  | 0 => 15
  | k + 1 => if S.testBit k then (if (t (lft g S k) >>> 4) &&& 15 < shoF g t S k then (t (lft g S k) >>> 4) &&& 15 else shoF g t S k) else shoF g t S k
def lonF (g t : Nat → Nat) (S : Nat) : Nat → Nat
  | 0 => 0
  | k + 1 => if S.testBit k then (if lonF g t S k < (t (lft g S k) >>> 8) &&& 15 then (t (lft g S k) >>> 8) &&& 15 else lonF g t S k) else lonF g t S k
def wonF (g t : Nat → Nat) (S : Nat) : Nat → Bool
  | 0 => false
  | k + 1 => if S.testBit k then (wonF g t S k || decide (t (lft g S k) < 4096)) else wonF g t S k
/-- the least number whose bit isn't set -/
def mexF (x : Nat) : Nat → Nat → Nat
  | 0, v => v
  | f + 1, v => if x.testBit v then mexF x f (v + 1) else v
def mex (x : Nat) : Nat := mexF x 32 0
theorem mexF_spec {x : Nat} : ∀ {f v : Nat}, x.testBit (v + f) = false → v ≤ mexF x f v ∧ mexF x f v ≤ v + f ∧ x.testBit (mexF x f v) = false ∧ ∀ i, v ≤ i → i < mexF x f v → x.testBit i = true
  | 0, v, h => ⟨Nat.le_refl _, Nat.le_refl _, h, fun i h1 h2 => absurd h2 (by rw [mexF]; omega)⟩
  | f + 1, v, h => by
    rw [mexF]
    by_cases e : x.testBit v
    · rw [if_pos e]
      obtain ⟨a, b, c, d⟩ := mexF_spec (x := x) (f := f) (v := v + 1) (by rw [show v + 1 + f = v + (f + 1) by omega]; exact h)
      exact ⟨by omega, by omega, c, fun i h1 h2 => by
        by_cases q : i = v
        · subst q; exact e
        · exact d i (by omega) h2⟩
    · rw [if_neg e]
      exact ⟨Nat.le_refl _, by omega, by simpa using e, fun i h1 h2 => by omega⟩
theorem mex_spec {x : Nat} (h : x < 2 ^ 32) : mex x ≤ 32 ∧ x.testBit (mex x) = false ∧ ∀ i, i < mex x → x.testBit i = true := by
  obtain ⟨-, b, c, d⟩ := mexF_spec (x := x) (f := 32) (v := 0) (bit_of_lt h (by omega))
  exact ⟨by simpa [mex] using b, c, fun i hi => d i (Nat.zero_le _) hi⟩
theorem mex_eq {x v : Nat} (hx : x < 2 ^ 32) (h1 : x.testBit v = false) (h2 : ∀ i, i < v → x.testBit i = true) : mex x = v := by
  obtain ⟨-, b, c⟩ := mex_spec hx
  rcases Nat.lt_trichotomy (mex x) v with q | q | q
  · rw [h2 _ q] at b; cases b
  · exact q
  · rw [c _ q] at h1; cases h1
/-- an entry of the table -/
def entr (g t : Nat → Nat) (S n : Nat) : Nat :=
  if S = 0 then 4096 else mex (seenF g t S n) + 16 * (shoF g t S n + 1) + 256 * (lonF g t S n + 1) + (if wonF g t S n then 4096 else 0)
theorem fold_congr {g t t' : Nat → Nat} {S : Nat} (h : ∀ k, S.testBit k = true → t (lft g S k) = t' (lft g S k)) : ∀ k, seenF g t S k = seenF g t' S k ∧ shoF g t S k = shoF g t' S k ∧ lonF g t S k = lonF g t' S k ∧ wonF g t S k = wonF g t' S k
  | 0 => ⟨rfl, rfl, rfl, rfl⟩
  | k + 1 => by
    obtain ⟨a, b, c, d⟩ := fold_congr h k
    simp only [seenF, shoF, lonF, wonF, a, b, c, d]
    by_cases e : S.testBit k = true
    · rw [h k e]
      exact ⟨rfl, rfl, rfl, rfl⟩
    · simp only [e]
      exact ⟨rfl, rfl, rfl, rfl⟩
theorem entr_congr {g t t' : Nat → Nat} {S n : Nat} (h : ∀ T, T < S → t T = t' T) : entr g t S n = entr g t' S n := by
  obtain ⟨a, b, c, d⟩ := fold_congr (g := g) (t := t) (t' := t') (S := S) (fun k hk => h _ (lft_less hk)) n
  rw [entr, entr, a, b, c, d]
/-- the nodes above those of the set don't count -/
theorem fold_top {g t : Nat → Nat} {S n : Nat} (h : ∀ k, n ≤ k → S.testBit k = false) : ∀ d, seenF g t S (n + d) = seenF g t S n ∧ shoF g t S (n + d) = shoF g t S n ∧ lonF g t S (n + d) = lonF g t S n ∧ wonF g t S (n + d) = wonF g t S n
  | 0 => ⟨rfl, rfl, rfl, rfl⟩
  | d + 1 => by
    obtain ⟨a, b, c, e⟩ := fold_top h d
    have hb := h (n + d) (by omega)
    rw [← Nat.add_assoc]
    simp only [seenF, shoF, lonF, wonF, hb, Bool.false_eq_true, if_false]
    exact ⟨a, b, c, e⟩
theorem entr_top {g t : Nat → Nat} {S n : Nat} (h : S < 2 ^ n) (hn : n ≤ 14) : entr g t S n = entr g t S 14 := by
  obtain ⟨d, hd⟩ := Nat.le.dest hn
  obtain ⟨a, b, c, e⟩ := fold_top (g := g) (t := t) (S := S) (n := n) (fun k hk => bit_of_lt h hk) d
  rw [entr, entr, ← hd, a, b, c, e]
/-- the table, laid from below -/
def tab (g : Nat → Nat) : Nat → (Nat → Nat)
  | 0 => fun _ => 0
  | m + 1 => upN (tab g m) m (entr g (tab g m) m 14)
def T (g : Nat → Nat) (S : Nat) : Nat := tab g (S + 1) S
theorem tab_lt {g : Nat → Nat} {S : Nat} : ∀ {m}, S < m → tab g m S = T g S
  | 0, h => absurd h (Nat.not_lt_zero _)
  | m + 1, h => by
    by_cases e : S = m
    · subst e; rfl
    · rw [tab, upN_n _ _ e]
      exact tab_lt (by omega)
theorem T_eq (g : Nat → Nat) (S : Nat) : T g S = entr g (T g) S 14 := by
  rw [T, tab, upN_s]
  exact entr_congr (fun U hU => tab_lt hU)
/-- the sums over the moves, as they are meant -/
theorem seen_bit {g t : Nat → Nat} {S v : Nat} : ∀ n, (seenF g t S n).testBit v = true ↔ ∃ k, k < n ∧ S.testBit k = true ∧ t (lft g S k) &&& 15 = v
  | 0 => by simp [seenF]
  | n + 1 => by
    rw [seenF]
    have ih := seen_bit (g := g) (t := t) (S := S) (v := v) n
    by_cases e : S.testBit n = true
    · rw [if_pos e, Nat.testBit_or, Bool.or_eq_true, ih, pow_bit, decide_eq_true_eq]
      constructor
      · rintro (⟨k, h1, h2, h3⟩ | h)
        · exact ⟨k, by omega, h2, h3⟩
        · exact ⟨n, by omega, e, h⟩
      · rintro ⟨k, h1, h2, h3⟩
        by_cases q : k = n
        · subst q; exact Or.inr h3
        · exact Or.inl ⟨k, by omega, h2, h3⟩
    · rw [if_neg e, ih]
      constructor
      · rintro ⟨k, h1, h2, h3⟩
        exact ⟨k, by omega, h2, h3⟩
      · rintro ⟨k, h1, h2, h3⟩
        by_cases q : k = n
        · subst q; exact absurd h2 e
        · exact ⟨k, by omega, h2, h3⟩
theorem won_iff {g t : Nat → Nat} {S : Nat} : ∀ n, wonF g t S n = true ↔ ∃ k, k < n ∧ S.testBit k = true ∧ t (lft g S k) < 4096
  | 0 => by simp [wonF]
  | n + 1 => by
    rw [wonF]
    have ih := won_iff (g := g) (t := t) (S := S) n
    by_cases e : S.testBit n = true
    · rw [if_pos e, Bool.or_eq_true, ih, decide_eq_true_eq]
      constructor
      · rintro (⟨k, h1, h2, h3⟩ | h)
        · exact ⟨k, by omega, h2, h3⟩
        · exact ⟨n, by omega, e, h⟩
      · rintro ⟨k, h1, h2, h3⟩
        by_cases q : k = n
        · subst q; exact Or.inr h3
        · exact Or.inl ⟨k, by omega, h2, h3⟩
    · rw [if_neg e, ih]
      constructor
      · rintro ⟨k, h1, h2, h3⟩
        exact ⟨k, by omega, h2, h3⟩
      · rintro ⟨k, h1, h2, h3⟩
        by_cases q : k = n
        · subst q; exact absurd h2 e
        · exact ⟨k, by omega, h2, h3⟩
theorem seen_lt {g t : Nat → Nat} {S : Nat} (n : Nat) : seenF g t S n < 2 ^ 16 := by
  apply lt_of_bits
  intro i hi
  cases e : (seenF g t S n).testBit i
  · rfl
  · obtain ⟨k, -, -, h⟩ := (seen_bit n).mp e
    have : t (lft g S k) &&& 15 ≤ 15 := Nat.and_le_right
    omega
theorem sho_le {g t : Nat → Nat} {S : Nat} : ∀ n, shoF g t S n ≤ 15 ∧ (∀ k, k < n → S.testBit k = true → shoF g t S n ≤ (t (lft g S k) >>> 4) &&& 15) ∧ (shoF g t S n < 15 → ∃ k, k < n ∧ S.testBit k = true ∧ shoF g t S n = (t (lft g S k) >>> 4) &&& 15)
  | 0 => ⟨Nat.le_refl _, fun k h => absurd h (Nat.not_lt_zero _), fun h => absurd h (by simp [shoF])⟩
  | n + 1 => by
    obtain ⟨a, b, c⟩ := sho_le (g := g) (t := t) (S := S) n
    rw [shoF]
    by_cases e : S.testBit n = true
    · rw [if_pos e]
      by_cases q : (t (lft g S n) >>> 4) &&& 15 < shoF g t S n
      · rw [if_pos q]
        exact ⟨by omega, fun k h1 h2 => by
          by_cases z : k = n
          · subst z; exact Nat.le_refl _
          · have := b k (by omega) h2; omega, fun _ => ⟨n, by omega, e, rfl⟩⟩
      · rw [if_neg q]
        exact ⟨a, fun k h1 h2 => by
          by_cases z : k = n
          · subst z; omega
          · exact b k (by omega) h2, fun h => by
          obtain ⟨k, h1, h2, h3⟩ := c h
          exact ⟨k, by omega, h2, h3⟩⟩
    · rw [if_neg e]
      exact ⟨a, fun k h1 h2 => by
        by_cases z : k = n
        · subst z; exact absurd h2 e
        · exact b k (by omega) h2, fun h => by
        obtain ⟨k, h1, h2, h3⟩ := c h
        exact ⟨k, by omega, h2, h3⟩⟩
theorem lon_le {g t : Nat → Nat} {S : Nat} : ∀ n, (∀ k, k < n → S.testBit k = true → (t (lft g S k) >>> 8) &&& 15 ≤ lonF g t S n) ∧ (0 < lonF g t S n → ∃ k, k < n ∧ S.testBit k = true ∧ lonF g t S n = (t (lft g S k) >>> 8) &&& 15)
  | 0 => ⟨fun k h => absurd h (Nat.not_lt_zero _), fun h => absurd h (by simp [lonF])⟩
  | n + 1 => by
    obtain ⟨b, c⟩ := lon_le (g := g) (t := t) (S := S) n
    rw [lonF]
    by_cases e : S.testBit n = true
    · rw [if_pos e]
      by_cases q : lonF g t S n < (t (lft g S n) >>> 8) &&& 15
      · rw [if_pos q]
        exact ⟨fun k h1 h2 => by
          by_cases z : k = n
          · subst z; exact Nat.le_refl _
          · have := b k (by omega) h2; omega, fun _ => ⟨n, by omega, e, rfl⟩⟩
      · rw [if_neg q]
        exact ⟨fun k h1 h2 => by
          by_cases z : k = n
          · subst z; omega
          · exact b k (by omega) h2, fun h => by
          obtain ⟨k, h1, h2, h3⟩ := c h
          exact ⟨k, by omega, h2, h3⟩⟩
    · rw [if_neg e]
      exact ⟨fun k h1 h2 => by
        by_cases z : k = n
        · subst z; exact absurd h2 e
        · exact b k (by omega) h2, fun h => by
        obtain ⟨k, h1, h2, h3⟩ := c h
        exact ⟨k, by omega, h2, h3⟩⟩
