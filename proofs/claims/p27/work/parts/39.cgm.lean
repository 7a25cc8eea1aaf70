/-! graphs that are alike below 14 -/
def eqG (g g2 : Nat → Nat) : Prop := ∀ i, i < 14 → g i = g2 i
theorem fold_g {g g2 t : Nat → Nat} {S : Nat} (h : eqG g g2) : ∀ k, k ≤ 14 → seenF g t S k = seenF g2 t S k ∧ shoF g t S k = shoF g2 t S k ∧ lonF g t S k = lonF g2 t S k ∧ wonF g t S k = wonF g2 t S k
  | 0, _ => ⟨rfl, rfl, rfl, rfl⟩
  | k + 1, hk => by
    obtain ⟨a, b, c, d⟩ := fold_g (t := t) (S := S) h k (by omega)
    simp only [seenF, shoF, lonF, wonF, a, b, c, d, lft, h k (by omega)]
    exact ⟨trivial, rfl, rfl, rfl⟩
theorem entr_g {g g2 t : Nat → Nat} {S : Nat} (h : eqG g g2) : entr g t S 14 = entr g2 t S 14 := by
  obtain ⟨a, b, c, d⟩ := fold_g (t := t) (S := S) h 14 (Nat.le_refl _)
  rw [entr, entr, a, b, c, d]
theorem T_g {g g2 : Nat → Nat} (h : eqG g g2) (S : Nat) : T g S = T g2 S := by
  induction S using Nat.strongRecOn with
  | _ S ih =>
    rw [T_eq g, T_eq g2, entr_g h]
    exact entr_congr (fun U hU => ih U hU)
theorem V_g {g g2 : Nat → Nat} (h : eqG g g2) (S : Nat) : V g S = V g2 S := by rw [V, V, T_g h]
theorem Sh_g {g g2 : Nat → Nat} (h : eqG g g2) (S : Nat) : Sh g S = Sh g2 S := by rw [Sh, Sh, T_g h]
theorem Lo_g {g g2 : Nat → Nat} (h : eqG g g2) (S : Nat) : Lo g S = Lo g2 S := by rw [Lo, Lo, T_g h]
theorem Mi_g {g g2 : Nat → Nat} (h : eqG g g2) (S : Nat) : Mi g S = Mi g2 S := by rw [Mi, Mi, T_g h]
theorem eqG_s {g g2 : Nat → Nat} (h : eqG g g2) : eqG g2 g := fun i hi => (h i hi).symm
theorem rch_g {g g2 : Nat → Nat} (h : eqG g g2) {W a b : Nat} (hW : W < 16384) (ha : a < 14) (hr : rch g W a b) : rch g2 W a b := fun Y hc hy => by
  have h2 := hr (Y &&& 16383) (fun i hi j hj hw => by
    rw [Nat.testBit_and, Bool.and_eq_true] at hi
    have hi2 : i < 14 := bit_in (S := 16383) (by decide) hi.2
    rw [Nat.testBit_and, Bool.and_eq_true]
    refine ⟨hc i hi.1 j (by rw [← h i hi2]; exact hj) hw, ?_⟩
    have hj2 := bit_in hW hw
    have : ∀ j, j < 14 → Nat.testBit 16383 j = true := by decide
    exact this j hj2) (by
    rw [Nat.testBit_and, Bool.and_eq_true]
    have : ∀ j, j < 14 → Nat.testBit 16383 j = true := by decide
    exact ⟨hy, this a ha⟩)
  rw [Nat.testBit_and, Bool.and_eq_true] at h2
  exact h2.1
theorem comp_g {g g2 : Nat → Nat} (h : eqG g g2) {W a : Nat} (hW : W < 16384) (ha : a < 14) : comp g W a = comp g2 W a :=
  eq_of_bits (comp_lt _ _ _) (comp_lt _ _ _) (fun i _ => by
    have q : (comp g W a).testBit i = true ↔ (comp g2 W a).testBit i = true := by
      rw [comp_bit, comp_bit]
      exact ⟨fun z => ⟨z.1, rch_g h hW ha z.2⟩, fun z => ⟨z.1, rch_g (eqG_s h) hW ha z.2⟩⟩
    cases e1 : (comp g W a).testBit i <;> cases e2 : (comp g2 W a).testBit i <;> simp_all)
theorem low_14 (S : Nat) : low S < 15 := by
  have : ∀ f k, lowF S f k ≤ k + f := by
    intro f
    induction f with
    | zero => intro k; exact Nat.le_refl _
    | succ f ih =>
      intro k
      rw [lowF]
      split
      · omega
      · have := ih (k + 1); omega
  have := this 14 0
  rw [low]; omega
theorem trL_g {g g2 : Nat → Nat} (h : eqG g g2) {W : Nat} (hW : W < 16384) : ∀ k, trL g W k = trL g2 W k
  | 0 => rfl
  | k + 1 => by
    rw [trL, trL, ← trL_g h hW k]
    by_cases e : trL g W k = 0
    · rw [e]; simp [sd]
    · rw [comp_g h hW (low_spec (trL_lt g hW k) e).1]
theorem trA_g {g g2 : Nat → Nat} (h : eqG g g2) {W : Nat} (hW : W < 16384) (k : Nat) : trA g W k = trA g2 W k := by
  rw [trA, trA, ← trL_g h hW k]
  by_cases e : trL g W k = 0
  · rw [if_pos e, if_pos e]
  · rw [if_neg e, if_neg e, trT, trT, ← trL_g h hW k, comp_g h hW (low_spec (trL_lt g hW k) e).1]
theorem trCF_g {g g2 : Nat → Nat} (h : eqG g g2) {W : Nat} (hW : W < 16384) : ∀ f k, trCF g W f k = trCF g2 W f k
  | 0, _ => rfl
  | f + 1, k => by rw [trCF, trCF, trL_g h hW k, trCF_g h hW f (k + 1)]
theorem trC_g {g g2 : Nat → Nat} (h : eqG g g2) {W : Nat} (hW : W < 16384) : trC g W = trC g2 W := trCF_g h hW 14 0
theorem wnP_g {g g2 : Nat → Nat} (h : eqG g g2) {W v : Nat} (hv : v < 14) : wnP g W v = wnP g2 W v := by
  rw [wnP, wnP, lft, lft, h v hv, V_g h]
/-! the lowest winning node -/
def bst (q : Nat → Bool) (n : Nat) : Int32 := if fst q n < n then nI (fst q n) else -1
theorem fst_spec {q : Nat → Bool} {n : Nat} (h : fst q n < n) : q (fst q n) = true ∧ ∀ i, i < fst q n → q i = false := by
  by_cases e : ∃ k, k < n ∧ q k = true ∧ ∀ i, i < k → q i = false
  · obtain ⟨k, h1, h2, h3⟩ := e
    rw [fst_eq h1 h2 h3]
    exact ⟨h2, h3⟩
  · have : fst q n = n := fst_all (fun i hi => by
      induction i using Nat.strongRecOn with
      | _ i ih =>
        cases z : q i
        · rfl
        · exact absurd ⟨i, hi, z, fun j hj => ih j hj (by omega)⟩ e)
    omega
theorem fst_none {q : Nat → Bool} {n : Nat} (h : ¬ fst q n < n) {i : Nat} (hi : i < n) : q i = false := by
  cases z : q i
  · rfl
  · exfalso
    have : ∃ k, k < n ∧ q k = true ∧ ∀ j, j < k → q j = false := by
      clear h
      induction i using Nat.strongRecOn with
      | _ i ih =>
        by_cases e : ∃ j, j < i ∧ q j = true
        · obtain ⟨j, h1, h2⟩ := e
          exact ih j h1 (by omega) h2
        · exact ⟨i, hi, z, fun j hj => by
            cases y : q j
            · rfl
            · exact absurd ⟨j, hj, y⟩ e⟩
    obtain ⟨k, h1, h2, h3⟩ := this
    exact h (by rw [fst_eq h1 h2 h3]; exact h1)
theorem wf_some {q : Nat → Bool} {n k : Nat} (hk : k < n) (h : q k = true) (hl : ∀ i, i < k → q i = false) : ∀ d, n ≤ d + k → d ≤ n → wf q n d = nI k
  | 0, h1, _ => by omega
  | d + 1, h1, h2 => by
    rw [wf]
    by_cases e : n - 1 - d = k
    · rw [e, if_pos h]
    · rw [hl (n - 1 - d) (by omega), if_neg (by decide)]
      exact wf_some hk h hl d (by omega) (by omega)
theorem wf_none {q : Nat → Bool} {n : Nat} (h : ∀ i, i < n → q i = false) : ∀ d, d ≤ n → wf q n d = -1
  | 0, _ => rfl
  | d + 1, hd => by rw [wf, h (n - 1 - d) (by omega), if_neg (by decide), wf_none h d (by omega)]
theorem wf_bst (q : Nat → Bool) (n : Nat) : wf q n n = bst q n := by
  rw [bst]
  by_cases e : fst q n < n
  · rw [if_pos e]
    obtain ⟨a, b⟩ := fst_spec e
    exact wf_some e a b n (by omega) (Nat.le_refl _)
  · rw [if_neg e]
    exact wf_none (fun i hi => fst_none e hi) n (Nat.le_refl _)
theorem fst_g {q q2 : Nat → Bool} {n : Nat} (h : ∀ i, i < n → q i = q2 i) : fst q n = fst q2 n := by
  by_cases e : fst q2 n < n
  · obtain ⟨a, b⟩ := fst_spec e
    exact fst_eq e (by rw [h _ e]; exact a) (fun i hi => by rw [h i (by omega)]; exact b i hi)
  · have e2 : fst q2 n = n := by have := fst_le (p := q2) (n := n); omega
    rw [e2]
    exact fst_all (fun i hi => by rw [h i hi]; exact fst_none e hi)
/-- the node of a reply -/
def rpN (g : Nat → Nat) (W n : Nat) : Nat := if fst (wnP g W) n < n then fst (wnP g W) n else low W
theorem bst_g {g g2 : Nat → Nat} (h : eqG g g2) {W n : Nat} (hn : n ≤ 14) : bst (wnP g W) n = bst (wnP g2 W) n := by
  rw [bst, bst, fst_g (fun i hi => wnP_g h (by omega))]
theorem rpN_g {g g2 : Nat → Nat} (h : eqG g g2) {W n : Nat} (hn : n ≤ 14) : rpN g W n = rpN g2 W n := by
  rw [rpN, rpN, fst_g (fun i hi => wnP_g h (by omega))]
theorem bst_neg {q : Nat → Bool} {n : Nat} (hn : n ≤ 14) : bst q n < 0 ↔ ¬ fst q n < n := by
  rw [bst]
  by_cases e : fst q n < n
  · rw [if_pos e]; exact ⟨fun z => absurd z (nI_pos (by omega)), fun z => absurd e z⟩
  · rw [if_neg e]; exact ⟨fun _ => e, fun _ => by decide⟩
theorem rpN_in {g : Nat → Nat} {W n : Nat} (hn : n ≤ 14) (hW : W < 16384) (h : W ≠ 0) : rpN g W n < 14 ∧ W.testBit (rpN g W n) = true := by
  rw [rpN]
  by_cases e : fst (wnP g W) n < n
  · rw [if_pos e]
    have h1 := (fst_spec e).1
    rw [wnP, Bool.and_eq_true] at h1
    exact ⟨by omega, h1.1⟩
  · rw [if_neg e]
    exact ⟨(low_spec hW h).1, (low_spec hW h).2.1⟩
/-! slot 0 behind the model's own moves -/
theorem eqG_sv {ss : Nat → Nat} {n : Nat} (hn : n ≤ 6) : eqG (gS (svM ss n)) (gS ss) := fun i hi => gS_sv hn hi
theorem tkX_sv {ss : Nat → Nat} {n v : Nat} (hn : n ≤ 6) (hv : v < 14) : tkX (svM ss n) v = tkX ss v := by
  rw [tkX, tkX, svM_lo hn (by decide), svM_lo hn (by omega)]
theorem tkX_pos {ss : Nat → Nat} {v : Nat} (h : (ss 1).testBit v = true) : tkX ss v ≠ 0 := fun q => by
  have h2 : (tkX ss v).testBit v = true := by
    rw [tkX, Nat.testBit_and, Nat.testBit_or, pow_bit, h]; simp
  rw [q, Nat.zero_testBit] at h2
  cases h2
theorem lkS_lo {ss : Nat → Nat} {i j k : Nat} {b : Bool} (h : k < 4) : lkS ss i j b k = ss k := by
  rw [lkS, upN_n _ _ (by omega), upN_n _ _ (by omega)]
theorem sd_or2 {x j : Nat} (h : x.testBit j = false) : sd (x ||| 2 ^ j) (2 ^ j) = x := by
  apply Nat.eq_of_testBit_eq
  intro i
  rw [sd_bit, Nat.testBit_or, pow_bit]
  by_cases e : j = i
  · subst e; simp [h]
  · simp [e]
theorem or_sd2 {x j : Nat} (h : x.testBit j = true) : sd x (2 ^ j) ||| 2 ^ j = x := by
  apply Nat.eq_of_testBit_eq
  intro i
  rw [Nat.testBit_or, sd_bit, pow_bit]
  by_cases e : j = i
  · subst e; simp [h]
  · simp [e]
theorem lkS_back {ss : Nat → Nat} {i j : Nat} (hne : i ≠ j) (h1 : (ss (4 + i)).testBit j = false) (h2 : (ss (4 + j)).testBit i = false) : lkS (lkS ss i j true) i j false = ss := by
  funext k
  have e1 : lkS ss i j true (4 + i) = ss (4 + i) ||| 2 ^ j := by
    rw [lkS, upN_n _ _ (by omega), upN_s]; rfl
  have e2 : lkS ss i j true (4 + j) = ss (4 + j) ||| 2 ^ i := by
    rw [lkS, upN_s, upN_n _ _ (by omega)]; rfl
  by_cases q1 : k = 4 + j
  · subst q1
    rw [lkS, upN_s, upN_n _ _ (by omega), e2]
    exact sd_or2 h2
  · by_cases q2 : k = 4 + i
    · subst q2
      rw [lkS, upN_n _ _ q1, upN_s, e1]
      exact sd_or2 h1
    · rw [lkS, upN_n _ _ q1, upN_n _ _ q2, lkS, upN_n _ _ q1, upN_n _ _ q2]
theorem lkS_back' {ss : Nat → Nat} {i j : Nat} (hne : i ≠ j) (h1 : (ss (4 + i)).testBit j = true) (h2 : (ss (4 + j)).testBit i = true) : lkS (lkS ss i j false) i j true = ss := by
  funext k
  have e1 : lkS ss i j false (4 + i) = sd (ss (4 + i)) (2 ^ j) := by
    rw [lkS, upN_n _ _ (by omega), upN_s]; rfl
  have e2 : lkS ss i j false (4 + j) = sd (ss (4 + j)) (2 ^ i) := by
    rw [lkS, upN_s, upN_n _ _ (by omega)]; rfl
  by_cases q1 : k = 4 + j
  · subst q1
    rw [lkS, upN_s, upN_n _ _ (by omega), e2]
    exact or_sd2 h2
  · by_cases q2 : k = 4 + i
    · subst q2
      rw [lkS, upN_n _ _ q1, upN_s, e1]
      exact or_sd2 h1
    · rw [lkS, upN_n _ _ q1, upN_n _ _ q2, lkS, upN_n _ _ q1, upN_n _ _ q2]
/-- whether two nodes may be joined -/
noncomputable def cjB (g : Nat → Nat) (W n i j : Nat) : Bool := W.testBit i && W.testBit j && !(comp g (2 ^ n - 1) i).testBit j
def symG (g : Nat → Nat) : Prop := ∀ i, i < 14 → ∀ j, j < 14 → (g i).testBit j = (g j).testBit i
theorem fb_in {n j : Nat} (h : j < n) : (2 ^ n - 1).testBit j = true := by
  rw [Nat.testBit_two_pow_sub_one]; exact decide_eq_true h
theorem cj_ne {g : Nat → Nat} {W n i j : Nat} (hi : i < 14) (h : cjB g W n i j = true) : i ≠ j := fun e => by
  subst e
  rw [cjB, comp_self g _ hi] at h
  simp at h
theorem cj_no {g : Nat → Nat} {W n i j : Nat} (hi : i < 14) (hj : j < n) (hn : n ≤ 14) (h : cjB g W n i j = true) : (g i).testBit j = false := by
  cases e : (g i).testBit j
  · rfl
  · have h2 : (comp g (2 ^ n - 1) i).testBit j = true := (comp_bit _ _ _ _).mpr ⟨by omega, rch_step (rch_self g _ i) e (fb_in hj)⟩
    rw [cjB, h2] at h
    simp at h
/-- the xor of the trees' values -/
noncomputable def mxS (g : Nat → Nat) (W : Nat) : Nat → Nat
  | 0 => 0
  | k + 1 => mxS g W k ^^^ V g (trA g W k)
theorem mxS_16 (g : Nat → Nat) (W : Nat) : ∀ k, mxS g W k < 16
  | 0 => by rw [mxS]; decide
  | k + 1 => by
    rw [mxS]
    exact Nat.xor_lt_two_pow (n := 4) (mxS_16 g W k) (V_16 _ _)
theorem sub_lt2 {S W n : Nat} (hW : W < 2 ^ n) (h : ∀ i, S.testBit i = true → W.testBit i = true) : S < 2 ^ n := lt_of_bits (fun i hi => by
  cases e : S.testBit i
  · rfl
  · have := h i e
    rw [bit_of_lt hW hi] at this
    cases this)
theorem trA_n {g : Nat → Nat} {W n : Nat} (h1 : W < 2 ^ n) (hW : W < 16384) (k : Nat) : trA g W k < 2 ^ n := sub_lt2 h1 (fun _ hi => trA_in hW hi)
