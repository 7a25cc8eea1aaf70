/-! depths -/
def dpF (p : Nat → Int32) : Nat → Nat → Nat
  | 0, _ => 0
  | f + 1, x => if p x < 0 then 0 else dpF p f (p x).toNatClampNeg + 1
def dp (p : Nat → Int32) (x : Nat) : Nat := dpF p 15 x
theorem and_pz {a m : Nat} : a &&& 2 ^ m = 0 ↔ a.testBit m = false := by
  constructor
  · intro h
    have h2 : (a &&& 2 ^ m).testBit m = false := by rw [h, Nat.zero_testBit]
    rw [Nat.testBit_and, pow_bit, decide_eq_true rfl, Bool.and_true] at h2
    exact h2
  · intro h
    apply Nat.eq_of_testBit_eq
    intro i
    rw [Nat.testBit_and, pow_bit, Nat.zero_testBit]
    by_cases e : m = i
    · subst e; rw [h]; rfl
    · rw [decide_eq_false e, Bool.and_false]
theorem neg1 : (-1 : Int32) < 0 := by decide
theorem QI_f {g : Nat → Nat} {T r : Nat} {q : Nat → Nat} {p : Nat → Int32} {n : Nat} (h : QI g T r q p n) : ∀ (N a : Nat), a ≤ N → a < n → ∀ f, a < f → dpF p f (q a) = dpF p (a + 1) (q a)
  | 0, a, ha, hn, f, hf => by
    have : a = 0 := by omega
    subst this
    cases f with
    | zero => omega
    | succ f => rw [dpF, dpF, h.q0, h.p0, if_pos neg1, if_pos neg1]
  | N + 1, a, ha, hn, f, hf => by
    rcases QI_par h hn with ⟨e, y⟩ | ⟨c, c1, c2, -⟩
    · cases f with
      | zero => omega
      | succ f => rw [dpF, dpF, y, if_pos neg1, if_pos neg1]
    · have hc14 := (h.a1 c (by omega)).1
      cases f with
      | zero => omega
      | succ f =>
        rw [dpF, dpF, c2, if_neg (nI_pos (by omega)), if_neg (nI_pos (by omega)), nI_clamp (by omega), QI_f h N c (by omega) (by omega) f (by omega), QI_f h N c (by omega) (by omega) a (by omega)]
theorem dp_0 {g : Nat → Nat} {T r : Nat} {q : Nat → Nat} {p : Nat → Int32} {n : Nat} (h : QI g T r q p n) : dp p r = 0 := by
  rw [dp, dpF, h.p0, if_pos neg1]
theorem dp_s {g : Nat → Nat} {T r : Nat} {q : Nat → Nat} {p : Nat → Int32} {n : Nat} (h : QI g T r q p n) {a c : Nat} (ha : a < n) (hc : c < a) (e : p (q a) = nI (q c)) : dp p (q a) = dp p (q c) + 1 := by
  have hc14 := (h.a1 c (by omega)).1
  have hn := h.n14
  rw [dp, dp, QI_f h c c (Nat.le_refl _) (by omega) 15 (by omega), dpF, e, if_neg (nI_pos (by omega)), nI_clamp (by omega), QI_f h c c (Nat.le_refl _) (by omega) 14 (by omega)]
theorem dp_le {g : Nat → Nat} {T r : Nat} {q : Nat → Nat} {p : Nat → Int32} {n : Nat} (h : QI g T r q p n) : ∀ (N a : Nat), a ≤ N → a < n → dp p (q a) ≤ a
  | 0, a, ha, hn => by rw [show a = 0 by omega, h.q0, dp_0 h]; omega
  | N + 1, a, ha, hn => by
    rcases QI_par h hn with ⟨e, y⟩ | ⟨c, c1, c2, -⟩
    · rw [e, h.q0, dp_0 h]; omega
    · have := dp_le h N c (by omega) (by omega)
      rw [dp_s h hn c1 c2]; omega
theorem dp_mono {g : Nat → Nat} {T r : Nat} {q : Nat → Nat} {p : Nat → Int32} {n : Nat} (h : QI g T r q p n) : ∀ (N a b : Nat), a ≤ N → a ≤ b → b < n → dp p (q a) ≤ dp p (q b)
  | 0, a, b, ha, _, _ => by rw [show a = 0 by omega, h.q0, dp_0 h]; omega
  | N + 1, a, b, ha, hab, hb => by
    rcases QI_par h (show a < n by omega) with ⟨e, y⟩ | ⟨c, c1, c2, -⟩
    · rw [e, h.q0, dp_0 h]; omega
    · rcases QI_par h hb with ⟨e, y⟩ | ⟨d, d1, d2, -⟩
      · omega
      · have h1 := h.a4 a b c d hab hb (by omega) (by omega) c2 d2
        have h2 := dp_mono h N c d (by omega) h1 (by omega)
        rw [dp_s h (by omega) c1 c2, dp_s h hb d1 d2]; omega
theorem nbrs_bit2 {g : Nat → Nat} {S x : Nat} : ∀ n, (nbrs g S n).testBit x = true ↔ ∃ i, i < n ∧ S.testBit i = true ∧ (g i).testBit x = true
  | 0 => by
    rw [nbrs, Nat.zero_testBit]
    exact ⟨fun z => (by cases z), fun ⟨a, h1, _⟩ => absurd h1 (Nat.not_lt_zero _)⟩
  | n + 1 => by
    rw [nbrs]
    by_cases e : S.testBit n = true
    · rw [if_pos e, Nat.testBit_or, Bool.or_eq_true, nbrs_bit2 n]
      constructor
      · rintro (⟨a, h1, h2⟩ | h)
        · exact ⟨a, by omega, h2⟩
        · exact ⟨n, by omega, e, h⟩
      · rintro ⟨a, h1, h2, h3⟩
        by_cases z : a = n
        · subst z; exact Or.inr h3
        · exact Or.inl ⟨a, by omega, h2, h3⟩
    · rw [if_neg e, nbrs_bit2 n]
      constructor
      · rintro ⟨a, h1, h2⟩
        exact ⟨a, by omega, h2⟩
      · rintro ⟨a, h1, h2, h3⟩
        by_cases z : a = n
        · subst z; exact absurd h2 e
        · exact ⟨a, by omega, h2, h3⟩
theorem lwX_bit {g : Nat → Nat} {T r : Nat} (hT : T < 16384) {q : Nat → Nat} {p : Nat → Int32} {n : Nat} (h : QI g T r q p n) : ∀ t x, (lwX g T r t).testBit x = true ↔ ∃ a, a < n ∧ q a = x ∧ dp p x ≤ t
  | 0, x => by
    rw [lwX, pow_bit, decide_eq_true_eq]
    constructor
    · rintro rfl
      exact ⟨0, h.n0, h.q0, by rw [dp_0 h]; omega⟩
    · rintro ⟨a, a1, a2, a3⟩
      rcases QI_par h a1 with ⟨e, -⟩ | ⟨c, c1, c2, -⟩
      · rw [← a2, e, h.q0]
      · rw [← a2, dp_s h a1 c1 c2] at a3; omega
  | t + 1, x => by
    rw [lwX, Nat.testBit_or, Bool.or_eq_true, lwX_bit hT h t x, Nat.testBit_and, Bool.and_eq_true, nbrs_bit2]
    constructor
    · rintro (⟨a, a1, a2, a3⟩ | ⟨⟨i, i1, i2, i3⟩, hx⟩)
      · exact ⟨a, a1, a2, by omega⟩
      · obtain ⟨c, c1, c2, c3⟩ := (lwX_bit hT h t i).mp i2
        subst c2
        rcases h.a5 c x (Or.inl c1) c1 i3 hx with y | ⟨a, a1, a2, a3, a4⟩
        · rcases QI_par h c1 with ⟨-, z⟩ | ⟨d, d1, d2, -⟩
          · rw [z] at y; exact absurd y.symm (nI_no (bit_in hT hx))
          · have e := nI_inj (h.a1 d (by omega)).1 (bit_in hT hx) (d2.symm.trans y)
            rw [dp_s h c1 d1 d2] at c3
            exact ⟨d, by omega, e, by rw [← e]; omega⟩
        · subst a3
          exact ⟨a, a2, rfl, by rw [dp_s h a2 a1 a4]; omega⟩
    · rintro ⟨a, a1, a2, a3⟩
      by_cases e : dp p x ≤ t
      · exact Or.inl ⟨a, a1, a2, e⟩
      · right
        subst a2
        rcases QI_par h a1 with ⟨e2, -⟩ | ⟨c, c1, c2, c3⟩
        · exfalso
          apply e
          rw [e2, h.q0, dp_0 h]; omega
        · rw [dp_s h a1 c1 c2] at a3
          exact ⟨⟨q c, (h.a1 c (by omega)).1, (lwX_bit hT h t (q c)).mpr ⟨c, by omega, rfl, by omega⟩, c3⟩, (h.a1 a a1).2⟩
theorem lwW_eq {g : Nat → Nat} {T r M : Nat} : ∀ N, M ≤ N → (M = 0 ∨ lwX g T r M ≠ lwX g T r (M - 1)) → (∀ t, M ≤ t → t < N → lwX g T r (t + 1) = lwX g T r t) → lwW g T r N = M
  | 0, h1, _, _ => by rw [lwW]; omega
  | N + 1, h1, h2, h3 => by
    rw [lwW]
    by_cases e : M = N + 1
    · subst e
      rcases h2 with z | z
      · omega
      · rw [Nat.add_sub_cancel] at z
        rw [if_pos z]
    · rw [if_neg (by rw [h3 N (by omega) (by omega)]; exact fun z => z rfl)]
      exact lwW_eq N (by omega) h2 (fun t a b => h3 t a (by omega))
/-- the last one of the queue tells the longest way -/
theorem dp_last {g : Nat → Nat} (hg : ∀ i, i < 14 → g i < 16384) {T r : Nat} (hT : T < 16384) {q : Nat → Nat} {p : Nat → Int32} {n : Nat} (h : QI g T r q p n) : dp p (q (n - 1)) = lwW g T r 13 := by
  have hn := h.n14
  have h0 := h.n0
  have hr14 : r < 14 := by rw [← h.q0]; exact (h.a1 0 h0).1
  have hmax : ∀ a, a < n → dp p (q a) ≤ dp p (q (n - 1)) := fun a ha => dp_mono h a a (n - 1) (Nat.le_refl _) (by omega) (by omega)
  have hle := dp_le h (n - 1) (n - 1) (Nat.le_refl _) (by omega)
  refine (lwW_eq 13 (by omega) ?_ (fun t h1 h2 => ?_)).symm
  · by_cases e : dp p (q (n - 1)) = 0
    · exact Or.inl e
    · right
      intro z
      have h1 : (lwX g T r (dp p (q (n - 1)))).testBit (q (n - 1)) = true := (lwX_bit hT h _ _).mpr ⟨n - 1, by omega, rfl, Nat.le_refl _⟩
      rw [z] at h1
      obtain ⟨a, a1, a2, a3⟩ := (lwX_bit hT h _ _).mp h1
      omega
  · refine eq_of_bits (lwX_lt hg hr14 hT _) (lwX_lt hg hr14 hT _) (fun x _ => ?_)
    have e : (lwX g T r (t + 1)).testBit x = true ↔ (lwX g T r t).testBit x = true := by
      rw [lwX_bit hT h, lwX_bit hT h]
      constructor
      · rintro ⟨a, a1, a2, a3⟩
        exact ⟨a, a1, a2, by have := hmax a a1; rw [a2] at this; omega⟩
      · rintro ⟨a, a1, a2, a3⟩
        exact ⟨a, a1, a2, by omega⟩
    cases e1 : (lwX g T r (t + 1)).testBit x <;> cases e2 : (lwX g T r t).testBit x <;> simp_all
/-! the class's sets and the model's parents -/
def pmk (z : Int32) : Nat := if z < 0 then 0 else 2 ^ z.toNatClampNeg
theorem pmk_n {a : Nat} (ha : a < 14) : pmk (nI a) = 2 ^ a := by rw [pmk, if_neg (nI_pos (by omega)), nI_clamp (by omega)]
theorem sd_0 (T : Nat) : sd T 0 = T := by simp [sd]
theorem chQ {g : Nat → Nat} (hf : FG g) {T r : Nat} (hT : T < 16384) {q : Nat → Nat} {p : Nat → Int32} {n : Nat} (h : QI g T r q p n) {k : Nat} (hk : k < n) (b : Nat) : (g (q k) &&& sd (sd T (pmk (p (q k)))) (2 ^ q k)).testBit b = true ↔ ∃ a, k < a ∧ a < n ∧ q a = b ∧ p b = nI (q k) := by
  have hk14 := (h.a1 k hk).1
  rw [chd_bit]
  constructor
  · rintro ⟨h1, h2, h3⟩
    rw [sd_bit, Bool.and_eq_true] at h2
    rcases h.a5 k b (Or.inl hk) hk h1 h2.1 with y | y
    · rw [y, pmk_n (bit_in hT h2.1), pow_bit] at h2
      simp at h2
    · exact y
  · rintro ⟨a, a1, a2, a3, a4⟩
    have hb14 : b < 14 := by rw [← a3]; exact (h.a1 a a2).1
    have hbT : T.testBit b = true := by rw [← a3]; exact (h.a1 a a2).2
    rcases QI_par h a2 with ⟨e, -⟩ | ⟨c, c1, c2, c3⟩
    · omega
    · rw [a3, a4] at c2
      have hck : c = k := h.a2 c k (by omega) hk (nI_inj (h.a1 c (by omega)).1 hk14 c2.symm)
      rw [hck, a3] at c3
      refine ⟨c3, ?_, fun e => by have := h.a2 a k a2 hk (a3.trans e); omega⟩
      rw [sd_bit, hbT, Bool.true_and, Bool.not_eq_true']
      rcases QI_par h hk with ⟨-, y⟩ | ⟨d, d1, d2, -⟩
      · rw [y, pmk, if_pos neg1, Nat.zero_testBit]
      · rw [d2, pmk_n (h.a1 d (by omega)).1, pow_bit, decide_eq_false_iff_not]
        intro e
        have := h.a2 d a (by omega) a2 (e.trans a3.symm)
        omega
/-- a branch's set, without its parent or without all that lies above it -/
theorem br_comp {g : Nat → Nat} (hf : FG g) {T r : Nat} (hT : T < 16384) {q : Nat → Nat} {p : Nat → Int32} {n : Nat} (h : QI g T r q p n) {k : Nat} (hk : k < n) {b : Nat} (hb : (g (q k) &&& sd (sd T (pmk (p (q k)))) (2 ^ q k)).testBit b = true) : comp g (sd T (2 ^ q k)) b = comp g (sd (sd T (pmk (p (q k)))) (2 ^ q k)) b := by
  have hk14 := (h.a1 k hk).1
  have hb2 := chd_bit.mp hb
  have hb3 := hb2.2.1
  rw [sd_bit, Bool.and_eq_true, Bool.not_eq_true'] at hb3
  refine comp_cut (sd_14 _ hT) (bit_in hT hb3.1) (fun x hx => ?_) (fun x hx => ?_)
  · rw [sd_sub, sd_bit, Bool.and_eq_true] at hx
    exact sd_sub.mpr ⟨hx.1.1, hx.2⟩
  · have hx2 := sd_sub.mp (rch_in (sd_sub.mpr ⟨hb3.1, hb2.2.2⟩) hx)
    refine sd_sub.mpr ⟨?_, hx2.2⟩
    rw [sd_bit, hx2.1, Bool.true_and, Bool.not_eq_true']
    rcases QI_par h hk with ⟨-, y⟩ | ⟨d, d1, d2, d3⟩
    · rw [y, pmk, if_pos neg1, Nat.zero_testBit]
    · have hd14 := (h.a1 d (by omega)).1
      rw [d2, pmk_n hd14, pow_bit] at hb3 ⊢
      rw [decide_eq_false_iff_not]
      intro e
      rw [← e] at hx
      have hne : b ≠ q d := fun z => by
        rw [z] at hb3
        simp at hb3
      refine nb_no hf hT hk14 hb2.1 ?_ hne hx
      rw [← hf.2.1 _ hd14 _ hk14]
      exact d3
theorem par_in {g : Nat → Nat} {T r : Nat} {q : Nat → Nat} {p : Nat → Int32} {n : Nat} (h : QI g T r q p n) {k : Nat} (hk : k < n) : (sd T (pmk (p (q k)))).testBit (q k) = true := by
  rw [sd_bit, (h.a1 k hk).2, Bool.true_and, Bool.not_eq_true']
  rcases QI_par h hk with ⟨-, y⟩ | ⟨d, d1, d2, d3⟩
  · rw [y, pmk, if_pos neg1, Nat.zero_testBit]
  · rw [d2, pmk_n (h.a1 d (by omega)).1, pow_bit, decide_eq_false_iff_not]
    intro e
    have := h.a2 d k (by omega) hk e
    omega
/-- the code of the queue's k-th node out of those of its branches -/
theorem CD_que {g : Nat → Nat} (hf : FG g) {T r : Nat} (hT : T < 16384) {q : Nat → Nat} {p : Nat → Int32} {n : Nat} (h : QI g T r q p n) {k : Nat} (hk : k < n) : CD g (sd T (pmk (p (q k)))) (q k) = 2 * selV (fun b => CD g (sd T (2 ^ q k)) b) (g (q k) &&& sd (sd T (pmk (p (q k)))) (2 ^ q k)) 1 := by
  have hW := sd_14 (pmk (p (q k))) hT
  have hin := par_in h hk
  rw [CD_eq g hW hin]
  refine congrArg (fun z => 2 * z) ?_
  refine selV_congr 14 _ 1 (chd_lt hW) (pc_le _) (fun b hb => ?_)
  have hb2 := chd_bit.mp hb
  have hb3 := hb2.2.1
  rw [sd_bit, Bool.and_eq_true] at hb3
  rw [CD_comp g 14 _ b (sd_14 _ hW) (sd_sub.mpr hb2.2) (pc_le _), CD_comp g 14 _ b (sd_14 _ hT) (sd_sub.mpr ⟨hb3.1, hb2.2.2⟩) (pc_le _), br_comp hf hT h hk hb]
theorem wt_que {g : Nat → Nat} (hf : FG g) {T r : Nat} (hT : T < 16384) {q : Nat → Nat} {p : Nat → Int32} {n : Nat} (h : QI g T r q p n) {k : Nat} (hk : k < n) : wtD g (sd T (pmk (p (q k)))) (q k) = 1 + sm (fun b => wtD g (sd T (2 ^ q k)) b) (g (q k) &&& sd (sd T (pmk (p (q k)))) (2 ^ q k)) 14 := by
  have hW := sd_14 (pmk (p (q k))) hT
  rw [wt_eq hf hW (par_in h hk)]
  refine congrArg (fun z => 1 + z) ?_
  refine sm_congr (fun b hb => ?_) 14
  rw [wtD, wtD, br_comp hf hT h hk hb]
