/-! the model's queue -/
theorem nI_inj {a b : Nat} (ha : a < 14) (hb : b < 14) (h : nI a = nI b) : a = b := (nI_eq (by omega) (by omega)).mp h
theorem nI_no {a : Nat} (ha : a < 14) : nI a ≠ -1 := nI_m1 (by omega)
def um (q : Nat → Nat) : Nat → Nat
  | 0 => 0
  | k + 1 => um q k ||| 2 ^ q k
theorem um_bit {q : Nat → Nat} {x : Nat} : ∀ n, (um q n).testBit x = true ↔ ∃ a, a < n ∧ q a = x
  | 0 => by
    rw [um, Nat.zero_testBit]
    exact ⟨fun z => (by cases z), fun ⟨a, h1, _⟩ => absurd h1 (Nat.not_lt_zero _)⟩
  | n + 1 => by
    rw [um, Nat.testBit_or, Bool.or_eq_true, um_bit n, pow_bit, decide_eq_true_eq]
    constructor
    · rintro (⟨a, h1, h2⟩ | h)
      · exact ⟨a, by omega, h2⟩
      · exact ⟨n, by omega, h⟩
    · rintro ⟨a, h1, h2⟩
      by_cases e : a = n
      · subst e; exact Or.inr h2
      · exact Or.inl ⟨a, by omega, h2⟩
theorem um_pc {q : Nat → Nat} : ∀ n, (∀ a, a < n → q a < 14) → (∀ a b, a < n → b < n → q a = q b → a = b) → pc (um q n) = n
  | 0, _, _ => pcn_zero 14
  | n + 1, h1, h2 => by
    rw [um, pc, pcn_or (fun x hx => ?_)]
    · have e1 := um_pc n (fun a ha => h1 a (by omega)) (fun a b ha hb => h2 a b (by omega) (by omega))
      have e2 := pc_two (h1 n (by omega))
      rw [pc] at e1 e2
      rw [e1, e2]
    · obtain ⟨a, a1, a2⟩ := (um_bit n).mp hx
      rw [pow_bit, decide_eq_false_iff_not]
      intro e
      have := h2 a n (by omega) (by omega) (a2.trans e.symm)
      omega
theorem um_lt {q : Nat → Nat} {n : Nat} (h1 : ∀ a, a < n → q a < 14) : um q n < 16384 := lt_of_bits (k := 14) (fun i hi => by
  cases e : (um q n).testBit i
  · rfl
  · obtain ⟨a, a1, a2⟩ := (um_bit n).mp e
    have := h1 a a1
    omega)
/-- n nodes are found, k of them are looked at wholly, the next one up to m -/
def WI (g : Nat → Nat) (T r : Nat) (q : Nat → Nat) (pI : Nat → Int32) (n k m : Nat) : Prop := (0 < n) ∧ (q 0 = r) ∧ (pI r = -1) ∧ (∀ a, a < n → q a < 14 ∧ T.testBit (q a) = true) ∧ (∀ a b, a < n → b < n → q a = q b → a = b) ∧ (∀ a, 0 < a → a < n → ∃ c, c < a ∧ c ≤ k ∧ (c = k → q a < m) ∧ pI (q a) = nI (q c) ∧ (g (q c)).testBit (q a) = true) ∧ (∀ a b c d, a ≤ b → b < n → c < n → d < n → pI (q a) = nI (q c) → pI (q b) = nI (q d) → c ≤ d) ∧ (∀ c x, (c < k ∨ (c = k ∧ x < m)) → c < n → (g (q c)).testBit x = true → T.testBit x = true → pI (q c) = nI x ∨ ∃ a, c < a ∧ a < n ∧ q a = x ∧ pI x = nI (q c))
theorem WI_mk {g : Nat → Nat} {T r : Nat} {q : Nat → Nat} {pI : Nat → Int32} {n k m : Nat} (n0 : 0 < n) (q0 : q 0 = r) (p0 : pI r = -1) (a1 : ∀ a, a < n → q a < 14 ∧ T.testBit (q a) = true) (a2 : ∀ a b, a < n → b < n → q a = q b → a = b) (a3 : ∀ a, 0 < a → a < n → ∃ c, c < a ∧ c ≤ k ∧ (c = k → q a < m) ∧ pI (q a) = nI (q c) ∧ (g (q c)).testBit (q a) = true) (a4 : ∀ a b c d, a ≤ b → b < n → c < n → d < n → pI (q a) = nI (q c) → pI (q b) = nI (q d) → c ≤ d) (a5 : ∀ c x, (c < k ∨ (c = k ∧ x < m)) → c < n → (g (q c)).testBit x = true → T.testBit x = true → pI (q c) = nI x ∨ ∃ a, c < a ∧ a < n ∧ q a = x ∧ pI x = nI (q c)) : WI g T r q pI n k m := ⟨n0, q0, p0, a1, a2, a3, a4, a5⟩
theorem WI.n0 {g : Nat → Nat} {T r : Nat} {q : Nat → Nat} {pI : Nat → Int32} {n k m : Nat} (h : WI g T r q pI n k m) : 0 < n := h.1
theorem WI.q0 {g : Nat → Nat} {T r : Nat} {q : Nat → Nat} {pI : Nat → Int32} {n k m : Nat} (h : WI g T r q pI n k m) : q 0 = r := h.2.1
theorem WI.p0 {g : Nat → Nat} {T r : Nat} {q : Nat → Nat} {pI : Nat → Int32} {n k m : Nat} (h : WI g T r q pI n k m) : pI r = -1 := h.2.2.1
theorem WI.a1 {g : Nat → Nat} {T r : Nat} {q : Nat → Nat} {pI : Nat → Int32} {n k m : Nat} (h : WI g T r q pI n k m) : ∀ a, a < n → q a < 14 ∧ T.testBit (q a) = true := h.2.2.2.1
theorem WI.a2 {g : Nat → Nat} {T r : Nat} {q : Nat → Nat} {pI : Nat → Int32} {n k m : Nat} (h : WI g T r q pI n k m) : ∀ a b, a < n → b < n → q a = q b → a = b := h.2.2.2.2.1
theorem WI.a3 {g : Nat → Nat} {T r : Nat} {q : Nat → Nat} {pI : Nat → Int32} {n k m : Nat} (h : WI g T r q pI n k m) : ∀ a, 0 < a → a < n → ∃ c, c < a ∧ c ≤ k ∧ (c = k → q a < m) ∧ pI (q a) = nI (q c) ∧ (g (q c)).testBit (q a) = true := h.2.2.2.2.2.1
theorem WI.a4 {g : Nat → Nat} {T r : Nat} {q : Nat → Nat} {pI : Nat → Int32} {n k m : Nat} (h : WI g T r q pI n k m) : ∀ a b c d, a ≤ b → b < n → c < n → d < n → pI (q a) = nI (q c) → pI (q b) = nI (q d) → c ≤ d := h.2.2.2.2.2.2.1
theorem WI.a5 {g : Nat → Nat} {T r : Nat} {q : Nat → Nat} {pI : Nat → Int32} {n k m : Nat} (h : WI g T r q pI n k m) : ∀ c x, (c < k ∨ (c = k ∧ x < m)) → c < n → (g (q c)).testBit x = true → T.testBit x = true → pI (q c) = nI x ∨ ∃ a, c < a ∧ a < n ∧ q a = x ∧ pI x = nI (q c) := h.2.2.2.2.2.2.2
theorem WI.n14 {g : Nat → Nat} {T r : Nat} {q : Nat → Nat} {pI : Nat → Int32} {n k m : Nat} (h : WI g T r q pI n k m) : n ≤ 14 := by
  have e := um_pc n (fun a ha => (h.a1 a ha).1) h.a2
  have := pc_le (um q n)
  omega
theorem WI_0 {g : Nat → Nat} {T r : Nat} (qu : Nat → Nat) (pj : Nat → Int32) (hr : r < 14) (hT : T.testBit r = true) : WI g T r (upN qu 0 r) (upd pj r (-1)) 1 0 0 := WI_mk
  (n0 := by omega)
  (q0 := upN_s _ _ _)
  (p0 := by simp [upd])
  (a1 := fun a ha => by
    rw [show a = 0 by omega, upN_s]; exact ⟨hr, hT⟩)
  (a2 := fun a b ha hb _ => by omega)
  (a3 := fun a h1 h2 => by omega)
  (a4 := fun a b c d _ hb hc hd _ _ => by omega)
  (a5 := fun c x h _ _ _ => by omega)
theorem WI_no {g : Nat → Nat} {T r : Nat} {q : Nat → Nat} {pI : Nat → Int32} {n k m : Nat} (h : WI g T r q pI n k m) (hm : (g (q k)).testBit m = true → T.testBit m = true → pI (q k) = nI m) : WI g T r q pI n k (m + 1) := WI_mk
  (n0 := h.n0)
  (q0 := h.q0)
  (p0 := h.p0)
  (a1 := h.a1)
  (a2 := h.a2)
  (a3 := fun a h1 h2 => by
    obtain ⟨c, c1, c2, c3, c4⟩ := h.a3 a h1 h2
    exact ⟨c, c1, c2, fun e => by have := c3 e; omega, c4⟩)
  (a4 := h.a4)
  (a5 := fun c x hc hn he hx => by
    by_cases e : c = k ∧ x = m
    · obtain ⟨rfl, rfl⟩ := e
      exact Or.inl (hm he hx)
    · exact h.a5 c x (by omega) hn he hx)
theorem WI_next {g : Nat → Nat} {T r : Nat} {q : Nat → Nat} {pI : Nat → Int32} {n k m : Nat} (h : WI g T r q pI n k m) (hm : ∀ x, T.testBit x = true → x < m) : WI g T r q pI n (k + 1) 0 := WI_mk
  (n0 := h.n0)
  (q0 := h.q0)
  (p0 := h.p0)
  (a1 := h.a1)
  (a2 := h.a2)
  (a3 := fun a h1 h2 => by
    obtain ⟨c, c1, c2, c3, c4⟩ := h.a3 a h1 h2
    exact ⟨c, c1, by omega, fun e => by omega, c4⟩)
  (a4 := h.a4)
  (a5 := fun c x hc hn he hx => h.a5 c x (by
    have := hm x hx
    omega) hn he hx)
/-- a node that is found now was not found before -/
theorem WI_new {g : Nat → Nat} (hf : FG g) {T r : Nat} {q : Nat → Nat} {pI : Nat → Int32} {n k m : Nat} (h : WI g T r q pI n k m) (hk : k < n) (hg : (g (q k)).testBit m = true) (hp : pI (q k) ≠ nI m) : ∀ b, b < n → q b ≠ m := fun b hb hq => by
  have hu := (h.a1 k hk).1
  have hm14 := bit_in (hf.1 _ hu) hg
  obtain ⟨hne, hbr⟩ := hf.2.2 (q k) m hu hm14 hg
  have hr14 : r < 14 := by rw [← h.q0]; exact (h.a1 0 h.n0).1
  have key : ∀ N a, a ≤ N → a < n → rch (lk2 g (q k) m false) 16383 r (q a) := by
    intro N
    induction N with
    | zero =>
      intro a ha hn
      rw [show a = 0 by omega, h.q0]
      exact rch_self _ _ _
    | succ N ih =>
      intro a ha hn
      by_cases e0 : a = 0
      · rw [e0, h.q0]; exact rch_self _ _ _
      · obtain ⟨c, c1, c2, c3, c4, c5⟩ := h.a3 a (by omega) hn
        refine rch_step (ih c (by omega) (by omega)) ((lk2_del hne).mpr ⟨c5, fun z => ?_⟩) (F_bit (h.a1 a hn).1)
        rcases z with ⟨z1, z2⟩ | ⟨z1, z2⟩
        · have e := h.a2 c k (by omega) hk z1
          have := c3 e
          omega
        · rw [z2, z1] at c4
          exact hp c4
  have h1 := key k k (Nat.le_refl _) hk
  have h2 := key b b (Nat.le_refl _) hb
  rw [hq] at h2
  exact hbr (rch_trans (rch_sym (lk2_sym hf.2.1 hne false) (by decide) (F_bit hr14) h1) h2)
theorem WI_add {g : Nat → Nat} (hf : FG g) {T r : Nat} {q : Nat → Nat} {pI : Nat → Int32} {n k m : Nat} (h : WI g T r q pI n k m) (hk : k < n) (hg : (g (q k)).testBit m = true) (hT : T.testBit m = true) (hp : pI (q k) ≠ nI m) : n < 14 ∧ WI g T r (upN q n m) (upd pI m (nI (q k))) (n + 1) k (m + 1) := by
  have hnew := WI_new hf h hk hg hp
  have hu := (h.a1 k hk).1
  have hm14 := bit_in (hf.1 _ hu) hg
  have hqo : ∀ a, a < n → upN q n m a = q a := fun a ha => upN_n _ _ (by omega)
  have hqn : upN q n m n = m := upN_s _ _ _
  have hpo : ∀ a, a < n → upd pI m (nI (q k)) (q a) = pI (q a) := fun a ha => by
    have := hnew a ha
    simp [upd, this]
  have hpn : upd pI m (nI (q k)) m = nI (q k) := by simp [upd]
  have W : WI g T r (upN q n m) (upd pI m (nI (q k))) (n + 1) k (m + 1) := WI_mk
    (n0 := by omega)
    (q0 := by rw [hqo 0 h.n0]; exact h.q0)
    (p0 := by
      have := hpo 0 h.n0
      rw [h.q0] at this
      rw [this]; exact h.p0)
    (a1 := fun a ha => by
      by_cases e : a = n
      · rw [e, hqn]; exact ⟨hm14, hT⟩
      · rw [hqo a (by omega)]; exact h.a1 a (by omega))
    (a2 := fun a b ha hb hab => by
      by_cases e : a = n
      · by_cases e2 : b = n
        · omega
        · rw [e, hqn, hqo b (by omega)] at hab
          exact absurd hab.symm (hnew b (by omega))
      · by_cases e2 : b = n
        · rw [e2, hqn, hqo a (by omega)] at hab
          exact absurd hab (hnew a (by omega))
        · rw [hqo a (by omega), hqo b (by omega)] at hab
          exact h.a2 a b (by omega) (by omega) hab)
    (a3 := fun a h1 h2 => by
      by_cases e : a = n
      · refine ⟨k, by omega, Nat.le_refl _, fun _ => ?_, ?_, ?_⟩
        · rw [e, hqn]; omega
        · rw [e, hqn, hqo k hk]; exact hpn
        · rw [e, hqn, hqo k hk]; exact hg
      · obtain ⟨c, c1, c2, c3, c4, c5⟩ := h.a3 a h1 (by omega)
        refine ⟨c, c1, c2, fun z => ?_, ?_, ?_⟩
        · rw [hqo a (by omega)]; have := c3 z; omega
        · rw [hqo a (by omega), hqo c (by omega), hpo a (by omega)]; exact c4
        · rw [hqo a (by omega), hqo c (by omega)]; exact c5)
    (a4 := fun a b c d hab hb hc hd e1 e2 => by
      have hpar : ∀ a c, a < n → c < n + 1 → upd pI m (nI (q k)) (upN q n m a) = nI (upN q n m c) → c < n ∧ c ≤ k ∧ pI (q a) = nI (q c) := fun a c ha hc e => by
        rw [hqo a ha, hpo a ha] at e
        by_cases z0 : a = 0
        · subst z0
          rw [h.q0, h.p0] at e
          exfalso
          by_cases z : c = n
          · rw [z, hqn] at e; exact nI_no hm14 e.symm
          · rw [hqo c (by omega)] at e; exact nI_no (h.a1 c (by omega)).1 e.symm
        · obtain ⟨c', c1, c2, c3, c4, c5⟩ := h.a3 a (by omega) ha
          by_cases z : c = n
          · exfalso
            rw [z, hqn, c4] at e
            exact hnew c' (by omega) (nI_inj (h.a1 c' (by omega)).1 hm14 e)
          · rw [hqo c (by omega)] at e
            have : c' = c := h.a2 c' c (by omega) (by omega) (nI_inj (h.a1 c' (by omega)).1 (h.a1 c (by omega)).1 (c4.symm.trans e))
            exact ⟨by omega, by omega, e⟩
      by_cases z : b = n
      · have hd2 : d = k := by
          rw [z, hqn, hpn] at e2
          by_cases z2 : d = n
          · rw [z2, hqn] at e2
            exact absurd (nI_inj hu hm14 e2) (hnew k hk)
          · rw [hqo d (by omega)] at e2
            exact (h.a2 k d hk (by omega) (nI_inj hu (h.a1 d (by omega)).1 e2)).symm
        by_cases z3 : a = n
        · rw [z3, hqn, hpn] at e1
          rw [z, hqn, hpn] at e2
          have : upN q n m c = upN q n m d := by
            have x1 : upN q n m c < 14 := by
              by_cases y : c = n
              · rw [y, hqn]; exact hm14
              · rw [hqo c (by omega)]; exact (h.a1 c (by omega)).1
            have x2 : upN q n m d < 14 := by
              by_cases y : d = n
              · rw [y, hqn]; exact hm14
              · rw [hqo d (by omega)]; exact (h.a1 d (by omega)).1
            exact nI_inj x1 x2 (e1.symm.trans e2)
          by_cases y : c = n
          · rw [y, hqn, hqo d (by omega)] at this
            exact absurd this.symm (hnew d (by omega))
          · rw [hqo c (by omega), hqo d (by omega)] at this
            exact Nat.le_of_eq (h.a2 c d (by omega) (by omega) this)
        · have := (hpar a c (by omega) hc e1).2.1
          omega
      · have p1 := hpar a c (by omega) hc e1
        have p2 := hpar b d (by omega) hd e2
        exact h.a4 a b c d hab (by omega) p1.1 p2.1 p1.2.2 p2.2.2)
    (a5 := fun c x hc hn he hx => by
      by_cases z : c = n
      · omega
      · rw [hqo c (by omega)] at he ⊢
        by_cases e : c = k ∧ x = m
        · obtain ⟨rfl, rfl⟩ := e
          exact Or.inr ⟨n, by omega, by omega, hqn, hpn⟩
        · rw [hpo c (by omega)]
          rcases h.a5 c x (by omega) (by omega) he hx with y | ⟨a, y1, y2, y3, y4⟩
          · exact Or.inl y
          · refine Or.inr ⟨a, y1, by omega, by rw [hqo a y2]; exact y3, ?_⟩
            rw [← y3, hpo a y2, y3]; exact y4)
  exact ⟨by have := W.n14; omega, W⟩
/-- the queue at its end -/
def QI (g : Nat → Nat) (T r : Nat) (q : Nat → Nat) (pI : Nat → Int32) (n : Nat) : Prop := WI g T r q pI n n 0
theorem QI_par {g : Nat → Nat} {T r : Nat} {q : Nat → Nat} {pI : Nat → Int32} {n : Nat} (h : QI g T r q pI n) {a : Nat} (ha : a < n) : (a = 0 ∧ pI (q a) = -1) ∨ ∃ c, c < a ∧ pI (q a) = nI (q c) ∧ (g (q c)).testBit (q a) = true := by
  by_cases e : a = 0
  · subst e; exact Or.inl ⟨rfl, by rw [h.q0]; exact h.p0⟩
  · obtain ⟨c, c1, -, -, c4, c5⟩ := h.a3 a (by omega) ha
    exact Or.inr ⟨c, c1, c4, c5⟩
theorem QI_all {g : Nat → Nat} {T r : Nat} (hT : T < 16384) {q : Nat → Nat} {pI : Nat → Int32} {n : Nat} (h : QI g T r q pI n) : um q n = comp g T r := by
  refine comp_eq (um_lt (fun a ha => (h.a1 a ha).1)) ((um_bit n).mpr ⟨0, h.n0, h.q0⟩) (fun i hi j hj hw => ?_) (fun i hi => ?_)
  · obtain ⟨c, c1, c2⟩ := (um_bit n).mp hi
    have hj14 := bit_in hT hw
    rw [← c2] at hj
    rcases h.a5 c j (Or.inl c1) c1 hj hw with z | ⟨a, a1, a2, a3, -⟩
    · rcases QI_par h c1 with ⟨-, y⟩ | ⟨d, d1, d2, -⟩
      · rw [y] at z; exact absurd z.symm (nI_no hj14)
      · rw [d2] at z
        exact (um_bit n).mpr ⟨d, by omega, nI_inj (h.a1 d (by omega)).1 hj14 z⟩
    · exact (um_bit n).mpr ⟨a, a2, a3⟩
  · obtain ⟨a, a1, a2⟩ := (um_bit n).mp hi
    have key : ∀ N a, a ≤ N → a < n → rch g T r (q a) := by
      intro N
      induction N with
      | zero =>
        intro a ha hn
        rw [show a = 0 by omega, h.q0]
        exact rch_self _ _ _
      | succ N ih =>
        intro a ha hn
        rcases QI_par h hn with ⟨y, -⟩ | ⟨d, d1, -, d3⟩
        · rw [y, h.q0]; exact rch_self _ _ _
        · exact rch_step (ih d (by omega) (by omega)) d3 (h.a1 a hn).2
    rw [← a2]
    exact key a a (Nat.le_refl _) a1
theorem QI_n {g : Nat → Nat} {T r : Nat} (hT : T < 16384) {q : Nat → Nat} {pI : Nat → Int32} {n : Nat} (h : QI g T r q pI n) : n = pc (comp g T r) := by
  rw [← QI_all hT h]
  exact (um_pc n (fun a ha => (h.a1 a ha).1) h.a2).symm
