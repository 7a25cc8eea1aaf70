/-! sets of nodes as masks -/
def mk (p : Nat → Bool) : Nat → Nat
  | 0 => 0
  | n + 1 => mk p n ||| (if p n then 2 ^ n else 0)
theorem mk_bit (p : Nat → Bool) (i : Nat) : ∀ n, (mk p n).testBit i = (decide (i < n) && p i)
  | 0 => by simp [mk]
  | n + 1 => by
    rw [mk, Nat.testBit_or, mk_bit p i n]
    by_cases h : p n
    · rw [if_pos h, Nat.testBit_two_pow]
      by_cases e : n = i
      · subst e; simp [h]
      · have : (decide (i < n + 1)) = decide (i < n) := by
          rw [decide_eq_decide]; omega
        simp [e, this]
    · rw [if_neg h, Nat.zero_testBit, Bool.or_false]
      by_cases e : i = n
      · subst e; simp [h]
      · have : (decide (i < n + 1)) = decide (i < n) := by
          rw [decide_eq_decide]; omega
        rw [this]
theorem mk_lt (p : Nat → Bool) (n : Nat) : mk p n < 2 ^ n := lt_of_bits (fun i hi => by
  rw [mk_bit]; simp; omega)
/-- how many bits below k -/
def pcn (S : Nat) : Nat → Nat
  | 0 => 0
  | k + 1 => pcn S k + (S.testBit k).toNat
def pc (S : Nat) : Nat := pcn S 14
theorem pcn_le (S : Nat) : ∀ k, pcn S k ≤ k
  | 0 => Nat.le_refl _
  | k + 1 => by
    have h := pcn_le S k
    rw [pcn]
    cases S.testBit k <;> simp <;> omega
theorem pcn_mono {S T : Nat} (h : ∀ i, S.testBit i = true → T.testBit i = true) : ∀ k, pcn S k ≤ pcn T k
  | 0 => Nat.le_refl _
  | k + 1 => by
    have h1 := pcn_mono h k
    have h2 := h k
    rw [pcn, pcn]
    cases e : S.testBit k
    · simp; omega
    · rw [h2 e]; omega
theorem pcn_lt {S T : Nat} (h : ∀ i, S.testBit i = true → T.testBit i = true) {j : Nat} (hj : T.testBit j = true) (hn : S.testBit j = false) : ∀ {k}, j < k → pcn S k < pcn T k
  | 0, hk => absurd hk (Nat.not_lt_zero _)
  | k + 1, hk => by
    rw [pcn, pcn]
    by_cases e : j = k
    · subst e
      rw [hj, hn]
      have := pcn_mono h j
      simp; omega
    · have h1 := pcn_lt h hj hn (show j < k by omega)
      have h2 := h k
      cases e : S.testBit k
      · simp; omega
      · rw [h2 e]; omega
theorem pc_le (S : Nat) : pc S ≤ 14 := pcn_le S 14
theorem pc_lt {S T : Nat} (h : ∀ i, S.testBit i = true → T.testBit i = true) {j : Nat} (hj : T.testBit j = true) (hn : S.testBit j = false) (hk : j < 14) : pc S < pc T := pcn_lt h hj hn hk
theorem pcn_congr {S T : Nat} : ∀ {k}, (∀ i, i < k → S.testBit i = T.testBit i) → pcn S k = pcn T k
  | 0, _ => rfl
  | k + 1, h => by rw [pcn, pcn, pcn_congr (fun i hi => h i (by omega)), h k (by omega)]
theorem pcn_0 {S : Nat} : ∀ {k}, pcn S k = 0 → ∀ i, i < k → S.testBit i = false
  | 0, _, i, hi => absurd hi (Nat.not_lt_zero _)
  | k + 1, h, i, hi => by
    rw [pcn] at h
    by_cases e : i = k
    · subst e
      cases hb : S.testBit i
      · rfl
      · rw [hb] at h; simp at h
    · exact pcn_0 (show pcn S k = 0 by omega) i (by omega)
theorem pcn_zero : ∀ k, pcn 0 k = 0
  | 0 => rfl
  | k + 1 => by rw [pcn, pcn_zero k, Nat.zero_testBit]; rfl
theorem eq0_of_bits {S : Nat} (hS : S < 16384) (h : ∀ i, i < 14 → S.testBit i = false) : S = 0 := by
  apply Nat.eq_of_testBit_eq
  intro i
  rw [Nat.zero_testBit]
  by_cases hi : i < 14
  · exact h i hi
  · exact bit_of_lt (k := 14) hS (by omega)
theorem eq_of_bits {S T : Nat} (hS : S < 16384) (hT : T < 16384) (h : ∀ i, i < 14 → S.testBit i = T.testBit i) : S = T := by
  apply Nat.eq_of_testBit_eq
  intro i
  by_cases hi : i < 14
  · exact h i hi
  · rw [bit_of_lt (k := 14) hS (by omega), bit_of_lt (k := 14) hT (by omega)]
theorem bit_ex {S : Nat} (hS : S < 16384) (h : S ≠ 0) : ∃ i, i < 14 ∧ S.testBit i = true := by
  by_cases q : ∃ i, i < 14 ∧ S.testBit i = true
  · exact q
  · exact absurd (eq0_of_bits hS (fun i hi => by
      cases e : S.testBit i
      · rfl
      · exact absurd ⟨i, hi, e⟩ q)) h
theorem bit_in {S i : Nat} (hS : S < 16384) (h : S.testBit i = true) : i < 14 := by
  rcases Nat.lt_or_ge i 14 with q | q
  · exact q
  · rw [bit_of_lt (k := 14) hS q] at h; cases h
theorem pc_pos {S : Nat} (hS : S < 16384) (h : S ≠ 0) : 0 < pc S := by
  rcases Nat.eq_zero_or_pos (pc S) with q | q
  · exact absurd (eq0_of_bits hS (pcn_0 q)) h
  · exact q
theorem pow_bit (k i : Nat) : (2 ^ k).testBit i = decide (k = i) := Nat.testBit_two_pow
/-- the lowest node -/
def lowF (S : Nat) : Nat → Nat → Nat
  | 0, k => k
  | f + 1, k => if S.testBit k then k else lowF S f (k + 1)
def low (S : Nat) : Nat := lowF S 14 0
theorem lowF_spec {S : Nat} : ∀ {f k : Nat}, (∃ i, k ≤ i ∧ i < k + f ∧ S.testBit i = true) → k ≤ lowF S f k ∧ lowF S f k < k + f ∧ S.testBit (lowF S f k) = true ∧ ∀ i, k ≤ i → i < lowF S f k → S.testBit i = false
  | 0, k, h => by obtain ⟨i, h1, h2, -⟩ := h; omega
  | f + 1, k, h => by
    rw [lowF]
    by_cases e : S.testBit k
    · rw [if_pos e]
      exact ⟨Nat.le_refl _, by omega, e, fun i h1 h2 => by omega⟩
    · rw [if_neg e]
      obtain ⟨i, h1, h2, h3⟩ := h
      have hk : i ≠ k := fun q => e (q ▸ h3)
      obtain ⟨a, b, c, d⟩ := lowF_spec (f := f) (k := k + 1) ⟨i, by omega, by omega, h3⟩
      exact ⟨by omega, by omega, c, fun j h4 h5 => by
        by_cases q : j = k
        · subst q
          cases hh : S.testBit j
          · rfl
          · exact absurd hh e
        · exact d j (by omega) h5⟩
theorem low_spec {S : Nat} (hS : S < 16384) (h : S ≠ 0) : low S < 14 ∧ S.testBit (low S) = true ∧ ∀ i, i < low S → S.testBit i = false := by
  obtain ⟨i, h1, h2⟩ := bit_ex hS h
  obtain ⟨-, b, c, d⟩ := lowF_spec (f := 14) (k := 0) ⟨i, Nat.zero_le _, by omega, h2⟩
  exact ⟨by simpa [low] using b, c, fun i hi => d i (Nat.zero_le _) hi⟩
theorem low_eq {S k : Nat} (hk : k < 14) (h : S.testBit k = true) (hl : ∀ i, i < k → S.testBit i = false) : low S = k := by
  obtain ⟨-, b, c, d⟩ := lowF_spec (S := S) (f := 14) (k := 0) ⟨k, Nat.zero_le _, by omega, h⟩
  rcases Nat.lt_trichotomy (low S) k with q | q | q
  · have := hl (low S) q
    rw [show low S = lowF S 14 0 from rfl, c] at this
    cases this
  · exact q
  · have := d k (Nat.zero_le _) q
    rw [h] at this
    cases this
/-! parts of a graph -/
def cls (g : Nat → Nat) (W Y : Nat) : Prop := ∀ i, Y.testBit i = true → ∀ j, (g i).testBit j = true → W.testBit j = true → Y.testBit j = true
def rch (g : Nat → Nat) (W a b : Nat) : Prop := ∀ Y, cls g W Y → Y.testBit a = true → Y.testBit b = true
noncomputable def comp (g : Nat → Nat) (W a : Nat) : Nat := mk (fun i => @decide (rch g W a i) (Classical.propDecidable _)) 14
theorem comp_lt (g : Nat → Nat) (W a : Nat) : comp g W a < 16384 := mk_lt _ 14
theorem comp_bit (g : Nat → Nat) (W a i : Nat) : (comp g W a).testBit i = true ↔ i < 14 ∧ rch g W a i := by
  rw [comp, mk_bit]
  simp
theorem rch_self (g : Nat → Nat) (W a : Nat) : rch g W a a := fun _ _ h => h
theorem rch_step {g : Nat → Nat} {W a i j : Nat} (h : rch g W a i) (hj : (g i).testBit j = true) (hW : W.testBit j = true) : rch g W a j := fun Y hc ha => hc i (h Y hc ha) j hj hW
theorem rch_trans {g : Nat → Nat} {W a b c : Nat} (h : rch g W a b) (h2 : rch g W b c) : rch g W a c := fun Y hc ha => h2 Y hc (h Y hc ha)
theorem cls_W {g : Nat → Nat} (W : Nat) : cls g W W := fun _ _ _ _ h => h
theorem rch_in {g : Nat → Nat} {W a b : Nat} (ha : W.testBit a = true) (h : rch g W a b) : W.testBit b = true := h W (cls_W W) ha
theorem comp_self (g : Nat → Nat) (W : Nat) {a : Nat} (ha : a < 14) : (comp g W a).testBit a = true := (comp_bit g W a a).mpr ⟨ha, rch_self g W a⟩
theorem comp_in {g : Nat → Nat} {W a i : Nat} (ha : W.testBit a = true) (h : (comp g W a).testBit i = true) : W.testBit i = true := rch_in ha ((comp_bit g W a i).mp h).2
theorem comp_cls {g : Nat → Nat} {W : Nat} (hW : W < 16384) (a : Nat) : cls g W (comp g W a) := fun i hi j hj hw => (comp_bit g W a j).mpr ⟨bit_in hW hw, rch_step ((comp_bit g W a i).mp hi).2 hj hw⟩
/-- what both walks come to -/
theorem comp_eq {g : Nat → Nat} {W a X : Nat} (hX : X < 16384) (ha : X.testBit a = true) (hc : cls g W X) (hm : ∀ i, X.testBit i = true → rch g W a i) : X = comp g W a :=
  eq_of_bits hX (comp_lt g W a) (fun i hi => by
    cases e : X.testBit i
    · cases e2 : (comp g W a).testBit i
      · rfl
      · have := ((comp_bit g W a i).mp e2).2 X hc ha
        rw [e] at this; cases this
    · exact ((comp_bit g W a i).mpr ⟨hi, hm i e⟩).symm)
/-! the trees, in their order -/
noncomputable def trL (g : Nat → Nat) (W : Nat) : Nat → Nat
  | 0 => W
  | k + 1 => sd (trL g W k) (comp g W (low (trL g W k)))
noncomputable def trT (g : Nat → Nat) (W k : Nat) : Nat := comp g W (low (trL g W k))
theorem trL_lt (g : Nat → Nat) {W : Nat} (hW : W < 16384) : ∀ k, trL g W k < 16384
  | 0 => hW
  | k + 1 => sd_14 _ (trL_lt g hW k)
theorem trL_pc (g : Nat → Nat) {W : Nat} (hW : W < 16384) : ∀ k, trL g W k = 0 ∨ pc (trL g W k) + k ≤ 14
  | 0 => Or.inr (pc_le W)
  | k + 1 => by
    by_cases h : trL g W (k + 1) = 0
    · exact Or.inl h
    · have h0 : trL g W k ≠ 0 := fun q => h (by rw [trL, q]; simp [sd])
      rcases trL_pc g hW k with q | q
      · exact absurd q h0
      · right
        obtain ⟨l1, l2, -⟩ := low_spec (trL_lt g hW k) h0
        have := pc_lt (S := trL g W (k + 1)) (T := trL g W k) (fun i hi => by
          rw [trL, sd_bit] at hi
          exact (Bool.and_eq_true_iff.mp hi).1) l2 (by
          rw [trL, sd_bit, comp_self g W l1]; simp) l1
        omega
theorem trL_14 (g : Nat → Nat) {W : Nat} (hW : W < 16384) : trL g W 14 = 0 := by
  rcases trL_pc g hW 14 with q | q
  · exact q
  · have := trL_lt g hW 14
    by_cases h : trL g W 14 = 0
    · exact h
    · have := pc_pos this h
      omega
theorem trL_0 {g : Nat → Nat} {W k : Nat} (h : trL g W k = 0) : trL g W (k + 1) = 0 := by rw [trL, h]; simp [sd]
/-- how many trees: the first number from which nothing is left -/
noncomputable def trCF (g : Nat → Nat) (W : Nat) : Nat → Nat → Nat
  | 0, k => k
  | f + 1, k => if trL g W k = 0 then k else trCF g W f (k + 1)
noncomputable def trC (g : Nat → Nat) (W : Nat) : Nat := trCF g W 14 0
theorem trCF_spec {g : Nat → Nat} {W : Nat} : ∀ {f k : Nat}, trL g W (k + f) = 0 → k ≤ trCF g W f k ∧ trCF g W f k ≤ k + f ∧ trL g W (trCF g W f k) = 0 ∧ ∀ i, k ≤ i → i < trCF g W f k → trL g W i ≠ 0
  | 0, k, h => ⟨Nat.le_refl _, Nat.le_refl _, h, fun i h1 h2 => absurd h2 (by rw [trCF]; omega)⟩
  | f + 1, k, h => by
    rw [trCF]
    by_cases e : trL g W k = 0
    · rw [if_pos e]
      exact ⟨Nat.le_refl _, by omega, e, fun i h1 h2 => by omega⟩
    · rw [if_neg e]
      obtain ⟨a, b, c, d⟩ := trCF_spec (g := g) (W := W) (f := f) (k := k + 1) (by rw [show k + 1 + f = k + (f + 1) by omega]; exact h)
      exact ⟨by omega, by omega, c, fun i h1 h2 => by
        by_cases q : i = k
        · subst q; exact e
        · exact d i (by omega) h2⟩
theorem trC_spec (g : Nat → Nat) {W : Nat} (hW : W < 16384) : trC g W ≤ 14 ∧ trL g W (trC g W) = 0 ∧ ∀ i, i < trC g W → trL g W i ≠ 0 := by
  obtain ⟨-, b, c, d⟩ := trCF_spec (g := g) (W := W) (f := 14) (k := 0) (by rw [Nat.zero_add]; exact trL_14 g hW)
  exact ⟨by simpa [trC] using b, c, fun i hi => d i (Nat.zero_le _) hi⟩
theorem trL_z {g : Nat → Nat} {W : Nat} (hW : W < 16384) {k : Nat} (h : trC g W ≤ k) : trL g W k = 0 := by
  obtain ⟨d, rfl⟩ := Nat.le.dest h
  clear h
  induction d with
  | zero => exact (trC_spec g hW).2.1
  | succ d ih => exact trL_0 ih
theorem trC_iff {g : Nat → Nat} {W : Nat} (hW : W < 16384) {k : Nat} : trL g W k ≠ 0 ↔ k < trC g W := by
  constructor
  · intro h
    rcases Nat.lt_or_ge k (trC g W) with q | q
    · exact q
    · exact absurd (trL_z hW q) h
  · exact fun h => (trC_spec g hW).2.2 k h
theorem trL_in {g : Nat → Nat} {W i : Nat} : ∀ {k}, (trL g W k).testBit i = true → W.testBit i = true
  | 0, h => h
  | k + 1, h => by
    rw [trL, sd_bit] at h
    exact trL_in (k := k) (Bool.and_eq_true_iff.mp h).1
theorem trT_lt (g : Nat → Nat) (W k : Nat) : trT g W k < 16384 := comp_lt _ _ _
theorem trT_low {g : Nat → Nat} {W k : Nat} (hW : W < 16384) (h : trL g W k ≠ 0) : (trT g W k).testBit (low (trL g W k)) = true := comp_self g W (low_spec (trL_lt g hW k) h).1
theorem trT_in {g : Nat → Nat} {W k i : Nat} (hW : W < 16384) (h : trL g W k ≠ 0) (hi : (trT g W k).testBit i = true) : W.testBit i = true := comp_in (trL_in (low_spec (trL_lt g hW k) h).2.1) hi
theorem trT_ne {g : Nat → Nat} {W k : Nat} (hW : W < 16384) (h : trL g W k ≠ 0) : trT g W k ≠ 0 := fun q => by
  have := trT_low hW h
  rw [q, Nat.zero_testBit] at this
  cases this
/-! the class's walk over a part -/
def RInv (g : Nat → Nat) (W a X F t : Nat) : Prop := X < 16384 ∧ F < 16384 ∧ (∀ i, F.testBit i = true → X.testBit i = true) ∧ X.testBit a = true ∧ (∀ i, X.testBit i = true → rch g W a i) ∧ (∀ i, X.testBit i = true → F.testBit i = false → ∀ j, (g i).testBit j = true → W.testBit j = true → X.testBit j = true) ∧ t ≤ pc (sd X F)
theorem RInv_0 {g : Nat → Nat} {W a : Nat} (ha : a < 14) (hW : W.testBit a = true) : RInv g W a (2 ^ a &&& W) (2 ^ a &&& W) 0 := by
  have hb : ∀ i, (2 ^ a &&& W).testBit i = true ↔ i = a := fun i => by
    rw [Nat.testBit_and, pow_bit, Bool.and_eq_true, decide_eq_true_eq]
    exact ⟨fun h => h.1.symm, fun h => by subst h; exact ⟨rfl, hW⟩⟩
  have hl : 2 ^ a &&& W < 16384 := and_lt _ (pow_14 ha)
  exact ⟨hl, hl, fun _ h => h, (hb a).mpr rfl, fun i hi => (by rw [(hb i).mp hi]; exact rch_self g W a), fun i hi hn => absurd (hi.symm.trans hn) (by decide), Nat.zero_le _⟩
theorem RInv_s {g : Nat → Nat} (hg : ∀ i, i < 14 → g i < 16384) {W a X F t : Nat} (h : RInv g W a X F t) (hF : F ≠ 0) : RInv g W a (X ||| sd (g (low F) &&& W) X) (sd (F ||| sd (g (low F) &&& W) X) (2 ^ low F)) (t + 1) := by
  obtain ⟨h1, h2, h3, h4, h5, h6, h7⟩ := h
  obtain ⟨l1, l2, -⟩ := low_spec h2 hF
  have hs : sd (g (low F) &&& W) X < 16384 := sd_14 _ (and_lt _ (hg _ l1))
  have hbX : ∀ i, (X ||| sd (g (low F) &&& W) X).testBit i = true ↔ X.testBit i = true ∨ ((g (low F)).testBit i = true ∧ W.testBit i = true) := fun i => by
    rw [Nat.testBit_or, sd_bit, Nat.testBit_and]
    cases X.testBit i <;> simp
  have hbF : ∀ i, (sd (F ||| sd (g (low F) &&& W) X) (2 ^ low F)).testBit i = true ↔ i ≠ low F ∧ (F.testBit i = true ∨ ((g (low F)).testBit i = true ∧ W.testBit i = true ∧ X.testBit i = false)) := fun i => by
    rw [sd_bit, Nat.testBit_or, sd_bit, Nat.testBit_and, pow_bit]
    by_cases e : low F = i
    · simp [e]
    · have e2 : i ≠ low F := fun q => e q.symm
      simp only [e, e2, decide_false, Bool.not_false, Bool.and_true, Bool.or_eq_true, Bool.and_eq_true, Bool.not_eq_true', ne_eq, not_false_eq_true, true_and, and_assoc]
  refine ⟨or_14 h1 hs, sd_14 _ (or_14 h2 hs), fun i hi => ?_, (hbX a).mpr (Or.inl h4), fun i hi => ?_, fun i hi hn j hj hw => ?_, ?_⟩
  · rcases ((hbF i).mp hi).2 with q | ⟨q1, q2, -⟩
    · exact (hbX i).mpr (Or.inl (h3 i q))
    · exact (hbX i).mpr (Or.inr ⟨q1, q2⟩)
  · rcases (hbX i).mp hi with q | ⟨q1, q2⟩
    · exact h5 i q
    · exact rch_step (h5 _ (h3 _ l2)) q1 q2
  · by_cases e : i = low F
    · subst e
      exact (hbX j).mpr (Or.inr ⟨hj, hw⟩)
    · have hnF : ¬ (F.testBit i = true ∨ ((g (low F)).testBit i = true ∧ W.testBit i = true ∧ X.testBit i = false)) := fun q => by
        rw [(hbF i).mpr ⟨e, q⟩] at hn; cases hn
      have hXi : X.testBit i = true := by
        rcases (hbX i).mp hi with q | ⟨q1, q2⟩
        · exact q
        · cases hq : X.testBit i
          · exact absurd (Or.inr ⟨q1, q2, hq⟩) hnF
          · rfl
      have hFi : F.testBit i = false := by
        cases hq : F.testBit i
        · rfl
        · exact absurd (Or.inl hq) hnF
      exact (hbX j).mpr (Or.inl (h6 i hXi hFi j hj hw))
  · have := pc_lt (S := sd X F) (T := sd (X ||| sd (g (low F) &&& W) X) (sd (F ||| sd (g (low F) &&& W) X) (2 ^ low F))) (fun i hi => by
      rw [sd_bit, Bool.and_eq_true, Bool.not_eq_true'] at hi
      rw [sd_bit, Bool.and_eq_true, Bool.not_eq_true']
      refine ⟨(hbX i).mpr (Or.inl hi.1), ?_⟩
      cases hq : (sd (F ||| sd (g (low F) &&& W) X) (2 ^ low F)).testBit i
      · rfl
      · rcases ((hbF i).mp hq).2 with z | ⟨-, -, z⟩
        · rw [hi.2] at z; cases z
        · rw [hi.1] at z; cases z) (j := low F) (by
      rw [sd_bit, Bool.and_eq_true, Bool.not_eq_true']
      refine ⟨(hbX _).mpr (Or.inl (h3 _ l2)), ?_⟩
      cases hq : (sd (F ||| sd (g (low F) &&& W) X) (2 ^ low F)).testBit (low F)
      · rfl
      · exact absurd rfl ((hbF _).mp hq).1) (by rw [sd_bit, l2]; simp) l1
    omega
theorem RInv_F {g : Nat → Nat} {W a X F : Nat} (h : RInv g W a X F 14) : F = 0 := by
  obtain ⟨h1, h2, h3, -, -, -, h7⟩ := h
  by_cases e : F = 0
  · exact e
  · obtain ⟨l1, l2, -⟩ := low_spec h2 e
    have := pc_lt (S := sd X F) (T := X) (fun i hi => by
      rw [sd_bit, Bool.and_eq_true] at hi
      exact hi.1) (h3 _ l2) (by rw [sd_bit, l2]; simp) l1
    have := pc_le X
    omega
theorem RInv_x {g : Nat → Nat} {W a X t : Nat} (h : RInv g W a X 0 t) : X = comp g W a := by
  obtain ⟨h1, -, -, h4, h5, h6, -⟩ := h
  exact comp_eq h1 h4 (fun i hi j hj hw => h6 i hi (Nat.zero_testBit i) j hj hw) h5
/-- trailing zeros -/
theorem ntz_low {S : Nat} (hS : S < 16384) (h : S ≠ 0) : (nI S ^^^ (-1)) &&& (nI S - nI 1) = nI (2 ^ low S - 1) := by
  obtain ⟨l1, l2, l3⟩ := low_spec hS h
  exact ntz_h (by omega) (by rw [bv_nat (by omega)]; exact l2) (fun i hi => by rw [bv_nat (by omega)]; exact l3 i hi)
