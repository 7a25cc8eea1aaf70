/-! mirrors: at most one in a tree; those of the trees together are all; by rank -/
section MIR
variable {g : Nat → Nat}
theorem side_dis (h : FG g) {W i j x : Nat} (hW : W < 16384) (hi : W.testBit i = true) (hj : W.testBit j = true) (he : (g i).testBit j = true) (h1 : (comp g (sd W (2 ^ j)) i).testBit x = true) : (comp g (sd W (2 ^ i)) j).testBit x = false := by
  cases z : (comp g (sd W (2 ^ i)) j).testBit x
  · rfl
  · exfalso
    have hi14 := bit_in hW hi
    have hj14 := bit_in hW hj
    obtain ⟨hne, hbr⟩ := h.2.2 i j hi14 hj14 he
    have hF : (16383 : Nat) < 16384 := by decide
    have a1 := (rch_ind (g := g) (fun x => x < 14 ∧ x ≠ j ∧ rch (lk2 g i j false) 16383 i x) (sd_14 (2 ^ j) hW) hi14 ⟨hi14, hne, rch_self _ _ _⟩ (fun p q hp hq hw => by
      have hw2 := sd_sub.mp hw
      have hq14 := bit_in hW hw2.1
      exact ⟨hq14, hw2.2, rch_step hp.2.2 ((lk2_del hne).mpr ⟨hq, fun y => by rcases y with ⟨_, y⟩ | ⟨y, _⟩; exact hw2.2 y; exact hp.2.1 y⟩) (F_bit hq14)⟩) ((comp_bit _ _ _ _).mp h1).2)
    have a2 := (rch_ind (g := g) (fun x => x < 14 ∧ x ≠ i ∧ rch (lk2 g i j false) 16383 j x) (sd_14 (2 ^ i) hW) hj14 ⟨hj14, fun q => hne q.symm, rch_self _ _ _⟩ (fun p q hp hq hw => by
      have hw2 := sd_sub.mp hw
      have hq14 := bit_in hW hw2.1
      exact ⟨hq14, hw2.2, rch_step hp.2.2 ((lk2_del hne).mpr ⟨hq, fun y => by rcases y with ⟨y, _⟩ | ⟨_, y⟩; exact hp.2.1 y; exact hw2.2 y⟩) (F_bit hq14)⟩) ((comp_bit _ _ _ _).mp z).2)
    exact hbr (rch_trans a1.2.2 (rch_sym (lk2_sym h.2.1 hne false) hF (F_bit hj14) a2.2.2))
theorem side_un (h : FG g) {W i j : Nat} (hW : W < 16384) (hi : W.testBit i = true) (hj : W.testBit j = true) (he : (g i).testBit j = true) (x : Nat) : (comp g W i).testBit x = true ↔ ((comp g (sd W (2 ^ j)) i).testBit x = true ∨ (comp g (sd W (2 ^ i)) j).testBit x = true) := by
  have hi14 := bit_in hW hi
  have hj14 := bit_in hW hj
  have hne := FG_ne h hi14 he
  constructor
  · intro hx
    refine rch_ind (g := g) (fun x => (comp g (sd W (2 ^ j)) i).testBit x = true ∨ (comp g (sd W (2 ^ i)) j).testBit x = true) hW hi14 (Or.inl (comp_self g _ hi14)) (fun p q hp hq hw => ?_) ((comp_bit _ _ _ _).mp hx).2
    rcases hp with hp | hp
    · by_cases e : q = j
      · subst e; exact Or.inr (comp_self g _ hj14)
      · exact Or.inl (comp_cls (sd_14 _ hW) i p hp q hq (sd_sub.mpr ⟨hw, e⟩))
    · by_cases e : q = i
      · subst e; exact Or.inl (comp_self g _ hi14)
      · exact Or.inr (comp_cls (sd_14 _ hW) j p hp q hq (sd_sub.mpr ⟨hw, e⟩))
  · rintro (hx | hx)
    · have z := (comp_bit _ _ _ _).mp hx
      exact (comp_bit _ _ _ _).mpr ⟨z.1, rch_mono (fun k m y w => ⟨y, (sd_sub.mp w).1⟩) z.2⟩
    · have z := (comp_bit _ _ _ _).mp hx
      exact (comp_bit _ _ _ _).mpr ⟨z.1, rch_trans (rch_step (rch_self g W i) he hj) (rch_mono (fun k m y w => ⟨y, (sd_sub.mp w).1⟩) z.2)⟩
theorem side_pc (h : FG g) {W i j : Nat} (hW : W < 16384) (hi : W.testBit i = true) (hj : W.testBit j = true) (he : (g i).testBit j = true) : pc (comp g (sd W (2 ^ j)) i) + pc (comp g (sd W (2 ^ i)) j) = pc (comp g W i) := by
  rw [← pc_or (fun x hx => side_dis h hW hi hj he hx)]
  congr 1
  refine eq_of_bits (or_14 (comp_lt _ _ _) (comp_lt _ _ _)) (comp_lt _ _ _) (fun x _ => bool_iff ?_)
  rw [Nat.testBit_or, Bool.or_eq_true]
  exact (side_un h hW hi hj he x).symm
theorem two_mir (h : FG g) {W i j k l : Nat} (hW : W < 16384) (hi : W.testBit i = true) (hj : W.testBit j = true) (he : (g i).testBit j = true) (hk : W.testBit k = true) (hl : W.testBit l = true) (he2 : (g k).testBit l = true)
    (m1 : pc (comp g (sd W (2 ^ j)) i) = pc (comp g (sd W (2 ^ i)) j)) (m2 : pc (comp g (sd W (2 ^ l)) k) = pc (comp g (sd W (2 ^ k)) l)) (hlA : (comp g (sd W (2 ^ j)) i).testBit l = true) (hkA : (comp g (sd W (2 ^ j)) i).testBit k = true) (hiD : (comp g (sd W (2 ^ l)) k).testBit i = true) : False := by
  have hi14 := bit_in hW hi
  have hj14 := bit_in hW hj
  have hne := FG_ne h hi14 he
  have p1 := side_pc h hW hi hj he
  have p2 := side_pc h hW hk hl he2
  have ht : comp g W k = comp g W i := comp_same h.2.1 hW hi ((side_un h hW hi hj he k).mpr (Or.inl hkA))
  rw [ht] at p2
  have hjl : j ≠ l := fun q => by
    rw [← q] at hlA
    have := (sd_sub.mp (comp_sub (sd_sub.mpr ⟨hi, hne⟩) hlA)).2
    exact this rfl
  have hkl := FG_ne h (bit_in hW hk) he2
  have hjD : (comp g (sd W (2 ^ l)) k).testBit j = true := comp_cls (sd_14 _ hW) k i hiD j he (sd_sub.mpr ⟨hj, hjl⟩)
  have hB : ∀ x, (comp g (sd W (2 ^ i)) j).testBit x = true → (comp g (sd W (2 ^ l)) k).testBit x = true := fun x hx => by
    refine (rch_ind (g := g) (fun x => (comp g (sd W (2 ^ i)) j).testBit x = true ∧ (comp g (sd W (2 ^ l)) k).testBit x = true) (sd_14 (2 ^ i) hW) hj14 ⟨comp_self g _ hj14, hjD⟩ (fun p q hp hq hw => ?_) ((comp_bit _ _ _ _).mp hx).2).2
    have hqB : (comp g (sd W (2 ^ i)) j).testBit q = true := comp_cls (sd_14 _ hW) j p hp.1 q hq hw
    have hql : q ≠ l := fun y => by
      rw [y] at hqB
      rw [side_dis h hW hi hj he hlA] at hqB; cases hqB
    exact ⟨hqB, comp_cls (sd_14 _ hW) k p hp.2 q hq (sd_sub.mpr ⟨(sd_sub.mp hw).1, hql⟩)⟩
  have hiB : (comp g (sd W (2 ^ i)) j).testBit i = false := side_dis h hW hi hj he (comp_self g _ hi14)
  have := pc_lt hB hiD hiB hi14
  omega
theorem mir_pc {W n i j : Nat} (hm : miB g W n i j = true) : W.testBit i = true ∧ W.testBit j = true ∧ (g i).testBit j = true ∧ pc (comp g (sd W (2 ^ j)) i) = pc (comp g (sd W (2 ^ i)) j) := by
  rw [miB, edB, mrB] at hm
  simp only [Bool.and_eq_true, decide_eq_true_eq] at hm
  exact ⟨hm.1.1.1, hm.1.1.2, hm.1.2, hm.2.1⟩
theorem mir_one (h : FG g) {W n i j k l : Nat} (hW : W < 16384) (h1 : miB g W n i j = true) (h2 : miB g W n k l = true) (ht : (comp g W i).testBit k = true) : (k = i ∧ l = j) ∨ (k = j ∧ l = i) := by
  obtain ⟨hi, hj, he, m1⟩ := mir_pc h1
  obtain ⟨hk, hl, he2, m2⟩ := mir_pc h2
  have hi14 := bit_in hW hi
  have hj14 := bit_in hW hj
  have hk14 := bit_in hW hk
  have hl14 := bit_in hW hl
  have hes : (g j).testBit i = true := by rw [h.2.1 j hj14 i hi14]; exact he
  have he2s : (g l).testBit k = true := by rw [h.2.1 l hl14 k hk14]; exact he2
  have half : ∀ i j, W.testBit i = true → W.testBit j = true → (g i).testBit j = true → pc (comp g (sd W (2 ^ j)) i) = pc (comp g (sd W (2 ^ i)) j) → (comp g W i).testBit k = true → (comp g (sd W (2 ^ j)) i).testBit k = true → (k = i ∧ l = j) := fun i j hi hj he m1 ht hkA => by
    have hi14 := bit_in hW hi
    have hj14 := bit_in hW hj
    have hne := FG_ne h hi14 he
    by_cases e : l = j
    · subst e
      refine ⟨?_, rfl⟩
      by_cases q : k = i
      · exact q
      · have hes : (g l).testBit i = true := by rw [h.2.1 l hj14 i hi14]; exact he
        have he2s : (g l).testBit k = true := by rw [h.2.1 l hl14 k hk14]; exact he2
        exact absurd ((comp_bit _ _ _ _).mp hkA).2 (nb_no h hW hj14 hes he2s (fun y => q y.symm))
    · exfalso
      have hlA : (comp g (sd W (2 ^ j)) i).testBit l = true := comp_cls (sd_14 _ hW) i k hkA l he2 (sd_sub.mpr ⟨hl, e⟩)
      have e3 : comp g W k = comp g W i := comp_same h.2.1 hW hi ht
      have hid : (comp g W k).testBit i = true := by rw [e3]; exact comp_self g W hi14
      rcases (side_un h hW hk hl he2 i).mp hid with z | z
      · exact two_mir h hW hi hj he hk hl he2 m1 m2 hlA hkA z
      · have he2s : (g l).testBit k = true := by rw [h.2.1 l hl14 k hk14]; exact he2
        exact two_mir h hW hi hj he hl hk he2s m1 m2.symm hkA hlA z
  rcases (side_un h hW hi hj he k).mp ht with z | z
  · exact Or.inl (half i j hi hj he m1 ht z)
  · refine Or.inr (half j i hj hi hes m1.symm ?_ z)
    rw [comp_same h.2.1 hW hi ((side_un h hW hi hj he j).mpr (Or.inr (comp_self g _ hj14)))]
    exact ht
/-! how many -/
theorem innM_1 {q : Nat → Nat → Bool} {i : Nat} {R R2 : Int32} {s s2 : Nat × Int32} (hs : s.1 = s2.1) : ∀ j, (innM q i R s j).1 = (innM q i R2 s2 j).1
  | 0 => hs
  | j + 1 => by
    rw [innM, innM]
    split
    · show (innM q i R s j).1 + 1 = (innM q i R2 s2 j).1 + 1
      rw [innM_1 hs j]
    · exact innM_1 hs j
theorem outM_1 {q : Nat → Nat → Bool} {n : Nat} {R R2 : Int32} : ∀ i, (outM q n R i).1 = (outM q n R2 i).1
  | 0 => rfl
  | i + 1 => innM_1 (outM_1 i) n
def cnM (q : Nat → Nat → Bool) (n k : Nat) : Nat := (outM q n (-1) k).1
/-- those of one row -/
def cnI (q : Nat → Nat → Bool) (i : Nat) : Nat → Nat
  | 0 => 0
  | j + 1 => cnI q i j + (decide (i < j) && q i j).toNat
theorem innM_cn {q : Nat → Nat → Bool} {i : Nat} {R : Int32} {s : Nat × Int32} : ∀ j, (innM q i R s j).1 = s.1 + cnI q i j
  | 0 => rfl
  | j + 1 => by
    rw [innM, cnI]
    split
    · rename_i h
      rw [h]
      show (innM q i R s j).1 + 1 = _
      rw [innM_cn j, Nat.add_assoc]; rfl
    · rename_i h
      have : (decide (i < j) && q i j) = false := by cases z : (decide (i < j) && q i j); rfl; exact absurd z h
      rw [this, innM_cn j]; rfl
theorem cnM_s (q : Nat → Nat → Bool) (n k : Nat) : cnM q n (k + 1) = cnM q n k + cnI q k n := by
  rw [cnM, outM, innM_cn, cnM]
theorem outM_cn (q : Nat → Nat → Bool) (n k : Nat) (R : Int32) : (outM q n R k).1 = cnM q n k := outM_1 k
theorem cnI_add {q q1 q2 : Nat → Nat → Bool} {i : Nat} (h : ∀ j, (q i j).toNat = (q1 i j).toNat + (q2 i j).toNat) : ∀ j, cnI q i j = cnI q1 i j + cnI q2 i j
  | 0 => rfl
  | j + 1 => by
    rw [cnI, cnI, cnI, cnI_add h j]
    have := h j
    cases decide (i < j) <;> simp <;> omega
theorem cnM_add {q q1 q2 : Nat → Nat → Bool} (h : ∀ i j, (q i j).toNat = (q1 i j).toNat + (q2 i j).toNat) (n : Nat) : ∀ k, cnM q n k = cnM q1 n k + cnM q2 n k
  | 0 => rfl
  | k + 1 => by
    rw [cnM_s, cnM_s, cnM_s, cnM_add h n k, cnI_add (h k)]
    omega
theorem cnI_pos {q : Nat → Nat → Bool} {i : Nat} : ∀ j, 0 < cnI q i j → ∃ m, m < j ∧ i < m ∧ q i m = true
  | 0, h => absurd h (Nat.lt_irrefl 0)
  | j + 1, h => by
    rw [cnI] at h
    by_cases e : 0 < cnI q i j
    · obtain ⟨m, h1, h2⟩ := cnI_pos j e
      exact ⟨m, by omega, h2⟩
    · cases z : (decide (i < j) && q i j)
      · rw [z] at h; simp at h; omega
      · rw [Bool.and_eq_true, decide_eq_true_eq] at z
        exact ⟨j, by omega, z⟩
theorem cnI_1 {q : Nat → Nat → Bool} {i : Nat} (h : ∀ a b, i < a → i < b → q i a = true → q i b = true → a = b) : ∀ j, cnI q i j ≤ 1
  | 0 => Nat.zero_le _
  | j + 1 => by
    rw [cnI]
    by_cases e : 0 < cnI q i j
    · obtain ⟨m, h1, h2, h3⟩ := cnI_pos j e
      cases z : (decide (i < j) && q i j)
      · have := cnI_1 h j; simp; omega
      · rw [Bool.and_eq_true, decide_eq_true_eq] at z
        have := h m j h2 z.1 h3 z.2
        omega
    · cases (decide (i < j) && q i j) <;> simp <;> omega
theorem cnM_pos {q : Nat → Nat → Bool} {n : Nat} : ∀ k, 0 < cnM q n k → ∃ i m, i < k ∧ m < n ∧ i < m ∧ q i m = true
  | 0, h => absurd h (Nat.lt_irrefl 0)
  | k + 1, h => by
    rw [cnM_s] at h
    by_cases e : 0 < cnM q n k
    · obtain ⟨i, m, h1, h2⟩ := cnM_pos k e
      exact ⟨i, m, by omega, h2⟩
    · obtain ⟨m, h1, h2⟩ := cnI_pos (q := q) (i := k) n (by omega)
      exact ⟨k, m, by omega, h1, h2⟩
theorem cnM_1 {q : Nat → Nat → Bool} {n : Nat} (h : ∀ i a j b, i < a → j < b → q i a = true → q j b = true → i = j ∧ a = b) : ∀ k, cnM q n k ≤ 1
  | 0 => Nat.zero_le _
  | k + 1 => by
    rw [cnM_s]
    have h1 := cnI_1 (q := q) (i := k) (fun a b ha hb qa qb => (h k a k b ha hb qa qb).2) n
    have h2 := cnM_1 (n := n) h k
    by_cases e : 0 < cnM q n k
    · obtain ⟨i, m, h3, h4, h5, h6⟩ := cnM_pos k e
      by_cases e2 : 0 < cnI q k n
      · obtain ⟨m2, h7, h8, h9⟩ := cnI_pos (q := q) (i := k) n e2
        have := (h i m k m2 h5 h8 h6 h9).1
        omega
      · omega
    · omega
theorem mir_le1 (h : FG g) {W : Nat} (hW : W < 16384) {k : Nat} (hk : k < trC g W) : cnM (miQ g W 14 (trA g W k)) 14 14 ≤ 1 := by
  refine cnM_1 (fun i a j b hia hjb h1 h2 => ?_) 14
  rw [miQ, Bool.and_eq_true] at h1 h2
  have e := trA_is2 h.2.1 hW h1.1
  have := mir_one h hW h1.2 h2.2 (by rw [← e]; exact h2.1)
  omega
theorem cnI_0 {q : Nat → Nat → Bool} {i : Nat} (h : ∀ j, q i j = false) : ∀ j, cnI q i j = 0
  | 0 => rfl
  | j + 1 => by rw [cnI, cnI_0 h j, h j, Bool.and_false]; rfl
theorem cnM_0 {q : Nat → Nat → Bool} (h : ∀ i j, q i j = false) (n : Nat) : ∀ k, cnM q n k = 0
  | 0 => rfl
  | k + 1 => by rw [cnM_s, cnM_0 h n k, cnI_0 (h k)]
theorem miQ_W {W n : Nat} : miQ g W n W = miB g W n := by
  funext i j
  rw [miQ]
  cases z : W.testBit i
  · rw [miB, edB, z]; rfl
  · rw [Bool.true_and]
theorem mir_sum (h : FG g) {W : Nat} (hW : W < 16384) : smT (fun S => cnM (miQ g W 14 S) 14 14) g W (trC g W) = cnM (miB g W 14) 14 14 := by
  rw [smT_all (F := fun S => cnM (miQ g W 14 S) 14 14) h.2.1 hW (cnM_0 (fun i j => by rw [miQ, Nat.zero_testBit]; rfl) 14 14) (fun A B _ _ hap => cnM_add (fun i j => by
    rw [miQ, miQ, miQ, Nat.testBit_or]
    cases z : A.testBit i
    · cases B.testBit i <;> cases miB g W 14 i j <;> rfl
    · rw [(hap.1 i z).1]
      cases miB g W 14 i j <;> rfl) 14 14)]
  show cnM (miQ g W 14 W) 14 14 = _
  rw [miQ_W]
theorem cnI_c {q q2 : Nat → Nat → Bool} {i : Nat} : ∀ j, (∀ m, m < j → q i m = q2 i m) → cnI q i j = cnI q2 i j
  | 0, _ => rfl
  | j + 1, h => by rw [cnI, cnI, cnI_c j (fun m hm => h m (by omega)), h j (by omega)]
theorem cnM_n {q : Nat → Nat → Bool} {n : Nat} (hn : n ≤ 14) (hz : ∀ i m, n ≤ i ∨ n ≤ m → q i m = false) : cnM q n n = cnM q 14 14 := by
  rw [cnM, cnM, outM_14 hn hz]
/-! by rank -/
theorem cnI_le {q : Nat → Nat → Bool} {i : Nat} : ∀ j, cnI q i j ≤ j
  | 0 => Nat.le_refl _
  | j + 1 => by
    rw [cnI]
    have := cnI_le (q := q) (i := i) j
    cases (decide (i < j) && q i j) <;> simp <;> omega
theorem rank_in {q : Nat → Nat → Bool} {i R : Nat} {s : Nat × Int32} (hR : R < 2147483648) : ∀ j, s.1 + j < 2147483648 → ((R < s.1 ∨ s.1 + cnI q i j ≤ R) → (innM q i (nI R) s j).2 = s.2) ∧ (s.1 ≤ R → R < s.1 + cnI q i j → ∃ m, m < j ∧ (innM q i (nI R) s j).2 = nI (100 * i + m))
  | 0, _ => ⟨fun _ => rfl, fun h1 h2 => by rw [cnI] at h2; omega⟩
  | j + 1, h => by
    obtain ⟨i1, i2⟩ := rank_in (q := q) (i := i) (s := s) hR j (by omega)
    have hc := innM_cn (q := q) (i := i) (R := nI R) (s := s) j
    have hle := cnI_le (q := q) (i := i) j
    rw [innM, cnI]
    split
    · rename_i hq
      rw [hq]
      show ((R < s.1 ∨ s.1 + (cnI q i j + 1) ≤ R) → (if nI (innM q i (nI R) s j).1 = nI R then nI (100 * i + j) else (innM q i (nI R) s j).2) = s.2) ∧ (s.1 ≤ R → R < s.1 + (cnI q i j + 1) → ∃ m, m < j + 1 ∧ (if nI (innM q i (nI R) s j).1 = nI R then nI (100 * i + j) else (innM q i (nI R) s j).2) = nI (100 * i + m))
      rw [hc]
      have e : nI (s.1 + cnI q i j) = nI R ↔ s.1 + cnI q i j = R := nI_eq (by omega) hR
      constructor
      · intro z
        rw [if_neg (fun y => by have := e.mp y; omega)]
        exact i1 (by omega)
      · intro z1 z2
        by_cases y : s.1 + cnI q i j = R
        · rw [if_pos (e.mpr y)]
          exact ⟨j, by omega, rfl⟩
        · rw [if_neg (fun w => y (e.mp w))]
          obtain ⟨m, m1, m2⟩ := i2 z1 (by omega)
          exact ⟨m, by omega, m2⟩
    · rename_i hq
      rw [show (decide (i < j) && q i j) = false by cases z : (decide (i < j) && q i j); rfl; exact absurd z hq]
      refine ⟨i1, fun z1 z2 => ?_⟩
      obtain ⟨m, m1, m2⟩ := i2 z1 z2
      exact ⟨m, by omega, m2⟩
theorem rank_out {q : Nat → Nat → Bool} {n R : Nat} (hn : n ≤ 14) (hR : R < 2147483648) : ∀ k, k ≤ 14 → (cnM q n k ≤ R → (outM q n (nI R) k).2 = -1) ∧ (R < cnM q n k → ∃ a, a < 2000 ∧ (outM q n (nI R) k).2 = nI a)
  | 0, _ => ⟨fun _ => rfl, fun h => absurd h (Nat.not_lt_zero _)⟩
  | k + 1, hk => by
    obtain ⟨i1, i2⟩ := rank_out (q := q) hn hR k (by omega)
    have hc : (outM q n (nI R) k).1 = cnM q n k := outM_cn q n k (nI R)
    have hle : (outM q n (nI R) k).1 ≤ 14 * k := outM_le hn k
    obtain ⟨j1, j2⟩ := rank_in (q := q) (i := k) (s := outM q n (nI R) k) hR n (by omega)
    rw [hc] at j1 j2
    rw [cnM_s, outM]
    constructor
    · intro z
      rw [j1 (Or.inr z)]
      exact i1 (by omega)
    · intro z
      by_cases y : R < cnM q n k
      · rw [j1 (Or.inl y)]
        exact i2 y
      · obtain ⟨m, m1, m2⟩ := j2 (by omega) z
        exact ⟨100 * k + m, by omega, m2⟩
end MIR
