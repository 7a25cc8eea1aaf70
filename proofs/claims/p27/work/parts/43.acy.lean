/-! graphs without cycles: each edge is a bridge -/
theorem rch_ind {g : Nat → Nat} {W a x : Nat} (P : Nat → Prop) (hW : W < 16384) (ha : a < 14) (h0 : P a) (hs : ∀ i j, P i → (g i).testBit j = true → W.testBit j = true → P j) (h : rch g W a x) : P x := by
  have h2 := h (mk (fun i => @decide (P i) (Classical.propDecidable _)) 14) (fun i hi j hj hw => by
    rw [mk_bit] at hi
    rw [mk_bit]
    simp only [Bool.and_eq_true, decide_eq_true_eq] at hi ⊢
    exact ⟨bit_in hW hw, hs i j hi.2 hj hw⟩) (by
    rw [mk_bit]
    simp only [Bool.and_eq_true, decide_eq_true_eq]
    exact ⟨ha, h0⟩)
  rw [mk_bit] at h2
  simp only [Bool.and_eq_true, decide_eq_true_eq] at h2
  exact h2.2
theorem rch_mono {g g2 : Nat → Nat} {W W2 a x : Nat} (h : ∀ i j, (g i).testBit j = true → W.testBit j = true → (g2 i).testBit j = true ∧ W2.testBit j = true) (hr : rch g W a x) : rch g2 W2 a x := fun Y hc ha => hr Y (fun i hi j hj hw => hc i hi j (h i j hj hw).1 (h i j hj hw).2) ha
theorem rch_lt {g : Nat → Nat} {W a x : Nat} (hW : W < 16384) (ha : a < 14) (h : rch g W a x) : x < 14 := rch_ind (fun x => x < 14) hW ha ha (fun _ _ _ _ hw => bit_in hW hw) h
theorem rch_sym {g : Nat → Nat} (hs : symG g) {W a b : Nat} (hW : W < 16384) (ha : W.testBit a = true) (h : rch g W a b) : rch g W b a :=
  (rch_ind (fun x => W.testBit x = true ∧ rch g W x a) hW (bit_in hW ha) ⟨ha, rch_self g W a⟩ (fun i j hi hj hw => ⟨hw, rch_trans (rch_step (rch_self g W j) (by rw [← hs i (bit_in hW hi.1) j (bit_in hW hw)]; exact hj) hi.1) hi.2⟩) h).2
def lk2 (g : Nat → Nat) (i j : Nat) (b : Bool) : Nat → Nat := upN (upN g i (lk1 b (g i) j)) j (lk1 b ((upN g i (lk1 b (g i) j)) j) i)
theorem lk1_bit (b : Bool) (x y m : Nat) : (lk1 b x y).testBit m = if m = y then b else x.testBit m := by
  rw [lk1]
  by_cases e : m = y
  · subst e
    rw [if_pos rfl]
    cases b
    · rw [if_neg (by decide), sd_bit, pow_bit]; simp
    · rw [if_pos rfl, Nat.testBit_or, pow_bit]; simp
  · rw [if_neg e]
    have e2 : y ≠ m := fun q => e q.symm
    cases b
    · rw [if_neg (by decide), sd_bit, pow_bit]; simp [e2]
    · rw [if_pos rfl, Nat.testBit_or, pow_bit]; simp [e2]
theorem lk2_bit {g : Nat → Nat} {i j : Nat} (hne : i ≠ j) (b : Bool) (k m : Nat) : (lk2 g i j b k).testBit m = if (k = i ∧ m = j) ∨ (k = j ∧ m = i) then b else (g k).testBit m := by
  rw [lk2]
  by_cases e1 : k = j
  · subst e1
    rw [upN_s, upN_n _ _ (fun q => hne q.symm), lk1_bit]
    by_cases e2 : m = i
    · rw [if_pos e2, if_pos (Or.inr ⟨rfl, e2⟩)]
    · rw [if_neg e2, if_neg (fun q => by rcases q with q | q <;> omega)]
  · rw [upN_n _ _ e1]
    by_cases e2 : k = i
    · subst e2
      rw [upN_s, lk1_bit]
      by_cases e3 : m = j
      · rw [if_pos e3, if_pos (Or.inl ⟨rfl, e3⟩)]
      · rw [if_neg e3, if_neg (fun q => by rcases q with q | q <;> omega)]
    · rw [upN_n _ _ e2, if_neg (fun q => by rcases q with q | q <;> omega)]
theorem lk2_del {g : Nat → Nat} {i j k m : Nat} (hne : i ≠ j) : (lk2 g i j false k).testBit m = true ↔ (g k).testBit m = true ∧ ¬ ((k = i ∧ m = j) ∨ (k = j ∧ m = i)) := by
  rw [lk2_bit hne]
  split
  · rename_i h; exact ⟨fun z => (by cases z), fun z => absurd h z.2⟩
  · rename_i h; exact ⟨fun z => ⟨z, h⟩, fun z => z.1⟩
theorem lk2_add {g : Nat → Nat} {i j k m : Nat} (hne : i ≠ j) : (lk2 g i j true k).testBit m = true ↔ (g k).testBit m = true ∨ ((k = i ∧ m = j) ∨ (k = j ∧ m = i)) := by
  rw [lk2_bit hne]
  split
  · rename_i h; exact ⟨fun _ => Or.inr h, fun _ => rfl⟩
  · rename_i h; exact ⟨fun z => Or.inl z, fun z => z.resolve_right h⟩
theorem gS_lk (ss : Nat → Nat) (i j : Nat) (b : Bool) : gS (lkS ss i j b) = lk2 (gS ss) i j b := by
  funext k
  simp only [gS, lkS, lk2, upN]
  by_cases e1 : k = j
  · subst e1
    simp only [if_true]
    by_cases e2 : k = i
    · subst e2; simp
    · rw [if_neg e2, if_neg (by omega)]
  · rw [if_neg e1, if_neg (by omega)]
    by_cases e2 : k = i
    · subst e2; simp
    · rw [if_neg e2, if_neg (by omega)]
def brG (g : Nat → Nat) : Prop := ∀ i j, i < 14 → j < 14 → (g i).testBit j = true → i ≠ j ∧ ¬ rch (lk2 g i j false) 16383 i j
/-- a forest -/
def FG (g : Nat → Nat) : Prop := (∀ i, i < 14 → g i < 16384) ∧ symG g ∧ brG g
theorem F_bit {j : Nat} (h : j < 14) : Nat.testBit 16383 j = true := by
  have : ∀ j, j < 14 → Nat.testBit 16383 j = true := by decide
  exact this j h
theorem lk2_lt {g : Nat → Nat} (hg : ∀ i, i < 14 → g i < 16384) {a b : Nat} (hne : a ≠ b) (ha : a < 14) (hb : b < 14) (c : Bool) : ∀ i, i < 14 → lk2 g a b c i < 16384 := fun i hi => lt_of_bits (k := 14) (fun m hm => by
  rw [lk2_bit hne, if_neg (fun q => by rcases q with q | q <;> omega)]
  exact bit_of_lt (k := 14) (hg i hi) hm)
theorem lk2_sym {g : Nat → Nat} (hs : symG g) {a b : Nat} (hne : a ≠ b) (c : Bool) : symG (lk2 g a b c) := fun i hi j hj => by
  rw [lk2_bit hne, lk2_bit hne]
  by_cases e : (i = a ∧ j = b) ∨ (i = b ∧ j = a)
  · rw [if_pos e, if_pos (by omega)]
  · rw [if_neg e, if_neg (by omega), hs i hi j hj]
theorem FG_cut {g : Nat → Nat} (h : FG g) {a b : Nat} (hne : a ≠ b) (ha : a < 14) (hb : b < 14) : FG (lk2 g a b false) := by
  refine ⟨lk2_lt h.1 hne ha hb false, lk2_sym h.2.1 hne false, fun i j hi hj he => ?_⟩
  have h1 := (lk2_del hne).mp he
  obtain ⟨h2, h3⟩ := h.2.2 i j hi hj h1.1
  refine ⟨h2, fun q => h3 (rch_mono (fun k m z w => ⟨?_, w⟩) q)⟩
  have z2 := (lk2_del h2).mp z
  exact (lk2_del h2).mpr ⟨((lk2_del hne).mp z2.1).1, z2.2⟩
theorem FG_add {g : Nat → Nat} (h : FG g) {a b : Nat} (ha : a < 14) (hb : b < 14) (hno : ¬ rch g 16383 a b) : FG (lk2 g a b true) := by
  have hne : a ≠ b := fun e => hno (e ▸ rch_self g _ a)
  have hF : (16383 : Nat) < 16384 := by decide
  refine ⟨lk2_lt h.1 hne ha hb true, lk2_sym h.2.1 hne true, fun i j hi hj he => ?_⟩
  by_cases e : (i = a ∧ j = b) ∨ (i = b ∧ j = a)
  · have hij : i ≠ j := by rcases e with q | q <;> omega
    refine ⟨hij, fun q => ?_⟩
    have q2 : rch g 16383 i j := rch_mono (fun k m z w => ⟨by
      have z2 := (lk2_del hij).mp z
      rcases (lk2_add hne).mp z2.1 with z3 | z3
      · exact z3
      · exfalso
        apply z2.2
        rcases e with ⟨rfl, rfl⟩ | ⟨rfl, rfl⟩
        · exact z3
        · rcases z3 with z4 | z4
          · exact Or.inr z4
          · exact Or.inl z4, w⟩) q
    rcases e with ⟨rfl, rfl⟩ | ⟨rfl, rfl⟩
    · exact hno q2
    · exact hno (rch_sym h.2.1 hF (F_bit hi) q2)
  · have he2 : (g i).testBit j = true := by
      rcases (lk2_add hne).mp he with z | z
      · exact z
      · exact absurd z e
    obtain ⟨h2, h3⟩ := h.2.2 i j hi hj he2
    refine ⟨h2, fun q => ?_⟩
    have hsub : ∀ {x y : Nat}, rch (lk2 g i j false) 16383 x y → rch g 16383 x y := fun z => rch_mono (fun k m z w => ⟨((lk2_del h2).mp z).1, w⟩) z
    have key := rch_ind (g := lk2 (lk2 g a b true) i j false) (fun x => rch (lk2 g i j false) 16383 i x ∨ (rch (lk2 g i j false) 16383 i a ∧ rch (lk2 g i j false) 16383 b x) ∨ (rch (lk2 g i j false) 16383 i b ∧ rch (lk2 g i j false) 16383 a x)) hF hi (Or.inl (rch_self _ _ _)) (fun k m hk hm hw => by
      have z := (lk2_del h2).mp hm
      by_cases e2 : (k = a ∧ m = b) ∨ (k = b ∧ m = a)
      · rcases e2 with ⟨rfl, rfl⟩ | ⟨rfl, rfl⟩
        · rcases hk with y | ⟨y1, y2⟩ | ⟨y1, y2⟩
          · exact Or.inr (Or.inl ⟨y, rch_self _ _ _⟩)
          · exact Or.inr (Or.inl ⟨y1, rch_self _ _ _⟩)
          · exact Or.inl y1
        · rcases hk with y | ⟨y1, y2⟩ | ⟨y1, y2⟩
          · exact Or.inr (Or.inr ⟨y, rch_self _ _ _⟩)
          · exact Or.inl y1
          · exact Or.inr (Or.inr ⟨y1, rch_self _ _ _⟩)
      · have z2 : (lk2 g i j false k).testBit m = true := (lk2_del h2).mpr ⟨((lk2_add hne).mp z.1).resolve_right e2, z.2⟩
        rcases hk with y | ⟨y1, y2⟩ | ⟨y1, y2⟩
        · exact Or.inl (rch_step y z2 hw)
        · exact Or.inr (Or.inl ⟨y1, rch_step y2 z2 hw⟩)
        · exact Or.inr (Or.inr ⟨y1, rch_step y2 z2 hw⟩)) q
    rcases key with y | ⟨y1, y2⟩ | ⟨y1, y2⟩
    · exact h3 y
    · exact hno (rch_trans (rch_sym h.2.1 hF (F_bit hi) (hsub y1)) (rch_trans (rch_step (rch_self g _ i) he2 (F_bit hj)) (rch_sym h.2.1 hF (F_bit hb) (hsub y2))))
    · have hij2 : (g j).testBit i = true := by rw [← h.2.1 i hi j hj]; exact he2
      exact hno (rch_trans (hsub y2) (rch_trans (rch_step (rch_self g _ j) hij2 (F_bit hi)) (hsub y1)))
theorem FG_0 : FG (fun _ => 0) := ⟨fun _ _ => (show 0 < 16384 by decide), fun i _ j _ => by rw [Nat.zero_testBit, Nat.zero_testBit], fun i j _ _ h => by rw [Nat.zero_testBit] at h; cases h⟩
theorem lone_no {g : Nat → Nat} {n v : Nat} (hn : n < 14) (h : g n = 0) (hv : v ≠ n) : ¬ rch g 16383 n v := fun q =>
  hv (rch_ind (fun x => x = n) (by decide) hn rfl (fun i j hi hj _ => by subst hi; rw [h, Nat.zero_testBit] at hj; cases hj) q)
theorem FG_g {g g2 : Nat → Nat} (h : eqG g g2) (hf : FG g) : FG g2 := by
  refine ⟨fun i hi => by rw [← h i hi]; exact hf.1 i hi, fun i hi j hj => by rw [← h i hi, ← h j hj]; exact hf.2.1 i hi j hj, fun i j hi hj he => ?_⟩
  rw [← h i hi] at he
  obtain ⟨h2, h3⟩ := hf.2.2 i j hi hj he
  refine ⟨h2, fun q => h3 (rch_g (g := lk2 g2 i j false) (fun k hk => ?_) (by decide) hi q)⟩
  apply Nat.eq_of_testBit_eq
  intro m
  rw [lk2_bit h2, lk2_bit h2, h k hk]
/-- two neighbours of a node don't reach each other but by it -/
theorem nb_no {g : Nat → Nat} (h : FG g) {T r b p : Nat} (hT : T < 16384) (hr : r < 14) (hb : (g r).testBit b = true) (hp : (g r).testBit p = true) (hne : b ≠ p) : ¬ rch g (sd T (2 ^ r)) b p := fun q => by
  have hb14 := bit_in (h.1 r hr) hb
  have hp14 := bit_in (h.1 r hr) hp
  obtain ⟨h2, h3⟩ := h.2.2 r p hr hp14 hp
  have hrb := (h.2.2 r b hr hb14 hb).1
  have h4 := rch_ind (g := g) (fun x => x ≠ r ∧ rch (lk2 g r p false) 16383 b x) (sd_14 _ hT) hb14 ⟨fun z => hrb z.symm, rch_self _ _ _⟩ (fun i j hi hj hw => by
    rw [sd_bit, pow_bit] at hw
    have hjr : j ≠ r := fun z => by subst z; simp at hw
    have hj14 : j < 14 := bit_in hT (Bool.and_eq_true_iff.mp hw).1
    exact ⟨hjr, rch_step hi.2 ((lk2_del h2).mpr ⟨hj, (by have := hi.1; omega)⟩) (F_bit hj14)⟩) q
  exact h3 (rch_trans (rch_step (rch_self _ _ r) ((lk2_del h2).mpr ⟨hb, (by omega)⟩) (F_bit hb14)) h4.2)
theorem FG_ne {g : Nat → Nat} (h : FG g) {i j : Nat} (hi : i < 14) (he : (g i).testBit j = true) : i ≠ j := (h.2.2 i j hi (bit_in (h.1 i hi) he) he).1
