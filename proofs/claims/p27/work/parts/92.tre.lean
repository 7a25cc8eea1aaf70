/-! trees of a set: what adds over them; nodes, edges and trees -/
section TRE
variable {g : Nat → Nat} {W : Nat}
theorem sd_in1 {A B x : Nat} (h : (sd A B).testBit x = true) : A.testBit x = true ∧ B.testBit x = false := by
  rw [sd_bit, Bool.and_eq_true, Bool.not_eq_true'] at h; exact h
theorem sd_mk {A B x : Nat} (h : A.testBit x = true) (h2 : B.testBit x = false) : (sd A B).testBit x = true := by
  rw [sd_bit, h, h2]; rfl
theorem trT_dn (hs : symG g) (hW : W < 16384) : ∀ k x, W.testBit x = true → (trL g W k).testBit x = false → ∃ j, j < k ∧ (trA g W j).testBit x = true
  | 0, x, hx, h => by rw [trL, hx] at h; cases h
  | k + 1, x, hx, h => by
    by_cases e : (trL g W k).testBit x = true
    · have h0 : trL g W k ≠ 0 := ne0 e
      refine ⟨k, by omega, ?_⟩
      rw [trA, if_neg h0, trT]
      cases z : (comp g W (low (trL g W k))).testBit x
      · rw [trL, sd_mk e z] at h; cases h
      · rfl
    · obtain ⟨j, h1, h2⟩ := trT_dn hs hW k x hx (by cases z : (trL g W k).testBit x; rfl; exact absurd z e)
      exact ⟨j, by omega, h2⟩
theorem trA_L (hs : symG g) (hW : W < 16384) {k x : Nat} (h : (trA g W k).testBit x = true) : (trL g W k).testBit x = true := by
  cases z : (trL g W k).testBit x
  · obtain ⟨j, h1, h2⟩ := trT_dn hs hW k x (trA_in hW h) z
    rw [trA_dis hs hW h1 h2] at h; cases h
  · rfl
theorem trL_s (hW : W < 16384) (k : Nat) : trL g W (k + 1) = sd (trL g W k) (trA g W k) := by
  by_cases e : trL g W k = 0
  · rw [trL_0 e, e, sd_0]
  · rw [trL, trA, if_neg e, trT]
theorem trL_or (hs : symG g) (hW : W < 16384) (k : Nat) : trL g W k = trA g W k ||| trL g W (k + 1) := by
  apply Nat.eq_of_testBit_eq
  intro i
  rw [trL_s hW k, Nat.testBit_or, sd_bit]
  cases z : (trA g W k).testBit i
  · rw [Bool.not_false, Bool.and_true, Bool.false_or]
  · rw [trA_L hs hW z]; rfl
theorem trA_cls (hW : W < 16384) (k : Nat) : cls g W (trA g W k) := by
  by_cases e : trL g W k = 0
  · rw [trA, if_pos e]
    intro i hi; rw [Nat.zero_testBit] at hi; cases hi
  · rw [trA_is e]; exact comp_cls hW _
theorem trL_W {k x : Nat} (h : (trL g W k).testBit x = true) : W.testBit x = true := trL_in h
theorem trA_apart (hs : symG g) (hW : W < 16384) (k : Nat) : apart g (trA g W k) (trL g W (k + 1)) := by
  have hd : ∀ i, (trA g W k).testBit i = true → (trL g W (k + 1)).testBit i = false := fun i hi => by
    cases z : (trL g W (k + 1)).testBit i
    · rfl
    · rw [trL_s hW k] at z; rw [(sd_in1 z).2] at hi; cases hi
  refine ⟨fun i hi => ⟨hd i hi, fun j hj => ?_⟩, fun i hi j hj => ?_⟩
  · cases z : (trL g W (k + 1)).testBit j
    · rfl
    · rw [hd j (trA_cls hW k i hi j hj (trL_W z))] at z; cases z
  · cases z : (trA g W k).testBit j
    · rfl
    · have hiW := trL_W hi
      have : (g j).testBit i = true := by rw [← hs i (bit_in hW hiW) j (bit_in hW (trA_in hW z))]; exact hj
      rw [hd i (trA_cls hW k j z i this hiW)] at hi; cases hi
noncomputable def smT (F : Nat → Nat) (g : Nat → Nat) (W : Nat) : Nat → Nat
  | 0 => 0
  | k + 1 => smT F g W k + F (trA g W k)
theorem smT_L {F : Nat → Nat} (hs : symG g) (hW : W < 16384) (hF : ∀ A B, A < 16384 → B < 16384 → apart g A B → F (A ||| B) = F A + F B) : ∀ k, smT F g W k + F (trL g W k) = F W
  | 0 => by rw [smT, trL]; omega
  | k + 1 => by
    have ih := smT_L hs hW hF k
    rw [trL_or hs hW k, hF _ _ (trA_lt _ _ _) (trL_lt g hW _) (trA_apart hs hW k)] at ih
    rw [smT]; omega
theorem smT_all {F : Nat → Nat} (hs : symG g) (hW : W < 16384) (h0 : F 0 = 0) (hF : ∀ A B, A < 16384 → B < 16384 → apart g A B → F (A ||| B) = F A + F B) : smT F g W (trC g W) = F W := by
  have := smT_L hs hW hF (trC g W)
  rw [(trC_spec g hW).2.1, h0] at this
  omega
theorem smT_c {F F2 : Nat → Nat} : ∀ k, (∀ j, j < k → F (trA g W j) = F2 (trA g W j)) → smT F g W k = smT F2 g W k
  | 0, _ => rfl
  | k + 1, h => by rw [smT, smT, smT_c k (fun j hj => h j (by omega)), h k (by omega)]
theorem smT_1 : ∀ k, smT (fun _ => 1) g W k = k
  | 0 => rfl
  | k + 1 => by rw [smT, smT_1 k]
theorem smT_le {F F2 : Nat → Nat} : ∀ k, (∀ j, j < k → F (trA g W j) ≤ F2 (trA g W j)) → smT F g W k ≤ smT F2 g W k
  | 0, _ => Nat.le_refl _
  | k + 1, h => by
    rw [smT, smT]
    have := smT_le k (fun j hj => h j (by omega))
    have := h k (by omega)
    omega
theorem mxS_L (hs : symG g) (hW : W < 16384) : ∀ k, mxS g W k ^^^ V g (trL g W k) = V g W
  | 0 => by rw [mxS, trL, Nat.zero_xor]
  | k + 1 => by
    have ih := mxS_L hs hW k
    rw [trL_or hs hW k, (sg g _ _ _ rfl (trA_lt _ _ _) (trL_lt g hW _) (trA_apart hs hW k)).1] at ih
    rw [mxS, Nat.xor_assoc]; exact ih
theorem mxS_all (hs : symG g) (hW : W < 16384) : mxS g W (trC g W) = V g W := by
  have := mxS_L hs hW (trC g W)
  rw [(trC_spec g hW).2.1, V_0, Nat.xor_zero] at this
  exact this
theorem trA_one (hs : symG g) (hW : W < 16384) {k : Nat} (hk : k < trC g W) : oneG g (trA g W k) := by
  have h0 := (trC_iff hW).mpr hk
  rw [trA_is h0]
  exact one_comp hs hW (trL_in (low_spec (trL_lt g hW k) h0).2.1)
theorem comp_same (hs : symG g) (hW : W < 16384) {a b : Nat} (ha : W.testBit a = true) (h : (comp g W a).testBit b = true) : comp g W b = comp g W a := by
  have h2 := ((comp_bit _ _ _ _).mp h).2
  refine eq_of_bits (comp_lt _ _ _) (comp_lt _ _ _) (fun i hi => bool_iff ⟨fun z => ?_, fun z => ?_⟩)
  · exact (comp_bit _ _ _ _).mpr ⟨hi, rch_trans h2 ((comp_bit _ _ _ _).mp z).2⟩
  · exact (comp_bit _ _ _ _).mpr ⟨hi, rch_trans (rch_sym hs hW ha h2) ((comp_bit _ _ _ _).mp z).2⟩
theorem trA_is2 (hs : symG g) (hW : W < 16384) {k v : Nat} (hv : (trA g W k).testBit v = true) : trA g W k = comp g W v := by
  have h0 : trL g W k ≠ 0 := fun q => by rw [trA, if_pos q, Nat.zero_testBit] at hv; cases hv
  rw [trA_is h0] at hv ⊢
  exact (comp_same hs hW (trL_in (low_spec (trL_lt g hW k) h0).2.1) hv).symm
theorem pc_or {A B : Nat} (h : ∀ i, A.testBit i = true → B.testBit i = false) : pc (A ||| B) = pc A + pc B := pcn_or h 14
/-! edges -/
theorem eIn_sm (S : Nat) : ∀ n, eIn g S n = sm (fun k => pc (g k &&& S)) S n
  | 0 => rfl
  | n + 1 => by
    rw [eIn, sm, eIn_sm S n]
    split
    · rfl
    · rw [Nat.add_zero]
theorem sm_or {w : Nat → Nat} {A B : Nat} (h : ∀ i, A.testBit i = true → B.testBit i = false) : ∀ n, sm w (A ||| B) n = sm w A n + sm w B n
  | 0 => rfl
  | n + 1 => by
    rw [sm, sm, sm, sm_or h n, Nat.testBit_or]
    cases e : A.testBit n
    · cases B.testBit n <;> simp <;> omega
    · rw [h n e]; simp; omega
theorem sm_add {w w2 : Nat → Nat} {S : Nat} : ∀ n, sm (fun k => w k + w2 k) S n = sm w S n + sm w2 S n
  | 0 => rfl
  | n + 1 => by
    rw [sm, sm, sm, sm_add n]
    split <;> omega
theorem sm_bit {P S : Nat} : ∀ n, sm (fun k => (P.testBit k).toNat) S n = pcn (P &&& S) n
  | 0 => rfl
  | n + 1 => by
    rw [sm, pcn, sm_bit n, Nat.testBit_and]
    cases P.testBit n <;> cases S.testBit n <;> rfl
theorem and_or_l {x A B : Nat} (h : ∀ j, x.testBit j = true → B.testBit j = false) : x &&& (A ||| B) = x &&& A := by
  apply Nat.eq_of_testBit_eq
  intro i
  rw [Nat.testBit_and, Nat.testBit_or, Nat.testBit_and]
  cases e : x.testBit i
  · rfl
  · rw [h i e, Bool.or_false]
theorem eIn_add {A B : Nat} (h : apart g A B) : eIn g (A ||| B) 14 = eIn g A 14 + eIn g B 14 := by
  rw [eIn_sm, eIn_sm, eIn_sm, sm_or (fun i hi => (h.1 i hi).1) 14]
  rw [sm_congr (w2 := fun k => pc (g k &&& A)) (fun b hb => by rw [and_or_l (h.1 b hb).2]) 14, sm_congr (B := B) (w2 := fun k => pc (g k &&& B)) (fun b hb => by rw [or_comm' A B, and_or_l (h.2 b hb)]) 14]
theorem pc_and1 {x S : Nat} {b : Nat} (h14 : b < 14) (h : ∀ i, i < 14 → ((x &&& S).testBit i = true ↔ i = b)) : pc (x &&& S) = 1 := by
  have e : pcn (x &&& S) 14 = pcn (2 ^ b) 14 := pcn_congr (fun i hi => by
    rw [pow_bit]
    refine bool_iff ((h i hi).trans ⟨fun z => decide_eq_true z.symm, fun z => (of_decide_eq_true z).symm⟩))
  rw [pc, e]
  exact pc_two h14
/-- behind a node of a tree: each part has one neighbour of it -/
theorem one_nb (h : FG g) {T r k : Nat} (hT : oneG g T) (hr : T.testBit r = true) (hk : k < trC g (sd T (2 ^ r))) : pc (g r &&& trA g (sd T (2 ^ r)) k) = 1 := by
  have hr14 := bit_in hT.1 hr
  have hS := sd_14 (2 ^ r) hT.1
  have h0 := (trC_iff hS).mpr hk
  have hne := trA_one h.2.1 hS hk
  obtain ⟨v, hv14, hv⟩ := bit_ex hne.1 hne.2.1
  have hvS := trA_in hS hv
  have hvT := sd_sub.mp hvS
  have e1 := trA_is2 h.2.1 hS hv
  have hvc : (comp g T r).testBit v = true := by rw [hT.2.2 r hr]; exact hvT.1
  rw [comp_split hT.1 hr, Nat.testBit_or, Bool.or_eq_true, pow_bit, decide_eq_true_eq, un_bit] at hvc
  rcases hvc with z | ⟨b, b14, hb, hbv⟩
  · exact absurd z.symm hvT.2
  · have hbS := sd_sub.mpr (chd_bit.mp hb).2
    have e2 : trA g (sd T (2 ^ r)) k = comp g (sd T (2 ^ r)) b := by rw [e1, comp_same h.2.1 hS hbS hbv]
    refine pc_and1 b14 (fun i hi => ?_)
    rw [e2, Nat.testBit_and, Bool.and_eq_true]
    constructor
    · rintro ⟨z1, z2⟩
      have hiB : (g r &&& sd T (2 ^ r)).testBit i = true := by
        rw [Nat.testBit_and, z1, comp_sub hbS z2]; rfl
      exact part_dis h hT.1 hr14 hiB hb (comp_self g _ hi) z2
    · rintro rfl
      exact ⟨(chd_bit.mp hb).1, comp_self g _ b14⟩
theorem and_or2 {x A B : Nat} (h : ∀ i, A.testBit i = true → B.testBit i = false) : pc (x &&& (A ||| B)) = pc (x &&& A) + pc (x &&& B) := by
  rw [show x &&& (A ||| B) = (x &&& A) ||| (x &&& B) from Nat.eq_of_testBit_eq (fun i => by
    rw [Nat.testBit_and, Nat.testBit_or, Nat.testBit_or, Nat.testBit_and, Nat.testBit_and]
    cases x.testBit i <;> rfl)]
  exact pc_or (fun i hi => by
    rw [Nat.testBit_and, Bool.and_eq_true] at hi
    rw [Nat.testBit_and, h i hi.2, Bool.and_false])
theorem deg_tr (h : FG g) {T r : Nat} (hT : oneG g T) (hr : T.testBit r = true) : pc (g r &&& sd T (2 ^ r)) = trC g (sd T (2 ^ r)) := by
  have hS := sd_14 (2 ^ r) hT.1
  have := smT_all (F := fun S => pc (g r &&& S)) h.2.1 hS (by rw [Nat.and_zero]; exact pcn_zero 14) (fun A B _ _ hap => and_or2 (fun i hi => (hap.1 i hi).1))
  rw [smT_c (F2 := fun _ => 1) _ (fun j hj => one_nb h hT hr hj), smT_1] at this
  exact this.symm
theorem eIn_rm (h : FG g) {T r : Nat} (hT : T < 16384) (hr : T.testBit r = true) : eIn g T 14 = eIn g (sd T (2 ^ r)) 14 + 2 * pc (g r &&& sd T (2 ^ r)) := by
  have hr14 := bit_in hT hr
  rw [eIn_sm, eIn_sm, ← sm_rm14 hT hr]
  have hrr : (g r).testBit r = false := by
    cases z : (g r).testBit r
    · rfl
    · exact absurd rfl (FG_ne h hr14 z)
  have e1 : g r &&& T = g r &&& sd T (2 ^ r) := Nat.eq_of_testBit_eq (fun i => by
    rw [Nat.testBit_and, Nat.testBit_and]
    by_cases e : i = r
    · subst e; rw [hrr]; rfl
    · congr 1
      exact bool_iff ⟨fun z => sd_sub.mpr ⟨z, e⟩, fun z => (sd_sub.mp z).1⟩)
  have e2 : sm (fun k => pc (g k &&& T)) (sd T (2 ^ r)) 14 = sm (fun k => pc (g k &&& sd T (2 ^ r)) + ((g r).testBit k).toNat) (sd T (2 ^ r)) 14 := sm_congr (fun b hb => by
    have hb2 := sd_sub.mp hb
    have hb14 := bit_in hT hb2.1
    have hsy := h.2.1 b hb14 r hr14
    cases z : (g b).testBit r
    · rw [z] at hsy
      rw [← hsy, show g b &&& T = g b &&& sd T (2 ^ r) from Nat.eq_of_testBit_eq (fun i => by
        rw [Nat.testBit_and, Nat.testBit_and]
        by_cases e : i = r
        · subst e; rw [z]; rfl
        · congr 1
          exact bool_iff ⟨fun z => sd_sub.mpr ⟨z, e⟩, fun z => (sd_sub.mp z).1⟩)]
      rfl
    · rw [z] at hsy
      rw [← hsy]
      have q := pc_rm (B := g b &&& T) (b := r) (and_lt2 _ hT) (by rw [Nat.testBit_and, z, hr]; rfl)
      rw [show sd (g b &&& T) (2 ^ r) = g b &&& sd T (2 ^ r) from Nat.eq_of_testBit_eq (fun i => by
        rw [sd_bit, Nat.testBit_and, Nat.testBit_and, sd_bit, Bool.and_assoc])] at q
      rw [← q]; rfl) 14
  rw [e2, sm_add, sm_bit, e1]
  rw [show pcn (g r &&& sd T (2 ^ r)) 14 = pc (g r &&& sd T (2 ^ r)) from rfl]
  omega
theorem nodes_edges (h : FG g) (n : Nat) : ∀ W, W < 16384 → pc W ≤ n → eIn g W 14 + 2 * trC g W = 2 * pc W := by
  induction n with
  | zero =>
    intro W hW hp
    have : W = 0 := by
      by_cases e : W = 0
      · exact e
      · have := pc_pos hW e; omega
    subst this
    have h1 : trC g 0 = 0 := by
      rcases Nat.eq_zero_or_pos (trC g 0) with z | z
      · exact z
      · exact absurd rfl ((trC_iff (g := g) (W := 0) (by decide) (k := 0)).mpr z)
    rw [h1, eIn_sm, sm_z]
    have := pcn_zero 14
    rw [pc, this]
  | succ n ih =>
    intro W hW hp
    have hT : ∀ T, oneG g T → pc T ≤ n + 1 → eIn g T 14 + 2 = 2 * pc T := fun T hT hpT => by
      obtain ⟨r, hr14, hr⟩ := bit_ex hT.1 hT.2.1
      have p := pc_rm hT.1 hr
      have q := ih (sd T (2 ^ r)) (sd_14 _ hT.1) (by omega)
      rw [eIn_rm h hT.1 hr, deg_tr h hT hr]
      omega
    have s1 := smT_all (F := pc) h.2.1 hW (pcn_zero 14) (fun A B _ _ hap => pc_or (fun i hi => (hap.1 i hi).1))
    have s2 := smT_all (F := fun S => eIn g S 14) h.2.1 hW (by rw [eIn_sm, sm_z]) (fun A B _ _ hap => eIn_add hap)
    have s3 : ∀ k, k ≤ trC g W → smT (fun S => eIn g S 14) g W k + 2 * k = 2 * smT pc g W k := fun k => by
      induction k with
      | zero => intro _; rfl
      | succ k ihk =>
        intro hk
        have a1 := ihk (by omega)
        have a2 := hT (trA g W k) (trA_one h.2.1 hW (by omega)) (Nat.le_trans (pc_mono (fun i hi => trA_in hW hi)) hp)
        rw [smT, smT]
        omega
    have s4 := s3 (trC g W) (Nat.le_refl _)
    rw [s1, s2] at s4
    exact s4
end TRE
