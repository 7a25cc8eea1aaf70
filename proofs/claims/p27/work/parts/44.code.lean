/-! codes of trees -/
theorem ex_maxN (c : Nat → Nat) (B : Nat) : ∀ n, (∃ b, b < n ∧ B.testBit b = true) → ∃ b, b < n ∧ B.testBit b = true ∧ ∀ x, x < n → B.testBit x = true → c x ≤ c b
  | 0, h => by obtain ⟨b, h1, -⟩ := h; omega
  | n + 1, h => by
    by_cases e : ∃ b, b < n ∧ B.testBit b = true
    · obtain ⟨b, h1, h2, h3⟩ := ex_maxN c B n e
      by_cases q : B.testBit n = true ∧ c b < c n
      · refine ⟨n, by omega, q.1, fun x hx hb => ?_⟩
        by_cases z : x = n
        · subst z; exact Nat.le_refl _
        · exact Nat.le_trans (h3 x (by omega) hb) (by omega)
      · refine ⟨b, by omega, h2, fun x hx hb => ?_⟩
        by_cases z : x = n
        · subst z
          rcases Nat.lt_or_ge (c b) (c x) with y | y
          · exact absurd ⟨hb, y⟩ q
          · exact y
        · exact h3 x (by omega) hb
    · obtain ⟨b, h1, h2⟩ := h
      have hbn : b = n := by
        rcases Nat.lt_or_ge b n with y | y
        · exact absurd ⟨b, y, h2⟩ e
        · omega
      subst hbn
      refine ⟨b, by omega, h2, fun x hx hb => ?_⟩
      by_cases z : x = b
      · subst z; exact Nat.le_refl _
      · exact absurd ⟨x, by omega, hb⟩ e
/-- a greatest one of a set -/
def isMx (c : Nat → Nat) (B b : Nat) : Prop := B.testBit b = true ∧ ∀ x, B.testBit x = true → c x ≤ c b
theorem ex_mx (c : Nat → Nat) {B : Nat} (hB : B < 16384) (h : B ≠ 0) : ∃ b, isMx c B b := by
  obtain ⟨b, -, h2, h3⟩ := ex_maxN c B 14 (bit_ex hB h)
  exact ⟨b, h2, fun x hx => h3 x (bit_in hB hx) hx⟩
def ctA (v c : Nat) : Nat := v * 2 ^ (Nat.log2 c + 1) + c
noncomputable def selF (c : Nat → Nat) : Nat → Nat → Nat → Nat
  | 0, _, v => v
  | f + 1, B, v => @dite _ (∃ b, isMx c B b) (Classical.propDecidable _) (fun h => selF c f (sd B (2 ^ h.choose)) (ctA v (c h.choose))) (fun _ => v)
noncomputable def selV (c : Nat → Nat) (B v : Nat) : Nat := selF c (pc B) B v
theorem pcn_rm {B b : Nat} (hb : B.testBit b = true) : ∀ n, pcn (sd B (2 ^ b)) n + (if b < n then 1 else 0) = pcn B n
  | 0 => by rw [if_neg (by omega)]; rfl
  | n + 1 => by
    rw [pcn, pcn, ← pcn_rm hb n, sd_bit, pow_bit]
    by_cases e : b = n
    · subst e
      rw [hb, if_neg (Nat.lt_irrefl b), if_pos (Nat.lt_succ_self b), decide_eq_true rfl]
      simp
    · rw [decide_eq_false e, Bool.not_false, Bool.and_true]
      by_cases q : b < n
      · rw [if_pos q, if_pos (show b < n + 1 by omega)]; omega
      · rw [if_neg q, if_neg (show ¬ b < n + 1 by omega)]; omega
theorem pc_rm {B b : Nat} (hB : B < 16384) (hb : B.testBit b = true) : pc (sd B (2 ^ b)) + 1 = pc B := by
  have := pcn_rm hb 14
  rw [if_pos (bit_in hB hb)] at this
  exact this
theorem sd_sub {B b x : Nat} : (sd B (2 ^ b)).testBit x = true ↔ B.testBit x = true ∧ x ≠ b := by
  rw [sd_bit, pow_bit]
  by_cases e : b = x
  · subst e; simp
  · have e2 : x ≠ b := fun q => e q.symm
    simp [e, e2]
theorem isMx_rm {c : Nat → Nat} {B b d : Nat} (h : isMx c B b) (hne : b ≠ d) : isMx c (sd B (2 ^ d)) b := ⟨sd_sub.mpr ⟨h.1, hne⟩, fun x hx => h.2 x (sd_sub.mp hx).1⟩
theorem sd_comm (B a b : Nat) : sd (sd B a) b = sd (sd B b) a := by
  apply Nat.eq_of_testBit_eq
  intro i
  rw [sd_bit, sd_bit, sd_bit, sd_bit]
  cases B.testBit i <;> cases a.testBit i <;> cases b.testBit i <;> rfl
theorem selF_step (c : Nat → Nat) : ∀ (f : Nat) (B v b : Nat), B < 16384 → pc B = f + 1 → isMx c B b → selF c (f + 1) B v = selF c f (sd B (2 ^ b)) (ctA v (c b))
  | f, B, v, b, hB, hp, hm => by
    have hex : ∃ b, isMx c B b := ⟨b, hm⟩
    rw [selF, dif_pos hex]
    have h0 := hex.choose_spec
    generalize hex.choose = a at h0
    by_cases e : a = b
    · rw [e]
    · have hcc : c a = c b := Nat.le_antisymm (hm.2 a h0.1) (h0.2 b hm.1)
      have hb1 : isMx c (sd B (2 ^ a)) b := isMx_rm hm (fun q => e q.symm)
      have hb2 : isMx c (sd B (2 ^ b)) a := isMx_rm h0 e
      have p1 := pc_rm hB h0.1
      have p2 := pc_rm hB hm.1
      have p3 := pc_rm (sd_14 (2 ^ a) hB) hb1.1
      cases f with
      | zero => omega
      | succ f =>
        rw [selF_step c f _ _ b (sd_14 _ hB) (by omega) hb1, selF_step c f _ _ a (sd_14 _ hB) (by omega) hb2, hcc, sd_comm]
theorem selV_0 (c : Nat → Nat) (v : Nat) : selV c 0 v = v := by
  rw [selV, pc, pcn_zero, selF]
theorem selV_s {c : Nat → Nat} {B b : Nat} (v : Nat) (hB : B < 16384) (hm : isMx c B b) : selV c B v = selV c (sd B (2 ^ b)) (ctA v (c b)) := by
  have p := pc_rm hB hm.1
  rw [selV, selV, ← p, selF_step c _ B v b hB p.symm hm]
theorem selV_congr {c c2 : Nat → Nat} : ∀ (n B v : Nat), B < 16384 → pc B ≤ n → (∀ b, B.testBit b = true → c b = c2 b) → selV c B v = selV c2 B v
  | 0, B, v, hB, hp, h => by
    have : B = 0 := by
      by_cases e : B = 0
      · exact e
      · have := pc_pos hB e; omega
    subst this
    rw [selV_0, selV_0]
  | n + 1, B, v, hB, hp, h => by
    by_cases e : B = 0
    · subst e; rw [selV_0, selV_0]
    · obtain ⟨b, hb⟩ := ex_mx c hB e
      have hb2 : isMx c2 B b := ⟨hb.1, fun x hx => by rw [← h x hx, ← h b hb.1]; exact hb.2 x hx⟩
      have p := pc_rm hB hb.1
      rw [selV_s v hB hb, selV_s v hB hb2, h b hb.1]
      exact selV_congr n _ _ (sd_14 _ hB) (by omega) (fun x hx => h x (sd_sub.mp hx).1)
/-! sums over a set -/
def sm (w : Nat → Nat) (B : Nat) : Nat → Nat
  | 0 => 0
  | k + 1 => sm w B k + (if B.testBit k then w k else 0)
theorem sm_rm {w : Nat → Nat} {B b : Nat} (hb : B.testBit b = true) : ∀ n, sm w (sd B (2 ^ b)) n + (if b < n then w b else 0) = sm w B n
  | 0 => by rw [if_neg (by omega)]; rfl
  | n + 1 => by
    rw [sm, sm, ← sm_rm hb n, sd_bit, pow_bit]
    by_cases e : b = n
    · subst e
      rw [hb, if_neg (Nat.lt_irrefl b), if_pos (Nat.lt_succ_self b), decide_eq_true rfl]
      simp
    · rw [decide_eq_false e, Bool.not_false, Bool.and_true]
      by_cases q : b < n
      · rw [if_pos q, if_pos (show b < n + 1 by omega)]; omega
      · rw [if_neg q, if_neg (show ¬ b < n + 1 by omega)]; omega
theorem sm_rm14 {w : Nat → Nat} {B b : Nat} (hB : B < 16384) (hb : B.testBit b = true) : sm w (sd B (2 ^ b)) 14 + w b = sm w B 14 := by
  have := sm_rm (w := w) hb 14
  rw [if_pos (bit_in hB hb)] at this
  exact this
theorem sm_z (w : Nat → Nat) : ∀ n, sm w 0 n = 0
  | 0 => rfl
  | n + 1 => by rw [sm, sm_z w n, Nat.zero_testBit]; rfl
theorem sm_congr {w w2 : Nat → Nat} {B : Nat} (h : ∀ b, B.testBit b = true → w b = w2 b) : ∀ n, sm w B n = sm w2 B n
  | 0 => rfl
  | n + 1 => by
    rw [sm, sm, sm_congr h n]
    by_cases e : B.testBit n = true
    · rw [if_pos e, if_pos e, h n e]
    · rw [if_neg e, if_neg e]
/-- a code of w nodes -/
def cdW (w c : Nat) : Prop := 1 ≤ w ∧ 2 ^ (2 * w - 1) ≤ c ∧ c < 2 ^ (2 * w)
theorem cdW_len {w c : Nat} (h : cdW w c) : Nat.log2 c + 1 = 2 * w := by
  obtain ⟨h0, h1, h2⟩ := h
  have hc : c ≠ 0 := fun q => by have : 0 < 2 ^ (2 * w - 1) := Nat.pow_pos (by omega); omega
  have h3 : Nat.log2 c < 2 * w := (Nat.log2_lt hc).mpr h2
  have h4 : 2 * w - 1 ≤ Nat.log2 c := (Nat.le_log2 hc).mpr h1
  omega
theorem ctA_w {w c : Nat} (v : Nat) (h : cdW w c) : ctA v c = v * 2 ^ (2 * w) + c := by rw [ctA, cdW_len h]
theorem ctA_bd {w c v s : Nat} (h : cdW w c) (hs : 1 ≤ s) (h1 : 2 ^ (2 * s - 2) ≤ v) (h2 : v < 2 ^ (2 * s - 1)) : 2 ^ (2 * (s + w) - 2) ≤ ctA v c ∧ ctA v c < 2 ^ (2 * (s + w) - 1) := by
  rw [ctA_w v h]
  have e1 : 2 ^ (2 * (s + w) - 2) = 2 ^ (2 * s - 2) * 2 ^ (2 * w) := by rw [← Nat.pow_add]; congr 1; omega
  have e2 : 2 ^ (2 * (s + w) - 1) = 2 ^ (2 * s - 1) * 2 ^ (2 * w) := by rw [← Nat.pow_add]; congr 1; omega
  rw [e1, e2]
  constructor
  · exact Nat.le_trans (Nat.mul_le_mul_right _ h1) (Nat.le_add_right _ _)
  · have h3 : (v + 1) * 2 ^ (2 * w) ≤ 2 ^ (2 * s - 1) * 2 ^ (2 * w) := Nat.mul_le_mul_right _ h2
    rw [Nat.add_mul, Nat.one_mul] at h3
    have := h.2.2
    omega
theorem selV_bd {c w : Nat → Nat} : ∀ (n B v s : Nat), B < 16384 → pc B ≤ n → (∀ b, B.testBit b = true → cdW (w b) (c b)) → 1 ≤ s → 2 ^ (2 * s - 2) ≤ v → v < 2 ^ (2 * s - 1) → 2 ^ (2 * (s + sm w B 14) - 2) ≤ selV c B v ∧ selV c B v < 2 ^ (2 * (s + sm w B 14) - 1)
  | 0, B, v, s, hB, hp, h, hs, h1, h2 => by
    have : B = 0 := by
      by_cases e : B = 0
      · exact e
      · have := pc_pos hB e; omega
    subst this
    rw [selV_0, sm_z]
    exact ⟨h1, h2⟩
  | n + 1, B, v, s, hB, hp, h, hs, h1, h2 => by
    by_cases e : B = 0
    · subst e; rw [selV_0, sm_z]; exact ⟨h1, h2⟩
    · obtain ⟨b, hb⟩ := ex_mx c hB e
      have p := pc_rm hB hb.1
      have q := sm_rm14 (w := w) hB hb.1
      obtain ⟨a1, a2⟩ := ctA_bd (h b hb.1) hs h1 h2
      have := selV_bd n (sd B (2 ^ b)) (ctA v (c b)) (s + w b) (sd_14 _ hB) (by omega) (fun x hx => h x (sd_sub.mp hx).1) (by omega) a1 a2
      rw [selV_s v hB hb, ← q, show s + (sm w (sd B (2 ^ b)) 14 + w b) = s + w b + sm w (sd B (2 ^ b)) 14 by omega]
      exact this
/-! codes by a root -/
noncomputable def cdF (g : Nat → Nat) : Nat → Nat → Nat → Nat
  | 0, _, _ => 0
  | f + 1, W, r => 2 * selV (fun b => cdF g f (sd W (2 ^ r)) b) (g r &&& sd W (2 ^ r)) 1
theorem chd_lt {g : Nat → Nat} {W r : Nat} (hW : W < 16384) : g r &&& sd W (2 ^ r) < 16384 := and_lt2 _ (sd_14 _ hW)
theorem chd_bit {g : Nat → Nat} {W r b : Nat} : (g r &&& sd W (2 ^ r)).testBit b = true ↔ (g r).testBit b = true ∧ W.testBit b = true ∧ b ≠ r := by
  rw [Nat.testBit_and, Bool.and_eq_true, sd_sub]
theorem cdF_fuel (g : Nat → Nat) : ∀ (f f2 W r : Nat), W < 16384 → W.testBit r = true → pc W ≤ f → pc W ≤ f2 → cdF g f W r = cdF g f2 W r
  | 0, f2, W, r, hW, hr, h1, _ => by have := pc_rm hW hr; omega
  | f + 1, 0, W, r, hW, hr, _, h2 => by have := pc_rm hW hr; omega
  | f + 1, f2 + 1, W, r, hW, hr, h1, h2 => by
    have p := pc_rm hW hr
    rw [cdF, cdF, selV_congr 14 _ 1 (chd_lt hW) (pc_le _) (fun b hb => cdF_fuel g f f2 (sd W (2 ^ r)) b (sd_14 _ hW) (sd_sub.mpr (chd_bit.mp hb).2) (by omega) (by omega))]
noncomputable def CD (g : Nat → Nat) (W r : Nat) : Nat := cdF g 14 W r
theorem CD_eq (g : Nat → Nat) {W r : Nat} (hW : W < 16384) (hr : W.testBit r = true) : CD g W r = 2 * selV (fun b => CD g (sd W (2 ^ r)) b) (g r &&& sd W (2 ^ r)) 1 := by
  have p := pc_rm hW hr
  have p2 := pc_le W
  rw [CD, cdF, selV_congr 14 _ 1 (chd_lt hW) (pc_le _) (fun b hb => cdF_fuel g 13 14 (sd W (2 ^ r)) b (sd_14 _ hW) (sd_sub.mpr (chd_bit.mp hb).2) (by omega) (by omega))]
  rfl
theorem comp_cut {g : Nat → Nat} {W W2 b : Nat} (hW : W < 16384) (hb : b < 14) (hs : ∀ x, W2.testBit x = true → W.testBit x = true) (h : ∀ x, rch g W b x → W2.testBit x = true) : comp g W b = comp g W2 b :=
  eq_of_bits (comp_lt _ _ _) (comp_lt _ _ _) (fun i _ => by
    have q : (comp g W b).testBit i = true ↔ (comp g W2 b).testBit i = true := by
      rw [comp_bit, comp_bit]
      constructor
      · rintro ⟨z1, z2⟩
        exact ⟨z1, (rch_ind (g := g) (fun x => rch g W b x ∧ rch g W2 b x) hW hb ⟨rch_self _ _ _, rch_self _ _ _⟩ (fun k m hk hm hw => by
          have z3 := rch_step hk.1 hm hw
          exact ⟨z3, rch_step hk.2 hm (h m z3)⟩) z2).2⟩
      · rintro ⟨z1, z2⟩
        exact ⟨z1, rch_mono (fun k m z w => ⟨z, hs m w⟩) z2⟩
    cases e1 : (comp g W b).testBit i <;> cases e2 : (comp g W2 b).testBit i <;> simp_all)
theorem comp_sub {g : Nat → Nat} {W r x : Nat} (hr : W.testBit r = true) (h : (comp g W r).testBit x = true) : W.testBit x = true := comp_in hr h
theorem CD_comp (g : Nat → Nat) : ∀ (n W r : Nat), W < 16384 → W.testBit r = true → pc W ≤ n → CD g W r = CD g (comp g W r) r
  | 0, W, r, hW, hr, h => by have := pc_rm hW hr; omega
  | n + 1, W, r, hW, hr, h => by
    have p := pc_rm hW hr
    have hr14 := bit_in hW hr
    have hD := comp_lt g W r
    have hDr := comp_self g W hr14
    have pm : pc (comp g W r) ≤ pc W := pc_mono (fun i hi => comp_sub hr hi)
    have p2 := pc_rm hD hDr
    have ech : g r &&& sd W (2 ^ r) = g r &&& sd (comp g W r) (2 ^ r) := eq_of_bits (chd_lt hW) (chd_lt hD) (fun b _ => by
      have q : (g r &&& sd W (2 ^ r)).testBit b = true ↔ (g r &&& sd (comp g W r) (2 ^ r)).testBit b = true := by
        rw [chd_bit, chd_bit]
        exact ⟨fun z => ⟨z.1, comp_cls hW r r hDr b z.1 z.2.1, z.2.2⟩, fun z => ⟨z.1, comp_sub hr z.2.1, z.2.2⟩⟩
      cases e1 : (g r &&& sd W (2 ^ r)).testBit b <;> cases e2 : (g r &&& sd (comp g W r) (2 ^ r)).testBit b <;> simp_all)
    rw [CD_eq g hW hr, CD_eq g hD hDr, ← ech]
    refine congrArg (fun z => 2 * z) ?_
    refine selV_congr 14 _ 1 (chd_lt hW) (pc_le _) (fun b hb => ?_)
    have hb1 := chd_bit.mp hb
    have hb2 := chd_bit.mp (show (g r &&& sd (comp g W r) (2 ^ r)).testBit b = true by rw [← ech]; exact hb)
    rw [CD_comp g n (sd W (2 ^ r)) b (sd_14 _ hW) (sd_sub.mpr hb1.2) (by omega), CD_comp g n (sd (comp g W r) (2 ^ r)) b (sd_14 _ hD) (sd_sub.mpr hb2.2) (by omega)]
    refine congrArg (fun z => CD g z b) ?_
    refine comp_cut (sd_14 _ hW) (bit_in hW hb1.2.1) (fun x hx => ?_) (fun x hx => ?_)
    · have := sd_sub.mp hx
      exact sd_sub.mpr ⟨comp_sub hr this.1, this.2⟩
    · have hx2 : (sd W (2 ^ r)).testBit x = true := rch_in (sd_sub.mpr hb1.2) hx
      have hx3 := sd_sub.mp hx2
      refine sd_sub.mpr ⟨(comp_bit g W r x).mpr ⟨bit_in hW hx3.1, ?_⟩, hx3.2⟩
      exact rch_trans (rch_step (rch_self g W r) hb1.1 hb1.2.1) (rch_mono (fun k m z w => ⟨z, (sd_sub.mp w).1⟩) hx)
