/-! what the law's loops over nodes and trees gather -/
theorem isN_self {n : Nat} (hn : n ≤ 14) : isN n (nI n) = false := by
  cases e : isN n (nI n)
  · rfl
  · obtain ⟨k, h1, h2⟩ := (isN_iff hn).mp e
    have := (nI_eq (by omega) (by omega)).mp h2
    omega
theorem FG_irr {g : Nat → Nat} (h : FG g) {i : Nat} (hi : i < 14) : (g i).testBit i = false := by
  cases e : (g i).testBit i
  · rfl
  · exact absurd rfl (FG_ne h hi e)
theorem mk_all {W n : Nat} (h : W < 2 ^ n) : mk (fun i => W.testBit i) n = W := by
  apply Nat.eq_of_testBit_eq
  intro i
  rw [mk_bit]
  by_cases e : i < n
  · rw [decide_eq_true e, Bool.true_and]
  · rw [decide_eq_false e, bit_of_lt h (by omega)]; rfl
theorem mk_14 {W n : Nat} (h : W < 16384) (hn : n ≤ 14) : mk (fun i => W.testBit i) n < 16384 :=
  Nat.lt_of_lt_of_le (mk_lt _ n) (pow_15 hn)
theorem eIn_14 {g : Nat → Nat} {W n : Nat} (h : W < 2 ^ n) (hn : n ≤ 14) : eIn g W n = eIn g W 14 := by
  have := eIn_up (g := g) h (14 - n)
  rw [show n + (14 - n) = 14 by omega] at this
  exact this.symm
theorem fst_y {q : Nat → Bool} {n : Nat} (h : fst q n < n) : fst q (n + 1) = fst q n := by
  have s := fst_spec h
  exact fst_eq (by omega) s.1 s.2
theorem bst_ge {q : Nat → Bool} {n : Nat} (hn : n ≤ 14) (h : 0 ≤ bst q n) : fst q n < n := by
  rcases Nat.lt_or_ge (fst q n) n with z | z
  · exact z
  · exact absurd ((bst_neg hn).mpr (by omega)) (Int32.not_lt.mpr h)
theorem bst_s1 {q : Nat → Bool} {n : Nat} (hn : n ≤ 14) (h : 0 ≤ bst q n) : bst q n = bst q (n + 1) := by
  have h2 := bst_ge hn h
  rw [bst, bst, fst_y h2, if_pos h2, if_pos (by omega)]
theorem bst_s2 {q : Nat → Bool} {n : Nat} (h : q n = false) : bst q n = bst q (n + 1) := by
  by_cases h2 : fst q n < n
  · rw [bst, bst, fst_y h2, if_pos h2, if_pos (by omega)]
  · have : fst q (n + 1) = n + 1 := fst_all (fun i hi => by
      by_cases e : i = n
      · rw [e]; exact h
      · exact fst_none h2 (by omega))
    rw [bst, bst, this, if_neg h2, if_neg (by omega)]
theorem bst_s3 {q : Nat → Bool} {n : Nat} (hn : n ≤ 14) (h0 : ¬ 0 ≤ bst q n) (h : q n = true) : nI n = bst q (n + 1) := by
  have h2 := (bst_neg hn).mp (Int32.not_le.mp h0)
  have : fst q (n + 1) = n := fst_eq (by omega) h (fun i hi => fst_none h2 hi)
  rw [bst, this, if_pos (by omega)]
theorem won_or (a b : Bool) : nI a.toNat ||| bI b = nI (a || b).toNat := by
  cases a <;> cases b <;> decide +kernel
theorem low_neg {S : Nat} (hS : S < 16384) (h : S ≠ 0) : nI S &&& (-nI S) = nI (2 ^ low S) := by
  obtain ⟨h1, h2, h3⟩ := low_spec hS h
  apply nI_bv
  rw [Int32.toBitVec_and, Int32.toBitVec_neg, bv_nI, bv_nI]
  apply BitVec.eq_of_getLsbD_eq
  intro i hi
  rw [BitVec.getLsbD_and, BitVec.getLsbD_neg]
  simp only [BitVec.getLsbD_ofNat, hi, decide_true, Bool.true_and]
  rw [pow_bit]
  by_cases e : i < low S
  · rw [h3 i e, decide_eq_false (show ¬ low S = i by omega)]; rfl
  · by_cases e2 : low S = i
    · rw [← e2, h2, decide_eq_true rfl, decide_eq_false (fun ⟨j, j1, j2⟩ => by
        rw [Bool.and_eq_true] at j2
        rw [h3 j j1] at j2; exact absurd j2.2 (by decide))]
      rfl
    · rw [decide_eq_true (show ∃ j, j < i ∧ (decide (j < 32) && S.testBit j) = true from ⟨low S, by omega, by rw [h2, decide_eq_true (show low S < 32 by omega)]; rfl⟩), decide_eq_false e2]
      cases S.testBit i <;> rfl
theorem low_trA {g : Nat → Nat} (hs : symG g) {W k : Nat} (hW : W < 16384) (h : trL g W k ≠ 0) : low (trA g W k) = low (trL g W k) := by
  obtain ⟨h1, h2, h3⟩ := low_spec (trL_lt g hW k) h
  refine low_eq h1 ?_ (fun i hi => ?_)
  · rw [trA_is h]; exact comp_self g W h1
  · cases z : (trA g W k).testBit i
    · rfl
    · have := trA_L hs hW z
      rw [h3 i hi] at this; cases this
noncomputable def bfT (g : Nat → Nat) (W t : Nat) : Int32 := if t = 0 then -1 else nI (2 ^ low (trA g W (t - 1)))
theorem bfT_s (g : Nat → Nat) (W t : Nat) : nI (2 ^ low (trA g W t)) = bfT g W (t + 1) := by
  rw [bfT, if_neg (by omega), Nat.add_sub_cancel]
theorem low_up {g : Nat → Nat} (hs : symG g) {W k : Nat} (hW : W < 16384) (h : trL g W (k + 1) ≠ 0) : low (trA g W k) < low (trA g W (k + 1)) := by
  have h0 : trL g W k ≠ 0 := fun q => h (trL_0 q)
  rw [low_trA hs hW h0, low_trA hs hW h]
  obtain ⟨h1, h2, h3⟩ := low_spec (trL_lt g hW k) h0
  obtain ⟨k1, k2, k3⟩ := low_spec (trL_lt g hW (k + 1)) h
  have e : (trL g W k).testBit (low (trL g W (k + 1))) = true := by
    have k9 := congrArg (fun x => x.testBit (low (trL g W (k + 1)))) (trL_s (g := g) hW k)
    exact (sd_in1 (k9.symm.trans k2)).1
  have e2 : (trL g W (k + 1)).testBit (low (trL g W k)) = false := by
    cases z : (trL g W (k + 1)).testBit (low (trL g W k))
    · rfl
    · rw [trL_s hW k] at z
      have := (sd_in1 z).2
      rw [trA_is h0, comp_self g W h1] at this; cases this
  rcases Nat.lt_trichotomy (low (trL g W k)) (low (trL g W (k + 1))) with z | z | z
  · exact z
  · rw [z, k2] at e2; cases e2
  · rw [h3 _ z] at e; cases e
theorem bfT_lt {g : Nat → Nat} (hs : symG g) {W t : Nat} (hW : W < 16384) (ht : t < trC g W) : ¬ nI (2 ^ low (trA g W t)) ≤ bfT g W t := by
  have h1 := trA_one hs hW ht
  have p1 := pow_14 (low_spec h1.1 h1.2.1).1
  cases t with
  | zero =>
    rw [bfT, if_pos rfl]
    generalize 2 ^ low (trA g W 0) = x at p1 ⊢
    intro q
    have := Int32.le_iff_toInt_le.mp q
    rw [nI_toInt (by omega), show (-1 : Int32).toInt = -1 by decide] at this
    omega
  | succ t =>
    have h2 := trA_one hs hW (show t < trC g W by omega)
    have p2 := pow_14 (low_spec h2.1 h2.2.1).1
    rw [← bfT_s]
    intro q
    have := (nI_leI (by omega) (by omega)).mp q
    have z := low_up hs hW ((trC_iff hW).mpr ht)
    have := Nat.pow_lt_pow_right (a := 2) (by decide) z
    omega
theorem trN_ok {g : Nat → Nat} {W v : Nat} (hW : W < 16384) (hv : W.testBit v = true) : trN g W v < trC g W ∧ (trA g W (trN g W v)).testBit v = true := by
  obtain ⟨k, hk, hb⟩ := tr_cover (g := g) hW hv
  have hm : (mk (fun k => (trA g W k).testBit v) 14).testBit k = true := by
    rw [mk_bit, decide_eq_true hk, hb]; rfl
  have h1 := (low_spec (mk_lt _ 14) (ne0 hm)).2.1
  rw [mk_bit, Bool.and_eq_true] at h1
  have h2 : (trA g W (trN g W v)).testBit v = true := h1.2
  refine ⟨(trC_iff hW).mp (fun q => ?_), h2⟩
  rw [trA, if_pos q, Nat.zero_testBit] at h2; cases h2
theorem near_in {g : Nat → Nat} {W v : Nat} (hW : W < 16384) (hv : W.testBit v = true) : trA g W (trN g W v) &&& (g v &&& W) = g v &&& W := by
  apply Nat.eq_of_testBit_eq
  intro i
  rw [Nat.testBit_and]
  cases z : (g v &&& W).testBit i
  · rw [Bool.and_false]
  · have z2 := z
    rw [Nat.testBit_and, Bool.and_eq_true] at z2
    rw [trA_cls hW _ v (trN_ok hW hv).2 i z2.1 z2.2]; rfl
theorem alk_mx {g tr : Nat → Nat} {n t : Nat} : mxC g (tr (alk g tr n t)) n = mxC g (tr t) n := by
  by_cases h : alk g tr n t < t
  · exact of_decide_eq_true (fst_spec (q := fun k => decide (mxC g (tr k) n = mxC g (tr t) n)) h).1
  · have := alk_le g tr n t
    rw [show alk g tr n t = t by omega]
theorem alk_alk {g tr : Nat → Nat} {n t : Nat} : alk g tr n (alk g tr n t) = alk g tr n t := by
  have h := alk_mx (g := g) (tr := tr) (n := n) (t := t)
  have hl := alk_le g tr n t
  have hno : ∀ i, i < alk g tr n t → decide (mxC g (tr i) n = mxC g (tr t) n) = false := fun i hi => by
    by_cases e : alk g tr n t < t
    · exact (fst_spec (q := fun k => decide (mxC g (tr k) n = mxC g (tr t) n)) e).2 i hi
    · exact fst_none (q := fun k => decide (mxC g (tr k) n = mxC g (tr t) n)) (n := t) e (by omega)
  show fst (fun k => decide (mxC g (tr k) n = mxC g (tr (alk g tr n t)) n)) (alk g tr n t) = alk g tr n t
  exact fst_all (fun i hi => by rw [h]; exact hno i hi)
theorem alk_same {g : Nat → Nat} (h : FG g) {W t : Nat} (hW : W < 16384) (ht : t < trC g W) : pc (trA g W (alk g (trA g W) 14 t)) = pc (trA g W t) ∧ V g (trA g W (alk g (trA g W) 14 t)) = V g (trA g W t) ∧ lwA g (trA g W (alk g (trA g W) 14 t)) 14 = lwA g (trA g W t) 14 := by
  have hl := alk_le g (trA g W) 14 t
  exact same_class h (trA_one h.2.1 hW (by omega)) (trA_one h.2.1 hW ht) alk_mx
theorem V_mex {g : Nat → Nat} {W n : Nat} (h1 : W < 2 ^ n) (hn : n ≤ 14) (h0 : W ≠ 0) : V g W = mex (seenF g (T g) W n) ∧ Mi g W = wonF g (T g) W n := by
  have hW := w14 h1 hn
  have h := (T_all g _ W rfl hW).2.2.2.2 h0
  have f := fold_top (g := g) (t := T g) (S := W) (n := n) (fun k hk => bit_of_lt h1 hk) (14 - n)
  rw [show n + (14 - n) = 14 by omega] at f
  exact ⟨h.1.trans (by rw [f.1]), h.2.2.2.trans (by rw [f.2.2.2])⟩
theorem sd_self (W : Nat) : sd W W = 0 := by
  apply Nat.eq_of_testBit_eq; intro i
  rw [sd_bit, Nat.zero_testBit]; cases W.testBit i <;> rfl
theorem sd_sub0 {S W : Nat} (h : ∀ i, S.testBit i = true → W.testBit i = true) : sd S W = 0 := by
  apply Nat.eq_of_testBit_eq; intro i
  rw [sd_bit, Nat.zero_testBit]
  cases z : S.testBit i
  · rfl
  · rw [h i z]; rfl
theorem all_s {g : Nat → Nat} (hs : symG g) {W : Nat} (hW : W < 16384) (t : Nat) : sd W (trL g W t) ||| trA g W t = sd W (trL g W (t + 1)) := by
  apply Nat.eq_of_testBit_eq; intro i
  rw [Nat.testBit_or, sd_bit, sd_bit, trL_s hW t, sd_bit]
  cases z : (trA g W t).testBit i
  · rw [Bool.not_false, Bool.and_true, Bool.or_false]
  · rw [trA_in hW z, trA_L hs hW z]; rfl
theorem all_0 {g : Nat → Nat} (hs : symG g) {W : Nat} (hW : W < 16384) (t : Nat) : trA g W t &&& sd W (trL g W t) = 0 := by
  apply Nat.eq_of_testBit_eq; intro i
  rw [Nat.testBit_and, sd_bit, Nat.zero_testBit]
  cases z : (trA g W t).testBit i
  · rfl
  · rw [trA_L hs hW z, Bool.not_true, Bool.and_false]; rfl
theorem all_end {g : Nat → Nat} {W : Nat} (hW : W < 16384) : sd W (trL g W (trC g W)) = W := by
  rw [(trC_spec g hW).2.1]
  apply Nat.eq_of_testBit_eq; intro i
  rw [sd_bit, Nat.zero_testBit, Bool.not_false, Bool.and_true]
theorem Sh_z {g : Nat → Nat} {W : Nat} (hW : W < 16384) : Sh g W = 0 ↔ W = 0 := by
  constructor
  · intro h
    by_cases e : W = 0
    · exact e
    · have := Sh_pos (g := g) hW e; omega
  · rintro rfl; exact Sh_0 g
theorem mir_n {g : Nat → Nat} {W n : Nat} (h1 : W < 2 ^ n) (hn : n ≤ 14) : cnM (miB g W 14) n n = cnM (miB g W 14) 14 14 :=
  cnM_n hn (fun i m h => miB_z h1 h)
theorem mir_no {g : Nat → Nat} {W n : Nat} (h1 : W < 2 ^ n) (hn : n ≤ 14) {R : Nat} (hR : R < 2147483648) (h : cnM (miB g W 14) 14 14 ≤ R) : mrC g W n (nI R) = -1 :=
  (rank_out hn hR n hn).1 (by rw [mir_n h1 hn]; exact h)
theorem mir_hi {g : Nat → Nat} {W n : Nat} (h1 : W < 2 ^ n) (hn : n ≤ 14) {R : Nat} (hR : R < 2147483648) (h : R < cnM (miB g W 14) 14 14) : ∃ a, a < 2000 ∧ mrC g W n (nI R) = nI a :=
  (rank_out hn hR n hn).2 (by rw [mir_n h1 hn]; exact h)
theorem even_e {g : Nat → Nat} (h : FG g) {W : Nat} (hW : W < 16384) : 2 * (eIn g W 14 / 2) = eIn g W 14 ∧ eIn g W 14 / 2 + trC g W = pc W := by
  have := nodes_edges h 14 W hW (pc_le _)
  omega
theorem smM_le {g : Nat → Nat} (h : FG g) {W : Nat} (hW : W < 16384) : ∀ k, k ≤ trC g W → smT (fun S => cnM (miQ g W 14 S) 14 14) g W k ≤ k
  | 0, _ => Nat.le_refl _
  | k + 1, hk => by
    have := smM_le h hW k (by omega)
    have := mir_le1 h hW (show k < trC g W by omega)
    rw [smT]; omega
theorem clN_le (g tr : Nat → Nat) (n : Nat) : ∀ k, clN g tr n k ≤ k
  | 0 => Nat.le_refl _
  | k + 1 => by
    rw [clN]
    have := clN_le g tr n k
    split <;> omega
theorem cnt_le (q : Nat → Bool) : ∀ k, cnt q k ≤ k
  | 0 => Nat.le_refl _
  | k + 1 => by
    rw [cnt]
    have := cnt_le q k
    split <;> omega
