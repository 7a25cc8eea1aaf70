/-! two colours; the shortest game of a tree; the longest way -/
section COL
variable {g : Nat → Nat}
theorem two_col (h : FG g) (n : Nat) : ∀ W, W < 16384 → pc W ≤ n → ∃ c : Nat → Bool, ∀ i j, W.testBit i = true → W.testBit j = true → (g i).testBit j = true → c i ≠ c j := by
  induction n with
  | zero =>
    intro W hW hp
    refine ⟨fun _ => true, fun i j hi => ?_⟩
    have := pc_rm hW hi
    omega
  | succ n ih =>
    intro W hW hp
    by_cases e : W = 0
    · subst e
      exact ⟨fun _ => true, fun i j hi => by rw [Nat.zero_testBit] at hi; cases hi⟩
    · obtain ⟨v, hv14, hv⟩ := bit_ex hW e
      have p := pc_rm hW hv
      have hS := sd_14 (2 ^ v) hW
      obtain ⟨c, hc⟩ := ih (sd W (2 ^ v)) hS (by omega)
      have hnb : ∀ y, (sd W (2 ^ v)).testBit y = true → (g v).testBit y = true → low (g v &&& comp g (sd W (2 ^ v)) y) = y := fun y hy hg => by
        have hy14 := bit_in hS hy
        have h1 : (g v &&& comp g (sd W (2 ^ v)) y).testBit y = true := by
          rw [Nat.testBit_and, hg, comp_self g _ hy14]; rfl
        have h2 := low_spec (and_lt2 (g v) (comp_lt g (sd W (2 ^ v)) y)) (ne0 h1)
        have h3 := h2.2.1
        rw [Nat.testBit_and, Bool.and_eq_true] at h3
        have hb : (g v &&& sd W (2 ^ v)).testBit (low (g v &&& comp g (sd W (2 ^ v)) y)) = true := by
          rw [Nat.testBit_and, h3.1, comp_sub hy h3.2]; rfl
        have hb2 : (g v &&& sd W (2 ^ v)).testBit y = true := by
          rw [Nat.testBit_and, hg, hy]; rfl
        exact part_dis h hW hv14 hb hb2 (comp_self g _ h2.1) h3.2
      have hvv : ∀ {x y : Nat}, (sd W (2 ^ v)).testBit x = true → (sd W (2 ^ v)).testBit y = true → (g x).testBit y = true → comp g (sd W (2 ^ v)) y = comp g (sd W (2 ^ v)) x := fun {x y} hx hy hg =>
        comp_same h.2.1 hS hx (comp_cls hS x x (comp_self g _ (bit_in hS hx)) y hg hy)
      refine ⟨fun x => if x = v then true else (c x) ^^ (c (low (g v &&& comp g (sd W (2 ^ v)) x))), fun i j hi hj hg => ?_⟩
      have hi14 := bit_in hW hi
      have hj14 := bit_in hW hj
      by_cases q1 : i = v
      · by_cases q2 : j = v
        · rw [q1, q2] at hg
          exact absurd rfl (FG_ne h hv14 hg)
        · simp only [if_pos q1, if_neg q2]
          rw [q1] at hg
          rw [hnb j (sd_sub.mpr ⟨hj, q2⟩) hg]
          simp
      · by_cases q2 : j = v
        · simp only [if_neg q1, if_pos q2]
          rw [q2] at hg
          have hg2 : (g v).testBit i = true := by rw [h.2.1 v hv14 i hi14]; exact hg
          rw [hnb i (sd_sub.mpr ⟨hi, q1⟩) hg2]
          simp
        · simp only [if_neg q1, if_neg q2]
          have k1 := sd_sub.mpr ⟨hi, q1⟩
          have k2 := sd_sub.mpr ⟨hj, q2⟩
          rw [hvv k1 k2 hg]
          have := hc i j k1 k2 hg
          intro z
          apply this
          revert z
          cases c i <;> cases c j <;> cases c (low (g v &&& comp g (sd W (2 ^ v)) i)) <;> simp
/-- a set of nodes apart that leaves no other one -/
def domG (g : Nat → Nat) (W I : Nat) : Prop := (∀ i, I.testBit i = true → W.testBit i = true) ∧ (∀ i j, I.testBit i = true → I.testBit j = true → (g i).testBit j = false) ∧ ∀ w, W.testBit w = true → I.testBit w = true ∨ ∃ i, I.testBit i = true ∧ (g i).testBit w = true
theorem Sh_dom (n : Nat) : ∀ W I, W < 16384 → pc I ≤ n → domG g W I → Sh g W ≤ n := by
  induction n with
  | zero =>
    intro W I hW hp hd
    have hI : I < 16384 := lt_of_bits (k := 14) (fun i hi => by
      cases e : I.testBit i
      · rfl
      · exact absurd (bit_in hW (hd.1 i e)) (by omega))
    have h0 : I = 0 := by
      by_cases e : I = 0
      · exact e
      · have := pc_pos hI e; omega
    subst h0
    have : W = 0 := by
      by_cases e : W = 0
      · exact e
      · obtain ⟨w, -, hw⟩ := bit_ex hW e
        rcases hd.2.2 w hw with z | ⟨i, z, -⟩
        · rw [Nat.zero_testBit] at z; cases z
        · rw [Nat.zero_testBit] at z; cases z
    subst this
    rw [Sh_0]; exact Nat.le_refl _
  | succ n ih =>
    intro W I hW hp hd
    have hI : I < 16384 := lt_of_bits (k := 14) (fun i hi => by
      cases e : I.testBit i
      · rfl
      · exact absurd (bit_in hW (hd.1 i e)) (by omega))
    by_cases e : I = 0
    · exact Nat.le_succ_of_le (ih W I hW (by rw [e]; exact Nat.le_trans (Nat.le_of_eq (pcn_zero 14)) (Nat.zero_le _)) hd)
    · obtain ⟨v, hv14, hv⟩ := bit_ex hI e
      have p := pc_rm hI hv
      have hvW := hd.1 v hv
      have := ih (lft g W v) (sd I (2 ^ v)) (lft_lt v hW) (by omega) ⟨fun i hi => by
        have hi2 := sd_sub.mp hi
        rw [lft_bit, hd.1 i hi2.1, hd.2.1 v i hv hi2.1, decide_eq_false (fun q => hi2.2 q.symm)]; rfl, fun i j hi hj => hd.2.1 i j (sd_sub.mp hi).1 (sd_sub.mp hj).1, fun w hw => by
        rw [lft_bit] at hw
        simp only [Bool.and_eq_true, Bool.not_eq_true', decide_eq_false_iff_not] at hw
        obtain ⟨⟨w1, w2⟩, w3⟩ := hw
        rcases hd.2.2 w w1 with z | ⟨i, z1, z2⟩
        · exact Or.inl (sd_sub.mpr ⟨z, fun q => w2 q.symm⟩)
        · refine Or.inr ⟨i, sd_sub.mpr ⟨z1, fun q => ?_⟩, z2⟩
          rw [q, w3] at z2; cases z2⟩
      have := Sh_b (g := g) hW hvW
      omega
theorem Sh_7 (h : FG g) {T : Nat} (hT : oneG g T) : Sh g T ≤ 7 := by
  by_cases h2 : pc T ≤ 1
  · have := Sh_le g hT.1
    omega
  · obtain ⟨c, hc⟩ := two_col h 14 T hT.1 (pc_le _)
    have hnb : ∀ w, T.testBit w = true → ∃ x, T.testBit x = true ∧ (g w).testBit x = true := fun w hw => by
      have p := pc_rm hT.1 hw
      have hz : sd T (2 ^ w) ≠ 0 := fun q => by
        rw [q, show pc 0 = 0 from pcn_zero 14] at p; omega
      obtain ⟨y, hy14, hy⟩ := bit_ex (sd_14 _ hT.1) hz
      have hy2 := sd_sub.mp hy
      have hyc : (comp g T w).testBit y = true := by rw [hT.2.2 w hw]; exact hy2.1
      rw [comp_split hT.1 hw, Nat.testBit_or, Bool.or_eq_true, pow_bit, decide_eq_true_eq, un_bit] at hyc
      rcases hyc with z | ⟨b, -, hb, -⟩
      · exact absurd z.symm hy2.2
      · have := chd_bit.mp hb
        exact ⟨b, this.2.1, this.1⟩
    have key : ∀ k : Bool, domG g T (mk (fun x => T.testBit x && (c x == k)) 14) := fun k => by
      have hb : ∀ i, (mk (fun x => T.testBit x && (c x == k)) 14).testBit i = true ↔ T.testBit i = true ∧ c i = k := fun i => by
        rw [mk_bit]
        simp only [Bool.and_eq_true, decide_eq_true_eq, beq_iff_eq]
        exact ⟨fun z => z.2, fun z => ⟨bit_in hT.1 z.1, z⟩⟩
      refine ⟨fun i hi => ((hb i).mp hi).1, fun i j hi hj => ?_, fun w hw => ?_⟩
      · cases z : (g i).testBit j
        · rfl
        · have z1 := (hb i).mp hi
          have z2 := (hb j).mp hj
          exact absurd (z1.2.trans z2.2.symm) (hc i j z1.1 z2.1 z)
      · by_cases q : c w = k
        · exact Or.inl ((hb w).mpr ⟨hw, q⟩)
        · obtain ⟨x, x1, x2⟩ := hnb w hw
          have := hc w x hw x1 x2
          refine Or.inr ⟨x, (hb x).mpr ⟨x1, ?_⟩, by rw [h.2.1 x (bit_in hT.1 x1) w (bit_in hT.1 hw)]; exact x2⟩
          revert q this
          cases c w <;> cases c x <;> cases k <;> simp
    have hsum : pc (mk (fun x => T.testBit x && (c x == true)) 14) + pc (mk (fun x => T.testBit x && (c x == false)) 14) ≤ 14 := by
      rw [← pc_or (fun i hi => by
        rw [mk_bit] at hi
        simp only [Bool.and_eq_true, decide_eq_true_eq, beq_iff_eq] at hi
        rw [mk_bit, hi.2.2]
        simp)]
      exact pc_le _
    by_cases q : pc (mk (fun x => T.testBit x && (c x == true)) 14) ≤ 7
    · exact Sh_dom 7 T _ hT.1 q (key true)
    · exact Sh_dom 7 T _ hT.1 (by omega) (key false)
theorem Sh_tr (h : FG g) {W : Nat} (hW : W < 16384) : Sh g W ≤ 7 * trC g W := by
  rw [← smT_all (F := Sh g) h.2.1 hW (Sh_0 g) (fun A B hA hB hap => (sg g _ A B rfl hA hB hap).2.1)]
  have : ∀ k, k ≤ trC g W → smT (Sh g) g W k ≤ 7 * k := fun k => by
    induction k with
    | zero => intro _; exact Nat.le_refl _
    | succ k ih =>
      intro hk
      have := ih (by omega)
      have := Sh_7 h (trA_one h.2.1 hW (show k < trC g W by omega))
      rw [smT]; omega
  exact this _ (Nat.le_refl _)
theorem Lo_pos {T : Nat} (hT : T < 16384) (h0 : T ≠ 0) : 1 ≤ Lo g T := by
  obtain ⟨k, -, hk⟩ := Lo_ex (g := g) hT h0
  omega
theorem Sh_pos {T : Nat} (hT : T < 16384) (h0 : T ≠ 0) : 1 ≤ Sh g T := by
  obtain ⟨k, -, hk⟩ := Sh_ex (g := g) hT h0
  omega
theorem Lo_tr (h : FG g) {W : Nat} (hW : W < 16384) : trC g W ≤ Lo g W := by
  rw [← smT_all (F := Lo g) h.2.1 hW (Lo_0 g) (fun A B hA hB hap => (sg g _ A B rfl hA hB hap).2.2)]
  have : ∀ k, k ≤ trC g W → k ≤ smT (Lo g) g W k := fun k => by
    induction k with
    | zero => intro _; exact Nat.le_refl _
    | succ k ih =>
      intro hk
      have := ih (by omega)
      have q := trA_one h.2.1 hW (show k < trC g W by omega)
      have := Lo_pos (g := g) q.1 q.2.1
      rw [smT]; omega
  exact this _ (Nat.le_refl _)
theorem Sh_Lo (n : Nat) : ∀ W, W < 16384 → pc W ≤ n → Sh g W ≤ Lo g W := by
  induction n with
  | zero =>
    intro W hW hp
    have : W = 0 := by
      by_cases e : W = 0
      · exact e
      · have := pc_pos hW e; omega
    subst this
    rw [Sh_0]; exact Nat.zero_le _
  | succ n ih =>
    intro W hW hp
    by_cases e : W = 0
    · subst e; rw [Sh_0]; exact Nat.zero_le _
    · obtain ⟨k, hk, e1⟩ := Lo_ex (g := g) hW e
      have := Sh_b (g := g) hW hk
      have := ih (lft g W k) (lft_lt k hW) (by have := lft_pc (g := g) hW hk; omega)
      omega
/-! ways -/
theorem lwX_up {W r : Nat} {x : Nat} : ∀ t, (lwX g W r t).testBit x = true → (lwX g W r (t + 1)).testBit x = true
  | t, hx => by rw [lwX, Nat.testBit_or, hx]; rfl
theorem lwX_st {W r t : Nat} (h : lwX g W r (t + 1) = lwX g W r t) : lwX g W r (t + 2) = lwX g W r (t + 1) := by
  rw [lwX, h, ← lwX, h]
theorem lwX_pc {W r : Nat} (hW : W < 16384) (hr : W.testBit r = true) : ∀ t, lwX g W r (t + 1) ≠ lwX g W r t → t + 2 ≤ pc (lwX g W r (t + 1))
  | t, h => by
    have h1 : t + 1 ≤ pc (lwX g W r t) := by
      cases t with
      | zero =>
        have := pc_pos (lwX_14 (g := g) hW hr 0) (ne0 (k := r) (by rw [lwX, pow_bit, decide_eq_true rfl]))
        omega
      | succ t =>
        have := lwX_pc hW hr t (fun q => h (lwX_st q))
        omega
    have h2 : ∃ j, (lwX g W r (t + 1)).testBit j = true ∧ (lwX g W r t).testBit j = false := by
      refine Classical.byContradiction (fun z => h ?_)
      apply Nat.eq_of_testBit_eq
      intro i
      refine bool_iff ⟨fun y => ?_, fun y => lwX_up t y⟩
      cases e : (lwX g W r t).testBit i
      · exact absurd ⟨i, y, e⟩ z
      · rfl
    obtain ⟨j, j1, j2⟩ := h2
    have := pc_lt (fun i hi => lwX_up t hi) j1 j2 (bit_in (lwX_14 hW hr (t + 1)) j1)
    omega
theorem lwW_pc {W r : Nat} (hW : W < 16384) (hr : W.testBit r = true) : ∀ t, lwW g W r t < pc W
  | 0 => by rw [lwW]; exact pc_pos hW (ne0 hr)
  | t + 1 => by
    rw [lwW]
    split
    · rename_i h
      have h1 := lwX_pc hW hr t h
      have h2 := pc_mono (fun i hi => lwX_in (g := g) hr (t + 1) i hi)
      omega
    · exact lwW_pc hW hr t
theorem lwA_pc {W : Nat} (hW : W < 16384) (h0 : W ≠ 0) : lwA g W 14 < pc W := by
  rcases lwA_ex (g := g) (W := W) 14 with z | ⟨k, -, h2, h3⟩
  · rw [z]; exact pc_pos hW h0
  · rw [h3]; exact lwW_pc hW h2 13
end COL
