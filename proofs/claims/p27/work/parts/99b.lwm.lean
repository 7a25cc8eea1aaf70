/-! the law: what its steps compare -/
noncomputable def dueJ (g : Nat → Nat) (th n i j : Nat) : Int32 := if i < n ∧ j < n then (if cjB g th n i j = true then nI (V (lk2 g i j true) th) else -1) else -2000001
noncomputable def dueK (kd zz : Nat) (g : Nat → Nat) (th n : Nat) : Int32 := if kd = 4 ∨ kd = 5 then dueJ g th n (zz % 10) (zz / 16 % 10) else -1
noncomputable def dueM (kd : Nat) (g : Nat → Nat) (th n : Nat) : Int32 := if kd = 6 ∧ 0 < n then mrC g th n (nI 0) else -1
theorem dueK_a {kd zz th n : Nat} {g : Nat → Nat} (hk : kd = 4 ∨ kd = 5) (h1 : zz % 10 < n) (h2 : zz / 16 % 10 < n) (h3 : cjB g th n (zz % 10) (zz / 16 % 10) = true) : nI (V (lk2 g (zz % 10) (zz / 16 % 10) true) th) = dueK kd zz g th n := by
  rw [dueK, if_pos hk, dueJ, if_pos ⟨h1, h2⟩, if_pos h3]
theorem dueK_n {kd zz th n : Nat} {g : Nat → Nat} (hk : kd = 4 ∨ kd = 5) (h1 : zz % 10 < n) (h2 : zz / 16 % 10 < n) (h3 : cjB g th n (zz % 10) (zz / 16 % 10) = false) : -1 = dueK kd zz g th n := by
  rw [dueK, if_pos hk, dueJ, if_pos ⟨h1, h2⟩, if_neg (by rw [h3]; decide)]
theorem dueK_y {kd zz th n : Nat} {g : Nat → Nat} (hk : kd = 4 ∨ kd = 5) (h1 : zz % 10 < n) (h2 : n ≤ zz / 16 % 10) : -2000001 = dueK kd zz g th n := by
  rw [dueK, if_pos hk, dueJ, if_neg (fun q => absurd q.2 (by omega))]
theorem dueK_x {kd zz th n : Nat} {g : Nat → Nat} (hk : kd = 4 ∨ kd = 5) (h1 : n ≤ zz % 10) : -2000001 = dueK kd zz g th n := by
  rw [dueK, if_pos hk, dueJ, if_neg (fun q => absurd q.1 (by omega))]
theorem dueK_o {kd zz th n : Nat} {g : Nat → Nat} (hk : ¬ (kd = 4 ∨ kd = 5)) : -1 = dueK kd zz g th n := by
  rw [dueK, if_neg hk]
theorem dueK_no {kd zz th n : Nat} {g : Nat → Nat} (hk : kd = 4 ∨ kd = 5) (h : ¬ (zz % 10 < n ∧ zz / 16 % 10 < n ∧ cjB g th n (zz % 10) (zz / 16 % 10) = true)) : dueK kd zz g th n = -1 ∨ dueK kd zz g th n = -2000001 := by
  rw [dueK, if_pos hk, dueJ]
  by_cases e : zz % 10 < n ∧ zz / 16 % 10 < n
  · rw [if_pos e, if_neg (fun q => h ⟨e.1, e.2, q⟩)]; exact Or.inl rfl
  · rw [if_neg e]; exact Or.inr rfl
theorem dueM_a {kd th n : Nat} {g : Nat → Nat} (hk : kd = 6) (h1 : 0 < n) : mrC g th n (nI 0) = dueM kd g th n := by
  rw [dueM, if_pos ⟨hk, h1⟩]
theorem dueM_o {kd th n : Nat} {g : Nat → Nat} (hk : ¬ (kd = 6 ∧ 0 < n)) : -1 = dueM kd g th n := by
  rw [dueM, if_neg hk]
theorem sv_lo {k : Nat} (h : k ≤ 6) (h2 : k ≠ 6) : svS k + 1 = k + 1 := by
  rw [svS, if_neg (by omega)]
theorem sv_hi {k : Nat} (h : k = 6) : svS k + 1 = k := by
  rw [h]; rfl
theorem pc_new {n th : Nat} (hn : n < 14) (h : th < 2 ^ n) : pc (th ||| 2 ^ n) = pc th + 1 := by
  rw [pc_or (fun i hi => by
    rw [pow_bit, decide_eq_false]
    rintro rfl
    rw [bit_of_lt h (Nat.le_refl _)] at hi; cases hi), pc_two hn]
theorem bit_new (n th : Nat) : (th ||| 2 ^ n).testBit n = true := by
  rw [Nat.testBit_or, pow_bit, decide_eq_true rfl, Bool.or_true]
theorem mrB_sym {g : Nat → Nat} {W n i j : Nat} (h : mrB g W n i j = true) : mrB g W n j i = true := by
  rw [mrB, Bool.and_eq_true, decide_eq_true_eq, decide_eq_true_eq] at h ⊢
  exact ⟨h.1.symm, h.2.symm⟩
theorem cnI_ge {q : Nat → Nat → Bool} {i j : Nat} (hij : i < j) (h : q i j = true) : ∀ m, j < m → 0 < cnI q i m
  | 0, hm => absurd hm (Nat.not_lt_zero _)
  | m + 1, hm => by
    rw [cnI]
    by_cases e : j = m
    · subst e; rw [decide_eq_true hij, h]; simp
    · have := cnI_ge hij h m (by omega); omega
theorem cnM_ge {q : Nat → Nat → Bool} {n i j : Nat} (hij : i < j) (hj : j < n) (h : q i j = true) : ∀ k, i < k → 0 < cnM q n k
  | 0, hm => absurd hm (Nat.not_lt_zero _)
  | k + 1, hm => by
    rw [cnM_s]
    by_cases e : i = k
    · subst e; have := cnI_ge hij h n hj; omega
    · have := cnM_ge (n := n) hij hj h k (by omega); omega
theorem mir_first {g : Nat → Nat} {n th i j : Nat} (hc : okC n th g) (hi : i < n) (hj : j < n) (he : edB g th i j = true) (hm : mrB g th 14 i j = true) : ∃ a, a < 2000 ∧ mrC g th n (nI 0) = nI a := by
  have hn := hc.2.1
  have he2 := he
  rw [edB, Bool.and_eq_true, Bool.and_eq_true] at he2
  have hne := FG_ne hc.1 (show i < 14 by omega) he2.2
  have hx : 0 < cnM (miB g th 14) 14 14 := by
    rcases Nat.lt_or_gt_of_ne hne with z | z
    · exact cnM_ge z (show j < 14 by omega) (by rw [miB, he, hm]; rfl) 14 (by omega)
    · have e3 : edB g th j i = true := by
        rw [edB, he2.1.1, he2.1.2, hc.1.2.1 j (by omega) i (by omega), he2.2]; rfl
      exact cnM_ge z (show i < 14 by omega) (by rw [miB, e3, mrB_sym hm]; rfl) 14 (by omega)
  exact mir_hi hc.2.2.1 hn (by omega) hx
theorem par_s (m : Nat) : (m + 1) &&& 1 = 1 - (m &&& 1) := by
  rw [Nat.and_one_is_mod, Nat.and_one_is_mod]; omega
theorem par_le (m : Nat) : m &&& 1 ≤ 1 := by
  rw [Nat.and_one_is_mod]; omega
theorem rp_in {g : Nat → Nat} {n th : Nat} (hc : okC n th g) (h0 : th ≠ 0) : rpN g th n < n ∧ th.testBit (rpN g th n) = true := by
  have h := rpN_in (g := g) hc.2.1 (okC_w hc) h0
  refine ⟨?_, h.2⟩
  rcases Nat.lt_or_ge (rpN g th n) n with z | z
  · exact z
  · have := bit_of_lt hc.2.2.1 z
    rw [h.2] at this; cases this
theorem rp_fst {g : Nat → Nat} {n th : Nat} (hn : n ≤ 14) (h : 0 ≤ bst (wnP g th) n) : nI (rpN g th n) = bst (wnP g th) n ∧ V g (lft g th (rpN g th n)) = 0 := by
  have h2 := bst_ge hn h
  have s := (fst_spec h2).1
  rw [wnP, Bool.and_eq_true, decide_eq_true_eq] at s
  rw [rpN, bst, if_pos h2, if_pos h2]
  exact ⟨rfl, s.2⟩
theorem rp_win {g : Nat → Nat} {n th : Nat} (hc : okC n th g) (h : V g th ≠ 0) : V g (lft g th (rpN g th n)) = 0 := by
  obtain ⟨k, hk, e⟩ := V_ex (g := g) (S := th) (u := 0) (okC_w hc) (by omega)
  have hkn : k < n := by
    rcases Nat.lt_or_ge k n with z | z
    · exact z
    · have := bit_of_lt hc.2.2.1 z
      rw [hk] at this; cases this
  have hw : wnP g th k = true := by rw [wnP, hk, e]; rfl
  refine (rp_fst hc.2.1 ?_).2
  have : fst (wnP g th) n < n := by
    rcases Nat.lt_or_ge (fst (wnP g th) n) n with z | z
    · exact z
    · have := fst_none (q := wnP g th) (n := n) (by omega) hkn
      rw [hw] at this; cases this
  rw [bst, if_pos this]
  exact nI_pos' (by have := hc.2.1; omega)
theorem V_n0 {g : Nat → Nat} {th : Nat} (h : V g th ≠ 0) : th ≠ 0 := fun q => h (by rw [q]; exact V_0 g)
theorem pc_full {n : Nat} (h : n ≤ 14) : pc (2 ^ n - 1) = n := by
  have : ∀ n, n < 15 → pc (2 ^ n - 1) = n := by decide
  exact this n (by omega)
theorem pc_z {th : Nat} (h : th < 16384) (h0 : pc th = 0) : th = 0 := by
  by_cases e : th = 0
  · exact e
  · have := pc_pos h e; omega
theorem val_neg {th : Nat} (h : th < 16384) : (-1 : Int32) &&& (nI th ^^^ (-1)) ≠ 0 := by
  intro q
  rw [Int32.neg_one_and] at q
  have q2 := congrArg (fun x => x ^^^ (-1 : Int32)) q
  simp only [Int32.xor_assoc, Int32.xor_self, Int32.xor_zero, Int32.zero_xor] at q2
  exact nI_m1 (by omega) q2
theorem nI_big {a : Nat} (h : a < 2147483648) : ¬ nI a ≤ -2000000 := by
  intro q
  have := Int32.le_iff_toInt_le.mp q
  rw [nI_toInt (by omega), show (-2000000 : Int32).toInt = -2000000 by decide] at this
  omega
theorem bI_big (b : Bool) : ¬ bI b ≤ -2000000 := by
  cases b <;> decide
theorem ring_all {n v S : Nat} (hn : n ≤ 14) (hv : v < n) (hS : S < 2 ^ n) (h : ∀ t, t < 14 → S.testBit ((v + t) % n) = false) : S = 0 := by
  refine eq0_of_bits (w14 hS hn) (fun i hi => ?_)
  rcases Nat.lt_or_ge i n with z | z
  · by_cases e : v ≤ i
    · have := h (i - v) (by omega)
      rw [show v + (i - v) = i by omega, Nat.mod_eq_of_lt z] at this
      exact this
    · have := h (i + n - v) (by omega)
      rw [show v + (i + n - v) = i + n by omega, Nat.add_mod_right, Nat.mod_eq_of_lt z] at this
      exact this
  · exact bit_of_lt hS z
theorem ring_s (v q n : Nat) : ((v + q) % n + 1) % n = (v + (q + 1)) % n := by
  rw [Nat.mod_add_mod, Nat.add_assoc]
theorem lw_rm {a k mc ms : Nat} (h : a ≤ 60) (hk : k ≤ 40) : (rmX a mc ms).frames + 1 ≤ room_1.frames ∧ 8 + (k + 11) + (rmX a mc ms).locals ≤ room_1.locals := by
  show a + 1 ≤ 2048 ∧ 8 + (k + 11) + 64 * a ≤ 84000
  omega
theorem lw_cs {a b : Nat} (h1 : a ≤ 600172) (h2 : b ≤ 7300668) : a ≤ room_1.cells ∧ b ≤ room_1.slots := ⟨h1, h2⟩
/-- the law's own context -/
def kLZ (p : Program) (l : Launch) (s : State) (m : MethodId) (args : Array Value) (meth : Method) (c : Code) (Γ : kG) (zb zl : Nat) (xs : Nat → Int32) (A : Nat → Prop) : Prop :=
  p.tables.exec = Jvm.exec ∧ c.code = cL_law ∧ c.maxLocals = 17 ∧ s.vm.findClass RL = some m.cls ∧ (∀ w ∈ wsAll, w.before args s = true) ∧ TK Γ s ∧ XS A s s.heap ∧ XN s ∧ va_X zb zl xs s s.heap ∧ zb < s.heap.size ∧ ¬ A zb ∧ zl < 2147483648
