/-! shares -/
def shD (a b : Nat) : UInt64 := if b = 0 then FP.dconst0 else FP.ddiv (FP.i2d (nI a)) (FP.i2d (nI b))
theorem sh_fin : ∀ b, b < 15 → ∀ a, a ≤ b → (shD a b &&& 0x7fffffffffffffff ≤ 0x7ff0000000000000) ∧ Op.cmpValue (FP.dcmp (shD a b) (shD a b)) .l = 0 := by decide +kernel
theorem sh_nan {a b : Nat} (hb : b < 15) (hab : a ≤ b) (h0 : b ≠ 0) : vf_n64 (FP.ddiv (FP.i2d (nI a)) (FP.i2d (nI b))) := by
  have h := (sh_fin b hb a hab).1
  rw [shD, if_neg h0] at h
  exact h
theorem pcn_up (S : Nat) : ∀ d n, pcn S n ≤ pcn S (n + d)
  | 0, n => Nat.le_refl _
  | d + 1, n => by
    rw [show n + (d + 1) = (n + d) + 1 by omega, pcn]
    have := pcn_up S d n
    omega
theorem wd_pcn {q : Nat → Bool} {W n : Nat} (h : ∀ k, q k = true → W.testBit k = true) : ∀ d, d ≤ n → wd q n d + pcn W (n - d) ≤ pcn W n
  | 0, _ => by rw [wd]; simp
  | d + 1, hd => by
    have ih := wd_pcn (n := n) h d (by omega)
    rw [show n - d = (n - 1 - d) + 1 by omega, pcn] at ih
    rw [wd, show n - (d + 1) = n - 1 - d by omega]
    by_cases e : q (n - 1 - d) = true
    · rw [if_pos e]
      rw [h _ e] at ih
      simp at ih
      omega
    · rw [if_neg e]; omega
theorem wd_pc {g : Nat → Nat} {W n : Nat} (hn : n ≤ 14) : wd (wnP g W) n n ≤ pc W := by
  have h1 := wd_pcn (q := wnP g W) (W := W) (n := n) (fun k hk => by
    rw [wnP, Bool.and_eq_true] at hk
    exact hk.1) n (Nat.le_refl _)
  have h2 := pcn_up W (14 - n) n
  rw [show n + (14 - n) = 14 by omega] at h2
  rw [pc]
  omega
def shX (g : Nat → Nat) (W n : Nat) : UInt64 := shD (wd (wnP g W) n n) (pc W)
/-! the hash -/
def hF (f : Nat → Int32) (h : Int64) : Nat → Int64
  | 0 => h
  | k + 1 => 31 * hF f h k + (f k).toInt64
noncomputable def jnR (ss : Nat → Nat) (i j : Nat) : Int32 := if cjB (gS ss) (ss 1) (ss 0) i j then nI (V (gS (lkS ss i j true)) (ss 1)) else -1
noncomputable def dg1 (ss : Nat → Nat) (sn : Nat) : Int64 := hF (cnR ss sn) 3221 12
noncomputable def dg2 (ss : Nat → Nat) (h : Int64) : Nat → Int64 := hF (fun k => ndR (gS ss) (ss 1) (k / 6) (k % 6)) h
noncomputable def dg3 (ss : Nat → Nat) (h : Int64) : Nat → Int64 := hF (fun k => tvR (gS ss) (ss 1) (ss 0) (trA (gS ss) (ss 1)) (k / 6) (k % 6)) h
noncomputable def dg4 (ss : Nat → Nat) (h : Int64) : Int64 := 31 * (31 * (31 * h + (bst (wnP (gS ss) (ss 1)) (ss 0)).toInt64) + (nI (laS true (gS ss) (ss 1))).toInt64) + (nI (laS false (gS ss) (ss 1))).toInt64
noncomputable def dg5 (ss : Nat → Nat) (h : Int64) : Nat → Int64 := hF (fun k => mrR (miQ (gS ss) (ss 1) (ss 0) (ss 1)) (ss 0) (nI k)) h
noncomputable def dg6 (ss : Nat → Nat) (h : Int64) : Int64 := if 0 < ss 0 then 31 * h + (jnR ss 0 (ss 0 - 1)).toInt64 else h
def dg7 (ss kp : Nat → Nat) (ty : Nat) (h : Int64) : Int64 := 31 * (31 * (31 * (31 * h + (shX (gS ss) (ss 1) (ss 0)).toInt64) + (nI (kp 0)).toInt64) + (nI (kp 1)).toInt64) + (nI ty).toInt64
def dg8 (tx : Nat → Nat) (h : Int64) : Nat → Int64 := hF (fun k => nI (tx k)) h
noncomputable def dgA (ss kp tx : Nat → Nat) (sn ty : Nat) : Int64 := dg8 tx (dg7 ss kp ty (dg6 ss (dg5 ss (dg4 ss (dg3 ss (dg2 ss (dg1 ss sn) (6 * ss 0)) (6 * trC (gS ss) (ss 1)))) 4))) ty
theorem tvR_tr {g tr tr2 : Nat → Nat} {W n t : Nat} (h : ∀ i, i ≤ t → tr i = tr2 i) (w : Nat) : tvR g W n tr t w = tvR g W n tr2 t w := by
  rw [tvR, tvR, h t (Nat.le_refl _), alk_tr (g := g) (n := n) h]
theorem mxC_g {g g2 : Nat → Nat} (h : eqG g g2) {A : Nat} (hA : A < 16384) (k : Nat) : mxC g A k = mxC g2 A k := mxC_same hA (fun x y hx _ => by rw [h x (bit_in hA hx)]) k
theorem mrB_g {g g2 : Nat → Nat} (h : eqG g g2) {W n i j : Nat} (hW : W < 16384) (hi : i < 14) (hj : j < 14) : mrB g W n i j = mrB g2 W n i j := by
  rw [mrB, mrB, comp_g h (sd_14 _ hW) hi, comp_g h (sd_14 _ hW) hj, mxC_g h (comp_lt _ _ _), mxC_g h (comp_lt _ _ _)]
