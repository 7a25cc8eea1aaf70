theorem pcn_up (S : Nat) : ∀ d n, pcn S n ≤ pcn S (n + d)
  | 0, n => Nat.le_refl _
  | d + 1, n => by
    rw [show n + (d + 1) = (n + d) + 1 by omega, pcn]
    have := pcn_up S d n
    omega
theorem wd_pcn {q : Nat → Bool} {W n : Nat} (h : ∀ k, q k = true → W.testBit k = true) : ∀ d, d ≤ n → wd q n d + pcn W (n - d) ≤ pcn W n
  | 0, _ => by rw [wd]; simp
  | d + 1, hd => by
    have ih := wd_pcn (n := n) h d (by omega)
    rw [show n - d = (n - 1 - d) + 1 by omega, pcn] at ih
    rw [wd, show n - (d + 1) = n - 1 - d by omega]
    by_cases e : q (n - 1 - d) = true
    · rw [if_pos e]
      rw [h _ e] at ih
      simp at ih
      omega
    · rw [if_neg e]; omega
theorem wd_pc {g : Nat → Nat} {W n : Nat} (hn : n ≤ 14) : wd (wnP g W) n n ≤ pc W := by
  have h1 := wd_pcn (q := wnP g W) (W := W) (n := n) (fun k hk => by
    rw [wnP, Bool.and_eq_true] at hk
    exact hk.1) n (Nat.le_refl _)
  have h2 := pcn_up W (14 - n) n
  rw [show n + (14 - n) = 14 by omega] at h2
  rw [pc]
  omega
/-! the hash -/
def hF (f : Nat → Int32) (h : Int64) : Nat → Int64
  | 0 => h
  | k + 1 => 31 * hF f h k + (f k).toInt64
theorem mxC_g {g g2 : Nat → Nat} (h : eqG g g2) {A : Nat} (hA : A < 16384) (k : Nat) : mxC g A k = mxC g2 A k := mxC_same hA (fun x y hx _ => by rw [h x (bit_in hA hx)]) k
