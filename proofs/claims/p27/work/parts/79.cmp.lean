theorem eIn_g {g r : Nat → Nat} (h : eqG g r) (W : Nat) : ∀ k, k ≤ 14 → eIn g W k = eIn r W k
  | 0, _ => rfl
  | k + 1, hk => by rw [eIn, eIn, eIn_g h W k (by omega), h k (by omega)]
theorem eIn_up {g : Nat → Nat} {W n : Nat} (h1 : W < 2 ^ n) : ∀ d, eIn g W (n + d) = eIn g W n
  | 0 => rfl
  | d + 1 => by
    show eIn g W (n + d + 1) = _
    rw [eIn, if_neg (by rw [bit_of_lt h1 (Nat.le_add_right n d)]; decide), eIn_up h1 d]
theorem eIn_c {g r : Nat → Nat} (h : eqG g r) {W n : Nat} (h1 : W < 2 ^ n) (hn : n ≤ 14) : eIn g W 14 = eIn r W n := by
  have := eIn_up (g := g) h1 (14 - n)
  rw [show n + (14 - n) = 14 by omega] at this
  rw [this, eIn_g h W n hn]
theorem nbrs_g {g r : Nat → Nat} (h : eqG g r) (B : Nat) : ∀ k, k ≤ 14 → nbrs g B k = nbrs r B k
  | 0, _ => rfl
  | k + 1, hk => by rw [nbrs, nbrs, nbrs_g h B k (by omega), h k (by omega)]
theorem lwX_g {g r : Nat → Nat} (h : eqG g r) (W a : Nat) : ∀ t, lwX g W a t = lwX r W a t
  | 0 => rfl
  | t + 1 => by rw [lwX, lwX, lwX_g h W a t, nbrs_g h _ 14 (Nat.le_refl _)]
theorem lwW_g {g r : Nat → Nat} (h : eqG g r) (W a : Nat) : ∀ t, lwW g W a t = lwW r W a t
  | 0 => rfl
  | t + 1 => by rw [lwW, lwW, lwX_g h W a, lwX_g h W a, lwW_g h W a t]
theorem lwA_g {g r : Nat → Nat} (h : eqG g r) (W : Nat) : ∀ k, lwA g W k = lwA r W k
  | 0 => rfl
  | k + 1 => by rw [lwA, lwA, lwA_g h W k, lwW_g h]
theorem lwA_up {g : Nat → Nat} {W n : Nat} (h1 : W < 2 ^ n) : ∀ d, lwA g W (n + d) = lwA g W n
  | 0 => rfl
  | d + 1 => by
    show lwA g W (n + d + 1) = _
    rw [lwA, if_neg (by rw [bit_of_lt h1 (Nat.le_add_right n d)]; decide), lwA_up h1 d]
theorem lwA_c {g r : Nat → Nat} (h : eqG g r) {W n : Nat} (h1 : W < 2 ^ n) (hn : n ≤ 14) : lwA g W 14 = lwA r W n := by
  have := lwA_up (g := g) h1 (14 - n)
  rw [show n + (14 - n) = 14 by omega] at this
  rw [this, lwA_g h]
theorem mxC_c {g r : Nat → Nat} (h : eqG g r) {S n : Nat} (h1 : S < 2 ^ n) (hn : n ≤ 14) : mxC g S 14 = mxC r S n := by
  rw [mxC_14 h1 hn, mxC_g h (w14 h1 hn)]
theorem alk_c {g r : Nat → Nat} (h : eqG g r) {W n : Nat} (h1 : W < 2 ^ n) (hn : n ≤ 14) (t : Nat) : alk g (trA g W) 14 t = alk r (trA r W) n t := by
  have hW := w14 h1 hn
  have e : ∀ i, mxC g (trA g W i) 14 = mxC r (trA r W i) n := fun i => by
    rw [trA_g h hW i]
    exact mxC_c h (trA_n (g := r) h1 hW i) hn
  rw [alk, alk]
  exact fst_g (fun i _ => by rw [e i, e t])
theorem clN_c {g r : Nat → Nat} (h : eqG g r) {W n : Nat} (h1 : W < 2 ^ n) (hn : n ≤ 14) : ∀ k, clN g (trA g W) 14 k = clN r (trA r W) n k
  | 0 => rfl
  | k + 1 => by rw [clN, clN, clN_c h h1 hn k, alk_c h h1 hn k]
theorem mxS_c {g r : Nat → Nat} (h : eqG g r) {W : Nat} (hW : W < 16384) : ∀ k, mxS g W k = mxS r W k
  | 0 => rfl
  | k + 1 => by rw [mxS, mxS, mxS_c h hW k, trA_g h hW k, V_g h]
theorem cnt_c {q q2 : Nat → Bool} : ∀ n, (∀ i, i < n → q i = q2 i) → cnt q n = cnt q2 n
  | 0, _ => rfl
  | n + 1, h => by rw [cnt, cnt, cnt_c n (fun i hi => h i (by omega)), h n (Nat.lt_succ_self n)]
