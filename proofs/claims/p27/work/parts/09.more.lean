/-! what the walks over a graph gather -/
def nbrs (g : Nat → Nat) (S : Nat) : Nat → Nat
  | 0 => 0
  | k + 1 => if S.testBit k then nbrs g S k ||| g k else nbrs g S k
theorem nbrs_lt {g : Nat → Nat} (hg : ∀ i, i < 14 → g i < 16384) {S : Nat} : ∀ k, k ≤ 14 → nbrs g S k < 16384
  | 0, _ => by rw [nbrs]; decide
  | k + 1, h => by
    rw [nbrs]
    split
    · exact or_14 (nbrs_lt hg k (by omega)) (hg k (by omega))
    · exact nbrs_lt hg k (by omega)
def eIn (g : Nat → Nat) (S : Nat) : Nat → Nat
  | 0 => 0
  | k + 1 => if S.testBit k then eIn g S k + pc (g k &&& S) else eIn g S k
theorem eIn_le (g : Nat → Nat) (S : Nat) : ∀ k, eIn g S k ≤ 14 * k
  | 0 => Nat.le_refl _
  | k + 1 => by
    rw [eIn]
    have h := eIn_le g S k
    have h2 := pc_le (g k &&& S)
    split <;> omega
/-- the widening sets, and the last step that widened -/
def lwX (g : Nat → Nat) (W r : Nat) : Nat → Nat
  | 0 => 2 ^ r
  | t + 1 => lwX g W r t ||| (nbrs g (lwX g W r t) 14 &&& W)
def lwW (g : Nat → Nat) (W r : Nat) : Nat → Nat
  | 0 => 0
  | t + 1 => if lwX g W r (t + 1) ≠ lwX g W r t then t + 1 else lwW g W r t
theorem lwX_lt {g : Nat → Nat} (hg : ∀ i, i < 14 → g i < 16384) {W r : Nat} (hr : r < 14) (hW : W < 16384) : ∀ t, lwX g W r t < 16384
  | 0 => pow_14 hr
  | t + 1 => or_14 (lwX_lt hg hr hW t) (and_lt2 _ hW)
theorem lwW_le (g : Nat → Nat) (W r : Nat) : ∀ t, lwW g W r t ≤ t
  | 0 => Nat.le_refl _
  | t + 1 => by
    rw [lwW]
    have := lwW_le g W r t
    split <;> omega
def lwA (g : Nat → Nat) (W : Nat) : Nat → Nat
  | 0 => 0
  | k + 1 => if W.testBit k then max (lwA g W k) (lwW g W k 13) else lwA g W k
theorem lwA_le (g : Nat → Nat) (W : Nat) : ∀ k, lwA g W k ≤ 13
  | 0 => Nat.zero_le _
  | k + 1 => by
    rw [lwA]
    have h := lwA_le g W k
    have h2 := lwW_le g W k 13
    split <;> omega
theorem if_t {α : Type} {b : Bool} {x y : α} (h : b = true) : (if b then x else y) = x := if_pos h
theorem if_f {α : Type} {b : Bool} {x y : α} (h : b = false) : (if b then x else y) = y := if_neg (by rw [h]; decide)
/-! how many bits, as the library counts them -/
def bc1 (x : Nat) : Nat := x - (x / 2 ^ 1 &&& 1431655765)
def bc2 (x : Nat) : Nat := (x &&& 858993459) + (x / 2 ^ 2 &&& 858993459)
def bc3 (x : Nat) : Nat := (x + x / 2 ^ 4) &&& 252645135
def bc4 (x : Nat) : Nat := x + x / 2 ^ 8
def bc5 (x : Nat) : Nat := x + x / 2 ^ 16
theorem bc_all : ∀ a, a < 128 → ∀ b, b < 128 → bc5 (bc4 (bc3 (bc2 (bc1 (128 * a + b))))) &&& 63 = pc (128 * a + b) := by decide +kernel
theorem bc_ok {S : Nat} (h : S < 16384) : bc5 (bc4 (bc3 (bc2 (bc1 S)))) &&& 63 = pc S := by
  have h2 := bc_all (S / 128) (by omega) (S % 128) (by omega)
  rw [Nat.div_add_mod] at h2
  exact h2
/-! contents of arrays, by what they hold below their length -/
theorem va_P_arr {D : va_G} {cl : List vw_C} {ws : va_W} {Hh : Heap} {k a n : Nat} {cA : ClassId} {f f' : Nat → Int32} (hP : va_P D cl ws Hh) (hk : ws[k]? = some (a, .inl (cA, n, .inl f))) (h : ∀ i, i < n → f i = f' i) : va_P D cl (ws.set k (a, .inl (cA, n, .inl f'))) Hh := by
  intro j q hq
  rw [List.getElem?_set] at hq
  by_cases e : k = j
  · rw [if_pos e] at hq
    by_cases hl : k < ws.length
    · rw [if_pos hl] at hq
      obtain rfl := Option.some.inj hq
      have h1 : Hh[a]? = some (vp_cell cA (n, .inl f)) := hP k _ hk
      show Hh[a]? = some (vp_cell cA (n, .inl f'))
      rw [h1]
      congr 1
      show arrV cA n (fun j => .int (f j)) = arrV cA n (fun j => .int (f' j))
      have e2 : (fun j : Fin n => Value.int (f j.val)) = (fun j : Fin n => Value.int (f' j.val)) := funext fun j => by rw [h j.1 j.2]
      simp only [arrV, e2]
    · rw [if_neg hl] at hq; cases hq
  · rw [if_neg e] at hq
    exact hP j q hq
def flN (f : Nat → Nat) (v k : Nat) : Nat → Nat := fun i => if i < k then v else f i
theorem flN_s (f : Nat → Nat) (v k : Nat) : upN (flN f v k) k v = flN f v (k + 1) := by
  funext i
  by_cases h : i = k
  · subst h; rw [upN_s]; simp [flN]
  · rw [upN_n _ _ h]
    by_cases h2 : i < k
    · rw [flN, flN, if_pos h2, if_pos (by omega)]
    · rw [flN, flN, if_neg h2, if_neg (by omega)]
theorem flN_0 (f : Nat → Nat) (v : Nat) : flN f v 0 = f := by
  funext i; simp [flN]
def gLike (g g2 : Nat → Nat) : Nat → Bool
  | 0 => true
  | k + 1 => gLike g g2 k && decide (g k = g2 k)
theorem gLike_iff {g g2 : Nat → Nat} : ∀ n, gLike g g2 n = true ↔ ∀ i, i < n → g i = g2 i
  | 0 => ⟨fun _ i hi => absurd hi (Nat.not_lt_zero _), fun _ => rfl⟩
  | n + 1 => by
    rw [gLike, Bool.and_eq_true, gLike_iff n, decide_eq_true_eq]
    exact ⟨fun h i hi => by
      by_cases e : i = n
      · subst e; exact h.2
      · exact h.1 i (by omega), fun h => ⟨fun i hi => h i (by omega), h n (by omega)⟩⟩
theorem gLike_no {g g2 : Nat → Nat} {n k : Nat} (hk : k < n) (h : g k ≠ g2 k) : gLike g g2 n = false := by
  cases e : gLike g g2 n
  · rfl
  · exact absurd ((gLike_iff n).mp e k hk) h
/-! leading zeros -/
theorem lz31 {x q : Nat} (h : x < 2 ^ (q + 1)) (hq : q < 31) : x < 2147483648 := Nat.lt_of_lt_of_le h (Nat.pow_le_pow_right (n := 2) (by omega) (show q + 1 ≤ 31 by omega))
theorem lz_ge {b M x q : Nat} (hM : 2 ^ b = M) (h : M ≤ x) (h2 : x < 2 ^ (q + 1)) : b ≤ q := by
  rw [← hM] at h
  have := pow_lt_iff.mp (Nat.lt_of_le_of_lt h h2)
  omega
theorem lz_lt {b M x q : Nat} (hM : 2 ^ b = M) (h : x < M) (h1 : 2 ^ q ≤ x) : q < b := by
  rw [← hM] at h
  exact pow_lt_iff.mp (Nat.lt_of_le_of_lt h1 h)
theorem lz_d1 {x q b : Nat} (h : 2 ^ (q + b) ≤ x) : 2 ^ q ≤ x / 2 ^ b := by
  rw [Nat.le_div_iff_mul_le (Nat.pow_pos (by omega)), ← Nat.pow_add]
  exact h
theorem lz_d2 {x q b : Nat} (h : x < 2 ^ (q + b + 1)) : x / 2 ^ b < 2 ^ (q + 1) := by
  rw [Nat.div_lt_iff_lt_mul (Nat.pow_pos (by omega)), ← Nat.pow_add]
  rw [show q + 1 + b = q + b + 1 by omega]
  exact h
theorem lz_last {x q : Nat} (h1 : 2 ^ q ≤ x) (h2 : x < 2 ^ (q + 1)) (hq : q ≤ 1) : ((nI x).toUInt32 >>> ((nI 1).toUInt32 &&& Int32.toUInt32 31)).toInt32 = nI q := by
  rcases (show q = 0 ∨ q = 1 by omega) with rfl | rfl
  · obtain rfl : x = 1 := by omega
    decide
  · rcases (show x = 2 ∨ x = 3 by omega) with rfl | rfl <;> decide
theorem idec_N {a n : Nat} {i : Int} (h : Int32.ofInt i = -nI n) (hn : n ≤ a) : nI a + Int32.ofInt i = nI (a - n) := by
  rw [h, ← ni_sub hn]
  exact (Int32.sub_eq_add_neg _ _).symm
