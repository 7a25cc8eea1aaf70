/-! what is known of a set: three numbers, and flags above them -/
def pk3 (a b c : Nat) : Nat := (a ||| b * 2 ^ 8) ||| c * 2 ^ 16
theorem pk3_all : ∀ a, a < 16 → ∀ b, b < 16 → ∀ c, c < 16 → pk3 a b c = a + 256 * b + 65536 * c := by decide +kernel
def pkS (g : Nat → Nat) (S : Nat) : Nat := V g S + 256 * Sh g S + 65536 * Lo g S
theorem pkS_lt (g : Nat → Nat) {S : Nat} (hS : S < 16384) : pkS g S < 16777216 := by
  have h1 := V_le g hS
  have h2 := Sh_le g hS
  have h3 := Lo_le g hS
  have h4 := pc_le S
  rw [pkS]; omega
/-- how a fact is laid: flags B above A -/
def okE (g : Nat → Nat) (S x : Nat) : Prop := ∃ (a b : Bool), x = (if a then pkS g S else 0) + 16777216 * (a.toNat + 2 * b.toNat + 4 * (b && Mi g S).toNat)
def okF (g : Nat → Nat) (ff : Nat → Nat) : Prop := ∀ S, S < 16384 → okE g S (ff S)
theorem okE_0 (g : Nat → Nat) (S : Nat) : okE g S 0 := ⟨false, false, rfl⟩
theorem okE_lt {g : Nat → Nat} {S x : Nat} (hS : S < 16384) (h : okE g S x) : x < 134217728 := by
  obtain ⟨a, b, rfl⟩ := h
  have := pkS_lt g hS
  have ha := Bool.toNat_le a
  have hb := Bool.toNat_le b
  have hc := Bool.toNat_le (b && Mi g S)
  split <;> omega
theorem flag_and (A B : Nat) (hA : A < 2 ^ 24) (i : Nat) : (A + 16777216 * B).testBit (24 + i) = B.testBit i := by
  rw [Nat.add_comm, show 16777216 = 2 ^ 24 from rfl, Nat.testBit_two_pow_mul_add _ hA, if_neg (by omega), show 24 + i - 24 = i by omega]
theorem and_pow (x i : Nat) : x &&& 2 ^ i = if x.testBit i then 2 ^ i else 0 := by
  apply Nat.eq_of_testBit_eq
  intro j
  rw [Nat.testBit_and, pow_bit]
  by_cases e : i = j
  · subst e
    cases h : x.testBit i
    · simp
    · simp [pow_bit]
  · cases h : x.testBit i
    · simp [e]
    · simp [e, pow_bit]
theorem and_pow0 {x i : Nat} : x &&& 2 ^ i = 0 ↔ x.testBit i = false := by
  rw [and_pow]
  cases h : x.testBit i
  · simp
  · simp [Nat.pow_eq_zero]
theorem bits3 : ∀ a b c : Bool, (a.toNat + 2 * b.toNat + 4 * c.toNat).testBit 0 = a ∧ (a.toNat + 2 * b.toNat + 4 * c.toNat).testBit 1 = b ∧ (a.toNat + 2 * b.toNat + 4 * c.toNat).testBit 2 = c := by decide
theorem fl_lt (g : Nat → Nat) {S : Nat} (hS : S < 16384) (a : Bool) : (if a then pkS g S else 0) < 2 ^ 24 := by
  have := pkS_lt g hS
  split <;> omega
/-- the three flags -/
theorem ok_known {g : Nat → Nat} {S : Nat} (hS : S < 16384) (a b : Bool) : ((if a then pkS g S else 0) + 16777216 * (a.toNat + 2 * b.toNat + 4 * (b && Mi g S).toNat)) &&& 16777216 = 0 ↔ a = false := by
  rw [show (16777216 : Nat) = 2 ^ 24 from rfl, and_pow0]
  have := flag_and _ (a.toNat + 2 * b.toNat + 4 * (b && Mi g S).toNat) (fl_lt g hS a) 0
  rw [show (2 : Nat) ^ 24 = 16777216 from rfl, this, (bits3 a b (b && Mi g S)).1]
theorem ok_mk {g : Nat → Nat} {S : Nat} (hS : S < 16384) (a b : Bool) : ((if a then pkS g S else 0) + 16777216 * (a.toNat + 2 * b.toNat + 4 * (b && Mi g S).toNat)) &&& 33554432 = 0 ↔ b = false := by
  rw [show (33554432 : Nat) = 2 ^ 25 from rfl, and_pow0]
  have := flag_and _ (a.toNat + 2 * b.toNat + 4 * (b && Mi g S).toNat) (fl_lt g hS a) 1
  rw [show (24 + 1 : Nat) = 25 from rfl] at this
  rw [this, (bits3 a b (b && Mi g S)).2.1]
theorem ok_mw {g : Nat → Nat} {S : Nat} (hS : S < 16384) (a b : Bool) : ((if a then pkS g S else 0) + 16777216 * (a.toNat + 2 * b.toNat + 4 * (b && Mi g S).toNat)) &&& 67108864 = 0 ↔ (b && Mi g S) = false := by
  rw [show (67108864 : Nat) = 2 ^ 26 from rfl, and_pow0]
  have := flag_and _ (a.toNat + 2 * b.toNat + 4 * (b && Mi g S).toNat) (fl_lt g hS a) 2
  rw [show (24 + 2 : Nat) = 26 from rfl] at this
  rw [this, (bits3 a b (b && Mi g S)).2.2]
theorem or_hi {A B C : Nat} (hA : A < 2 ^ 24) (hC : C < 2 ^ 24) : (A + 16777216 * B) ||| C = (A ||| C) + 16777216 * B := by
  have e1 : ∀ X, X < 2 ^ 24 → X + 16777216 * B = 2 ^ 24 * B ||| X := fun X hX => by
    rw [← Nat.two_pow_add_eq_or_of_lt hX, Nat.add_comm]
  rw [e1 A hA, e1 (A ||| C) (or_lt hA hC), Nat.or_assoc]
theorem or_fl {A B D : Nat} (hA : A < 2 ^ 24) : (A + 16777216 * B) ||| 16777216 * D = A + 16777216 * (B ||| D) := by
  have e1 : ∀ Y, A + 16777216 * Y = 2 ^ 24 * Y ||| A := fun Y => by
    rw [← Nat.two_pow_add_eq_or_of_lt hA, Nat.add_comm]
  rw [e1 B, e1 (B ||| D), Nat.or_assoc, Nat.or_comm A, ← Nat.or_assoc]
  congr 1
  rw [show 16777216 = 2 ^ 24 from rfl, Nat.mul_comm, Nat.mul_comm _ D, Nat.mul_comm _ (B ||| D), ← Nat.shiftLeft_eq, ← Nat.shiftLeft_eq, ← Nat.shiftLeft_eq, Nat.shiftLeft_or_distrib]
theorem fl_or1 : ∀ b c : Bool, (false.toNat + 2 * b.toNat + 4 * c.toNat) ||| 1 = true.toNat + 2 * b.toNat + 4 * c.toNat := by decide
theorem fl_or2 : ∀ a c : Bool, (a.toNat + 2 * false.toNat + 4 * false.toNat) ||| (2 + 4 * c.toNat) = a.toNat + 2 * true.toNat + 4 * c.toNat := by decide
/-- a set becomes known -/
theorem ok_put {g : Nat → Nat} {S : Nat} (hS : S < 16384) (b : Bool) : ((if false then pkS g S else 0) + 16777216 * (false.toNat + 2 * b.toNat + 4 * (b && Mi g S).toNat)) ||| (pkS g S ||| 16777216) = (if true then pkS g S else 0) + 16777216 * (true.toNat + 2 * b.toNat + 4 * (b && Mi g S).toNat) := by
  have hp := pkS_lt g hS
  rw [← Nat.or_assoc, or_hi (by simp) hp]
  have e2 : ((if false = true then pkS g S else 0) ||| pkS g S) = pkS g S := by simp
  rw [e2, show (16777216 : Nat) = 16777216 * 1 from rfl, or_fl hp]
  rw [fl_or1]
  simp
theorem ok_putm {g : Nat → Nat} {S : Nat} (hS : S < 16384) (a : Bool) : ((if a then pkS g S else 0) + 16777216 * (a.toNat + 2 * false.toNat + 4 * (false && Mi g S).toNat)) ||| ((if Mi g S then 67108864 else 0) ||| 33554432) = (if a then pkS g S else 0) + 16777216 * (a.toNat + 2 * true.toNat + 4 * (true && Mi g S).toNat) := by
  have e : ((if Mi g S then 67108864 else 0) ||| 33554432) = 16777216 * (2 + 4 * (Mi g S).toNat) := by cases Mi g S <;> decide
  rw [e, or_fl (fl_lt g hS a), Bool.false_and, fl_or2, Bool.true_and]
theorem okF_up {g ff : Nat → Nat} {S x : Nat} (h : okF g ff) (hx : okE g S x) : okF g (upN ff S x) := fun U hU => by
  by_cases e : U = S
  · subst e; rw [upN_s]; exact hx
  · rw [upN_n _ _ e]; exact h U hU
/-- what the callers read of a known set -/
def gotF (g : Nat → Nat) (S x : Nat) : Prop := x < 134217728 ∧ x &&& 255 = V g S ∧ (x >>> 8) &&& 255 = Sh g S ∧ (x >>> 16) &&& 255 = Lo g S
theorem and255 (x : Nat) : x &&& 255 = x % 256 := Nat.and_two_pow_sub_one_eq_mod x 8
theorem got_of {g : Nat → Nat} {S : Nat} (hS : S < 16384) (b : Bool) : gotF g S ((if true then pkS g S else 0) + 16777216 * (true.toNat + 2 * b.toNat + 4 * (b && Mi g S).toNat)) := by
  refine ⟨okE_lt hS ⟨true, b, rfl⟩, ?_⟩
  have h1 := V_le g hS
  have h2 := Sh_le g hS
  have h3 := Lo_le g hS
  have h4 := pc_le S
  generalize (true.toNat + 2 * b.toNat + 4 * (b && Mi g S).toNat) = Y
  rw [if_pos rfl, pkS, and255, and255, and255, Nat.shiftRight_eq_div_pow, Nat.shiftRight_eq_div_pow]
  refine ⟨by omega, by omega, by omega⟩
theorem got_0 (g : Nat → Nat) : gotF g 0 0 := ⟨by decide, by rw [V_0]; rfl, by rw [Sh_0]; rfl, by rw [Lo_0]; rfl⟩
/-- the gathering over a tree -/
theorem mn_s {g : Nat → Nat} {S k : Nat} (hk : S.testBit k = true) : min (min 14 (shoF g (T g) S k)) (Sh g (lft g S k)) = min 14 (shoF g (T g) S (k + 1)) := by
  rw [shoF, if_pos hk, Sh]
  split <;> omega
theorem mx_s {g : Nat → Nat} {S k : Nat} (hk : S.testBit k = true) : max (lonF g (T g) S k) (Lo g (lft g S k)) = lonF g (T g) S (k + 1) := by
  rw [lonF, if_pos hk, Lo]
  split <;> omega
theorem sn_s {g : Nat → Nat} {S k : Nat} (hk : S.testBit k = true) : seenF g (T g) S k ||| 2 ^ V g (lft g S k) = seenF g (T g) S (k + 1) := by
  rw [seenF, if_pos hk, V]
theorem tree_pk {g : Nat → Nat} {S : Nat} (hS : S < 16384) (h0 : S ≠ 0) : pk3 (mex (seenF g (T g) S 14)) (min 14 (shoF g (T g) S 14) + 1) (lonF g (T g) S 14 + 1) = pkS g S := by
  obtain ⟨e1, e2, e3, -⟩ := (T_all g _ S rfl hS).2.2.2.2 h0
  have h1 := V_le g hS
  have h2 := Sh_le g hS
  have h3 := Lo_le g hS
  have h4 := pc_le S
  rw [pk3_all _ (by omega) _ (by omega) _ (by omega), pkS, e1, e2, e3]
  omega
theorem ntz_mex {x : Nat} (h : x < 2 ^ 16) : mex x < 31 ∧ ((nI x ^^^ (-1)) ^^^ (-1)) &&& ((nI x ^^^ (-1)) - nI 1) = nI (2 ^ mex x - 1) := by
  obtain ⟨a, b, c⟩ := mex_spec (x := x) (Nat.lt_trans h (by decide))
  have hm : mex x ≤ 16 := by
    rcases Nat.lt_or_ge 16 (mex x) with q | q
    · have := c 16 q
      rw [bit_of_lt h (Nat.le_refl _)] at this; cases this
    · exact q
  have hb : ∀ i, i < 32 → (nI x ^^^ (-1)).toBitVec.toNat.testBit i = !x.testBit i := fun i hi => by
    have hm1 : (-1 : Int32).toBitVec = BitVec.allOnes 32 := by decide
    show ((nI x ^^^ (-1)).toBitVec).getLsbD i = _
    rw [Int32.toBitVec_xor, hm1, bv_nI]
    simp only [BitVec.getLsbD_xor, BitVec.getLsbD_ofNat, BitVec.getLsbD_allOnes, hi, decide_true, Bool.true_and, Bool.xor_true]
  exact ⟨by omega, ntz_h (by omega) (by rw [hb _ (by omega), b]; rfl) (fun i hi => by rw [hb _ (by omega), c i hi]; rfl)⟩
/-- a set falls into a part and the rest -/
theorem comp_apart {g : Nat → Nat} (hs : ∀ i, i < 14 → ∀ j, j < 14 → (g i).testBit j = (g j).testBit i) {S a : Nat} (hS : S < 16384) (ha : S.testBit a = true) : apart g (comp g S a) (sd S (comp g S a)) ∧ comp g S a ||| sd S (comp g S a) = S := by
  have hc := comp_cls (g := g) hS a
  refine ⟨⟨fun i hi => ⟨by rw [sd_bit, hi]; simp, fun j hj => ?_⟩, fun i hi j hj => ?_⟩, ?_⟩
  · rw [sd_bit]
    cases hSj : S.testBit j
    · rfl
    · rw [hc i hi j hj hSj]; rfl
  · rw [sd_bit, Bool.and_eq_true, Bool.not_eq_true'] at hi
    cases hq : (comp g S a).testBit j
    · rfl
    · have hi14 := bit_in hS hi.1
      have hj14 := bit_in (comp_lt g S a) hq
      have := hc j hq i (by rw [hs j hj14 i hi14]; exact hj) hi.1
      rw [hi.2] at this; cases this
  · apply Nat.eq_of_testBit_eq
    intro i
    rw [Nat.testBit_or, sd_bit]
    cases hq : (comp g S a).testBit i
    · cases S.testBit i <;> rfl
    · rw [comp_in ha hq]; rfl
theorem sd_in {a b i : Nat} (h : (sd a b).testBit i = true) : a.testBit i = true := by
  rw [sd_bit] at h
  exact (Bool.and_eq_true_iff.mp h).1
theorem parts_pk {g : Nat → Nat} {A B : Nat} (hA : A < 16384) (hB : B < 16384) (hap : apart g A B) : pk3 ((V g A ^^^ V g B)) (Sh g A + Sh g B) (Lo g A + Lo g B) = pkS g (A ||| B) := by
  obtain ⟨e1, e2, e3⟩ := sg g _ A B rfl hA hB hap
  have hAB := or_14 hA hB
  have h1 := V_le g hAB
  have h2 := Sh_le g hAB
  have h3 := Lo_le g hAB
  have h4 := pc_le (A ||| B)
  rw [← e1, ← e2, ← e3, pk3_all _ (by omega) _ (by omega) _ (by omega), pkS]
theorem nmin {a b : Nat} (ha : a < 2147483648) (hb : b < 2147483648) : (if nI b < nI a then nI b else nI a) = nI (min a b) := by
  by_cases h : b < a
  · rw [if_pos ((nI_ltI hb ha).mpr h), Nat.min_eq_right (by omega)]
  · rw [if_neg (fun q => h ((nI_ltI hb ha).mp q)), Nat.min_eq_left (by omega)]
theorem Sh_16 (g : Nat → Nat) (S : Nat) : Sh g S < 16 := Nat.lt_of_le_of_lt (show (T g S >>> 4) &&& 15 ≤ 15 from Nat.and_le_right) (by decide)
theorem Lo_16 (g : Nat → Nat) (S : Nat) : Lo g S < 16 := Nat.lt_of_le_of_lt (show (T g S >>> 8) &&& 15 ≤ 15 from Nat.and_le_right) (by decide)
theorem V_16 (g : Nat → Nat) (S : Nat) : V g S < 16 := Nat.lt_of_le_of_lt (show T g S &&& 15 ≤ 15 from Nat.and_le_right) (by decide)
theorem lonF_16 (g t : Nat → Nat) (S : Nat) : ∀ k, lonF g t S k ≤ 15
  | 0 => Nat.zero_le _
  | k + 1 => by
    rw [lonF]
    have h := lonF_16 g t S k
    have h2 : (t (lft g S k) >>> 8) &&& 15 ≤ 15 := Nat.and_le_right
    split
    · split <;> omega
    · exact h
theorem xor255 (x y : Nat) : (x ^^^ y) &&& 255 = (x &&& 255) ^^^ (y &&& 255) := by
  apply Nat.eq_of_testBit_eq
  intro i
  simp only [Nat.testBit_and, Nat.testBit_xor]
  cases x.testBit i <;> cases y.testBit i <;> cases (255 : Nat).testBit i <;> rfl
theorem ok_same {g : Nat → Nat} {S : Nat} (hS : S < 16384) (b : Bool) : ((if true then pkS g S else 0) + 16777216 * (true.toNat + 2 * b.toNat + 4 * (b && Mi g S).toNat)) ||| (pkS g S ||| 16777216) = (if true then pkS g S else 0) + 16777216 * (true.toNat + 2 * b.toNat + 4 * (b && Mi g S).toNat) := by
  have hp := pkS_lt g hS
  rw [← Nat.or_assoc, if_pos rfl, or_hi hp hp, Nat.or_self, show (16777216 : Nat) = 16777216 * 1 from rfl, or_fl hp]
  have : ∀ b c : Bool, (true.toNat + 2 * b.toNat + 4 * c.toNat) ||| 1 = true.toNat + 2 * b.toNat + 4 * c.toNat := by decide
  rw [this]
theorem ok_ins {g : Nat → Nat} {S x : Nat} (hS : S < 16384) (h : okE g S x) : ∃ y, x ||| (pkS g S ||| 16777216) = y ∧ okE g S y ∧ gotF g S y := by
  obtain ⟨a, b, rfl⟩ := h
  refine ⟨_, rfl, ?_⟩
  cases a
  · rw [ok_put hS b]; exact ⟨⟨true, b, rfl⟩, got_of hS b⟩
  · rw [ok_same hS b]; exact ⟨⟨true, b, rfl⟩, got_of hS b⟩
theorem ok_got {g : Nat → Nat} {S x : Nat} (hS : S < 16384) (h : okE g S x) (hk : x &&& 16777216 ≠ 0) : gotF g S x := by
  obtain ⟨a, b, rfl⟩ := h
  cases a
  · exact absurd ((ok_known hS false b).mpr rfl) hk
  · exact got_of hS b
