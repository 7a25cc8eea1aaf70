/-! longs -/
section LCMP2
variable {p : Program} {l : Launch} {e : Env} {R : Room} {s : State} {m : MethodId} {args : Array Value} {below : List Frame} {meth : Method} {c : Code} {H : Heap} {locs : List Loc} {cells slots : Nat} {Q : State → Prop}
variable {cc : ByteArray} {pc : Nat} {ls : Array Slot} {rest : List Value}
theorem lv_lcmp (hexec : p.tables.exec = Jvm.exec) (hb : c.code = cc) {x y : Int64} (hdg : decode cc pc = .ok (.lcmp, 1)) (k : W p l e R s m args below meth c H locs cells slots Q (F0 m (pc + 1) ls (.int (if x > y then 1 else if x = y then 0 else -1) :: rest))) : W p l e R s m args below meth c H locs cells slots Q (F0 m pc ls (.long y :: .long x :: rest)) := by
  intro T hT X
  obtain ⟨t, a, b⟩ := k T hT X
  refine ⟨t, ?_, b⟩
  jvm_step X.here [X.here.top, hexec, hb, hdg]
  by_cases h1 : x > y
  · simp only [h1, if_true] at a ⊢; exact a
  · by_cases h2 : x = y
    · simp [h2] at a ⊢; exact a
    · simp [h1, h2] at a ⊢; exact a
end LCMP2
def cmpN (a b : Nat) : Int32 := if b < a then 1 else if a = b then 0 else -1
theorem cmp_N {a b : Nat} (ha : a < 2147483648) (hb : b < 2147483648) : (if lN a > lN b then (1 : Int32) else if lN a = lN b then 0 else -1) = cmpN a b := by
  have h1 : (lN a > lN b) = (b < a) := propext (lN_lt hb ha)
  have h2 : (lN a = lN b) = (a = b) := propext (lN_eq ha hb)
  rw [cmpN]
  simp only [h1, h2]
theorem cmpN_le {a b : Nat} : cmpN a b ≤ 0 ↔ a ≤ b := by
  rw [cmpN]
  by_cases h : b < a
  · rw [if_pos h]; exact ⟨fun z => absurd z (by decide), fun z => by omega⟩
  · rw [if_neg h]
    refine ⟨fun _ => by omega, fun _ => ?_⟩
    split <;> decide
theorem cmpN_0 {a b : Nat} : cmpN a b = 0 ↔ a = b := by
  rw [cmpN]
  by_cases h : b < a
  · rw [if_pos h]; exact ⟨fun z => absurd z (by decide), fun z => by omega⟩
  · rw [if_neg h]
    by_cases h2 : a = b
    · rw [if_pos h2]; exact ⟨fun _ => h2, fun _ => rfl⟩
    · rw [if_neg h2]; exact ⟨fun z => absurd z (by decide), fun z => absurd z h2⟩
theorem lN_bv {x y : Int64} (h : x.toBitVec = y.toBitVec) : x = y := Int64.toBitVec_inj.mp h
theorem lN_tb (a : Nat) : (lN a).toBitVec = BitVec.ofNat 64 a := rfl
theorem lN_or (a b : Nat) : lN a ||| lN b = lN (a ||| b) := lN_bv (by
  rw [Int64.toBitVec_or, lN_tb, lN_tb, lN_tb]
  apply BitVec.eq_of_getLsbD_eq
  intro i hi
  simp [BitVec.getLsbD_ofNat, hi])
theorem lsh_am : ∀ n, n < 63 → (((nI n).toInt64 &&& 63).toBitVec.smod 64).toNat = n := by decide
theorem lN_shl {n k : Nat} (hk : k < 63) (h : n * 2 ^ k < 9223372036854775808) : lN n <<< ((nI k).toInt64 &&& 63) = lN (n * 2 ^ k) := by
  apply lN_bv
  apply BitVec.eq_of_toNat_eq
  have hn : n < 2 ^ 64 := Nat.lt_of_le_of_lt (Nat.le_mul_of_pos_right n (Nat.two_pow_pos k)) (by omega)
  have e : ∀ m, m < 2 ^ 64 → (lN m).toBitVec.toNat = m := fun m hm => Nat.mod_eq_of_lt hm
  show ((lN n).toBitVec <<< (((nI k).toInt64 &&& 63).toBitVec.smod 64).toNat).toNat = _
  rw [lsh_am k hk, BitVec.toNat_shiftLeft, Nat.shiftLeft_eq, e n hn, e _ (by omega), Nat.mod_eq_of_lt (by omega)]
