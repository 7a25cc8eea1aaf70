/-! rows for arrays of chars and booleans; ranges -/
theorem ni_i2c {v : Nat} (h : v < 65536) : ((nI v).toUInt32 % 65536).toInt32 = nI v := by
  rw [pk_char, pk_tn (by omega), Nat.mod_eq_of_lt h]
theorem nar_c {v : Nat} (h : v < 65536) : vp_nar .char (nI v) = nI v := by
  have h2 := pk_vc (nI v)
  rw [ni_i2c h] at h2
  exact h2
theorem nar_z1 : vp_nar .boolean (nI 1) = nI 1 := rfl
section NARR2
variable {p : Program} {l : Launch} {e : Env} {R : Room} {s : State} {m : MethodId} {args : Array Value} {below : List Frame} {meth : Method} {c : Code} {H : Heap} {locs : List Loc} {cells slots : Nat} {Q : State → Prop}
variable {cc : ByteArray} {pc : Nat} {ls : Array Slot} {rest : List Value} {D : va_G} {cl : List vw_C} {tys : List (ClassId × FieldType)} {ws : va_W} {A : Nat → Prop} {H0 : Heap} {a n : Nat} {cA : ClassId} {g : Nat → Nat} {k v : Nat}
theorem cast_N (hx : p.tables.exec = Jvm.exec) (hb : c.code = cc) (hK : va_K D cl tys s) (hP : va_P D cl ws H) (hD : va_D A ws) (hS : va_S A H0 H locs) (q0 t0 : Nat) (ha : ws[q0]? = some (a, .inl (cA, n, .inl (aN g)))) (ht : tys[t0]? = some (cA, .char)) (hk : k < n) (hn : n < 2147483648) (hv : v < 65536) (hdg : decode cc pc = .ok (.castore, 1))
    (kk : ∀ (H1 : Heap) (locs1 : List Loc), va_P D cl (ws.set q0 (a, .inl (cA, n, .inl (aN (upN g k v))))) H1 → va_D A (ws.set q0 (a, .inl (cA, n, .inl (aN (upN g k v))))) → va_S A H0 H1 locs1 → W p l e R s m args below meth c H1 locs1 cells slots Q (F0 m (pc + 1) ls rest)) : W p l e R s m args below meth c H locs cells slots Q (F0 m pc ls (.int (nI v) :: .int (nI k) :: .ref a :: rest)) :=
  va_cast hx hb hK hP hD hS q0 t0 ha ht (vin hk hn) hdg (fun H1 locs1 h1 h2 h3 => by
    rw [nar_c hv, nI_clamp (by omega), aN_up] at h1 h2
    exact kk H1 locs1 h1 h2 h3)
theorem zast_1 (hx : p.tables.exec = Jvm.exec) (hb : c.code = cc) (hK : va_K D cl tys s) (hP : va_P D cl ws H) (hD : va_D A ws) (hS : va_S A H0 H locs) (q0 t0 : Nat) (ha : ws[q0]? = some (a, .inl (cA, n, .inl (aN g)))) (ht : tys[t0]? = some (cA, .boolean)) (hk : k < n) (hn : n < 2147483648) (hdg : decode cc pc = .ok (.bastore, 1))
    (kk : ∀ (H1 : Heap) (locs1 : List Loc), va_P D cl (ws.set q0 (a, .inl (cA, n, .inl (aN (upN g k 1))))) H1 → va_D A (ws.set q0 (a, .inl (cA, n, .inl (aN (upN g k 1))))) → va_S A H0 H1 locs1 → W p l e R s m args below meth c H1 locs1 cells slots Q (F0 m (pc + 1) ls rest)) : W p l e R s m args below meth c H locs cells slots Q (F0 m pc ls (.int (nI 1) :: .int (nI k) :: .ref a :: rest)) :=
  va_zast hx hb hK hP hD hS q0 t0 ha ht (vin hk hn) hdg (fun H1 locs1 h1 h2 h3 => by
    rw [nar_z1, nI_clamp (by omega), aN_up] at h1 h2
    exact kk H1 locs1 h1 h2 h3)
end NARR2
theorem in_t {a v b : Nat} (h1 : a ≤ v) (h2 : v ≤ b) (h3 : b < 2147483648) : decide (nI a ≤ nI v ∧ nI v ≤ nI b) = true :=
  decide_eq_true ⟨Int32.not_lt.mp (fun q => by have := (nI_ltI (by omega) (by omega)).mp q; omega), Int32.not_lt.mp (fun q => by have := (nI_ltI (by omega) (by omega)).mp q; omega)⟩
theorem isN_t {n k : Nat} (hn : n ≤ 14) (hk : k < n) : isN n (nI k) = true := (isN_iff hn).mpr ⟨k, hk, rfl⟩
theorem wrg_in {tx : Nat → Nat} {k : Nat} (hk : k < 14) (hc : tx k < 128) (h : tx k ≠ 46) : decide (nI 0 ≤ nI (tx k) - nI 97 ∧ nI (tx k) - nI 97 ≤ nI k - nI 1) = !wrg tx k := by
  have e1 : (nI (tx k) - nI 97).toInt = (tx k : Int) - 97 := pk_sub_toInt (by omega) (by omega)
  have e2 : (nI k - nI 1).toInt = (k : Int) - 1 := pk_sub_toInt (by omega) (by omega)
  have e0 : (nI 0).toInt = 0 := nI_toInt (by omega)
  rw [wrg, decide_eq_false h, Bool.not_false, Bool.true_and, Bool.not_not, ← Bool.decide_and, decide_eq_decide, Int32.le_iff_toInt_le, Int32.le_iff_toInt_le, e0, e1, e2]
  omega
theorem gz_tt : gz true true = 0 := rfl
theorem cpB_n {ss : Nat → Nat} {fr to k i : Nat} (h : i < 18 * to ∨ 18 * to + k ≤ i) : cpB ss fr to k i = ss i := by
  rw [cpB, if_neg (by omega)]
theorem cpB_0i {ss : Nat → Nat} {fr i : Nat} (h : i < 18) : cpB ss fr 0 18 i = ss (18 * fr + i) := by
  rw [cpB, if_pos ⟨by omega, by omega⟩]
  congr 1
theorem shB_lo {ss : Nat → Nat} {i : Nat} (h : i < 18 ∨ 126 ≤ i) : ∀ k, k ≤ 5 → shB ss k i = ss i
  | 0, _ => rfl
  | k + 1, hk => by rw [shB, cpB_n (by omega), shB_lo h k (by omega)]
theorem svM_out {ss : Nat → Nat} {n i : Nat} (hn : n ≤ 6) (h : i < 18 ∨ 126 ≤ i) : svM ss n i = ss i := by
  rw [svM]
  split
  · rw [cpB_n (by omega), shB_lo h 5 (by omega)]
  · rw [cpB_n (by omega)]
theorem svM_lo {ss : Nat → Nat} {n i : Nat} (hn : n ≤ 6) (h : i < 18) : svM ss n i = ss i := svM_out hn (Or.inl h)
theorem svM_o {ss : Nat → Nat} {n i : Nat} (hn : n ≤ 6) (h : 126 ≤ i) : svM ss n i = ss i := svM_out hn (Or.inr h)
theorem gS_sv {ss : Nat → Nat} {n : Nat} (hn : n ≤ 6) {k : Nat} (hk : k < 14) : gS (svM ss n) k = gS ss k := svM_lo hn (by omega)
theorem svN_le {n : Nat} (h : n ≤ 6) : svN n ≤ 6 := by rw [svN]; split <;> omega
theorem pcn_hi {S n : Nat} (h : S < 2 ^ n) : ∀ d, pcn S (n + d) = pcn S n
  | 0 => rfl
  | d + 1 => by
    rw [show n + (d + 1) = (n + d) + 1 by omega, pcn, bit_of_lt h (by omega), pcn_hi h d]
    rfl
theorem pc_ltn {S n : Nat} (h : S < 2 ^ n) : pc S ≤ n := by
  rcases Nat.lt_or_ge n 14 with q | q
  · have e := pcn_hi h (14 - n)
    rw [show n + (14 - n) = 14 by omega] at e
    rw [pc, e]
    exact pcn_le S n
  · exact Nat.le_trans (pc_le S) q
