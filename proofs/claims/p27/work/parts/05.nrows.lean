section NROWS
variable {p : Program} {l : Launch} {e : Env} {R : Room} {s : State} {m : MethodId} {args : Array Value} {below : List Frame} {meth : Method} {c : Code} {H : Heap} {locs : List Loc} {cells slots : Nat} {Q : State → Prop}
variable {cc : ByteArray} {pc : Nat} {ls : Array Slot} {rest : List Value}
theorem bI_eq0 {b : Bool} : bI b = 0 ↔ b = false := by cases b <;> simp [bI]
theorem bI_n0 {b : Bool} (h : ¬ bI b = 0) : b = true := by cases b <;> simp_all [bI]
theorem nI_z {a : Nat} (ha : a < 2147483648) : nI a = 0 ↔ a = 0 := by rw [← nI_0]; exact nI_eq ha (by omega)
theorem tp_i {x y : Int32} (h : x = y) (k : W p l e R s m args below meth c H locs cells slots Q (F0 m pc ls (.int y :: rest))) : W p l e R s m args below meth c H locs cells slots Q (F0 m pc ls (.int x :: rest)) := by subst h; exact k
theorem lv_cast {nL : Nat} {x y : List (Nat × Value)} (h : lv_has ls nL x) (e : x = y) : lv_has ls nL y := e ▸ h
theorem cp_w {w w2 : va_W} {D : va_G} {cl : List vw_C} (h : va_P D cl w H) (e : w = w2) : va_P D cl w2 H := e ▸ h

theorem nb_icmp_lt (hx : p.tables.exec = Jvm.exec) (hcc : c.code = cc) {a b : Nat} {off : Int} {tgt : Nat} (ha : a < 2147483648) (hb : b < 2147483648) (hdg : decode cc pc = .ok (.if_icmp .lt off, 3)) (ht : (pc : Int) + off = (tgt : Int))
    (kt : a < b → W p l e R s m args below meth c H locs cells slots Q (F0 m tgt ls rest)) (kf : b ≤ a → W p l e R s m args below meth c H locs cells slots Q (F0 m (pc + 3) ls rest)) : W p l e R s m args below meth c H locs cells slots Q (F0 m pc ls (.int (nI b) :: .int (nI a) :: rest)) :=
  lv_icmp_lt hx hcc hdg ht (fun h => kt ((nI_ltI ha hb).mp h)) (fun h => kf (by have h2 := mt (nI_ltI ha hb).mpr h; omega))
theorem nb_icmp_ge (hx : p.tables.exec = Jvm.exec) (hcc : c.code = cc) {a b : Nat} {off : Int} {tgt : Nat} (ha : a < 2147483648) (hb : b < 2147483648) (hdg : decode cc pc = .ok (.if_icmp .ge off, 3)) (ht : (pc : Int) + off = (tgt : Int))
    (kt : b ≤ a → W p l e R s m args below meth c H locs cells slots Q (F0 m tgt ls rest)) (kf : a < b → W p l e R s m args below meth c H locs cells slots Q (F0 m (pc + 3) ls rest)) : W p l e R s m args below meth c H locs cells slots Q (F0 m pc ls (.int (nI b) :: .int (nI a) :: rest)) :=
  lv_icmp_ge hx hcc hdg ht (fun h => kt ((nI_leI hb ha).mp h)) (fun h => kf (by have h2 := mt (nI_leI hb ha).mpr h; omega))
theorem nb_icmp_le (hx : p.tables.exec = Jvm.exec) (hcc : c.code = cc) {a b : Nat} {off : Int} {tgt : Nat} (ha : a < 2147483648) (hb : b < 2147483648) (hdg : decode cc pc = .ok (.if_icmp .le off, 3)) (ht : (pc : Int) + off = (tgt : Int))
    (kt : a ≤ b → W p l e R s m args below meth c H locs cells slots Q (F0 m tgt ls rest)) (kf : b < a → W p l e R s m args below meth c H locs cells slots Q (F0 m (pc + 3) ls rest)) : W p l e R s m args below meth c H locs cells slots Q (F0 m pc ls (.int (nI b) :: .int (nI a) :: rest)) :=
  lv_icmp_le hx hcc hdg ht (fun h => kt ((nI_leI ha hb).mp h)) (fun h => kf (by have h2 := mt (nI_leI ha hb).mpr h; omega))
theorem nb_icmp_eq (hx : p.tables.exec = Jvm.exec) (hcc : c.code = cc) {a b : Nat} {off : Int} {tgt : Nat} (ha : a < 2147483648) (hb : b < 2147483648) (hdg : decode cc pc = .ok (.if_icmp .eq off, 3)) (ht : (pc : Int) + off = (tgt : Int))
    (kt : a = b → W p l e R s m args below meth c H locs cells slots Q (F0 m tgt ls rest)) (kf : a ≠ b → W p l e R s m args below meth c H locs cells slots Q (F0 m (pc + 3) ls rest)) : W p l e R s m args below meth c H locs cells slots Q (F0 m pc ls (.int (nI b) :: .int (nI a) :: rest)) :=
  lv_icmp_eq hx hcc hdg ht (fun h => kt ((nI_eq ha hb).mp h)) (fun h => kf (fun q => h ((nI_eq ha hb).mpr q)))
theorem nb_icmp_ne (hx : p.tables.exec = Jvm.exec) (hcc : c.code = cc) {a b : Nat} {off : Int} {tgt : Nat} (ha : a < 2147483648) (hb : b < 2147483648) (hdg : decode cc pc = .ok (.if_icmp .ne off, 3)) (ht : (pc : Int) + off = (tgt : Int))
    (kt : a ≠ b → W p l e R s m args below meth c H locs cells slots Q (F0 m tgt ls rest)) (kf : a = b → W p l e R s m args below meth c H locs cells slots Q (F0 m (pc + 3) ls rest)) : W p l e R s m args below meth c H locs cells slots Q (F0 m pc ls (.int (nI b) :: .int (nI a) :: rest)) :=
  lv_icmp_ne hx hcc hdg ht (fun h => kt (fun q => h ((nI_eq ha hb).mpr q))) (fun h => kf ((nI_eq ha hb).mp (by first | exact Decidable.not_not.mp h | exact h)))
theorem nb_if_eq (hx : p.tables.exec = Jvm.exec) (hcc : c.code = cc) {a : Nat} {off : Int} {tgt : Nat} (ha : a < 2147483648) (hdg : decode cc pc = .ok (.ifCond .eq off, 3)) (ht : (pc : Int) + off = (tgt : Int))
    (kt : a = 0 → W p l e R s m args below meth c H locs cells slots Q (F0 m tgt ls rest)) (kf : a ≠ 0 → W p l e R s m args below meth c H locs cells slots Q (F0 m (pc + 3) ls rest)) : W p l e R s m args below meth c H locs cells slots Q (F0 m pc ls (.int (nI a) :: rest)) :=
  lv_if_eq hx hcc hdg ht (fun h => kt ((nI_z ha).mp h)) (fun h => kf (fun q => h ((nI_z ha).mpr q)))
theorem nb_if_ne (hx : p.tables.exec = Jvm.exec) (hcc : c.code = cc) {a : Nat} {off : Int} {tgt : Nat} (ha : a < 2147483648) (hdg : decode cc pc = .ok (.ifCond .ne off, 3)) (ht : (pc : Int) + off = (tgt : Int))
    (kt : a ≠ 0 → W p l e R s m args below meth c H locs cells slots Q (F0 m tgt ls rest)) (kf : a = 0 → W p l e R s m args below meth c H locs cells slots Q (F0 m (pc + 3) ls rest)) : W p l e R s m args below meth c H locs cells slots Q (F0 m pc ls (.int (nI a) :: rest)) :=
  lv_if_ne hx hcc hdg ht (fun h => kt (fun q => h ((nI_z ha).mpr q))) (fun h => kf ((nI_z ha).mp (by first | exact Decidable.not_not.mp h | exact h)))
theorem nb_if_gt (hx : p.tables.exec = Jvm.exec) (hcc : c.code = cc) {a : Nat} {off : Int} {tgt : Nat} (ha : a < 2147483648) (hdg : decode cc pc = .ok (.ifCond .gt off, 3)) (ht : (pc : Int) + off = (tgt : Int))
    (kt : 0 < a → W p l e R s m args below meth c H locs cells slots Q (F0 m tgt ls rest)) (kf : a = 0 → W p l e R s m args below meth c H locs cells slots Q (F0 m (pc + 3) ls rest)) : W p l e R s m args below meth c H locs cells slots Q (F0 m pc ls (.int (nI a) :: rest)) :=
  lv_if_gt hx hcc hdg ht (fun h => kt (Nat.pos_of_ne_zero (fun q => by subst q; exact absurd h (by decide)))) (fun h => kf ((Nat.eq_zero_or_pos a).elim id (fun q => absurd ((nI_0 ▸ nI_lt q ha : (0 : Int32) < nI a)) h)))
theorem nb_if_le (hx : p.tables.exec = Jvm.exec) (hcc : c.code = cc) {a : Nat} {off : Int} {tgt : Nat} (ha : a < 2147483648) (hdg : decode cc pc = .ok (.ifCond .le off, 3)) (ht : (pc : Int) + off = (tgt : Int))
    (kt : a = 0 → W p l e R s m args below meth c H locs cells slots Q (F0 m tgt ls rest)) (kf : 0 < a → W p l e R s m args below meth c H locs cells slots Q (F0 m (pc + 3) ls rest)) : W p l e R s m args below meth c H locs cells slots Q (F0 m pc ls (.int (nI a) :: rest)) :=
  lv_if_le hx hcc hdg ht (fun h => kt ((Nat.eq_zero_or_pos a).elim id (fun q => absurd h (nI_nle q ha)))) (fun h => kf (Nat.pos_of_ne_zero (fun q => by subst q; exact absurd (by decide) h)))
theorem nb_if_lt (hx : p.tables.exec = Jvm.exec) (hcc : c.code = cc) {a : Nat} {off : Int} {tgt : Nat} (ha : a < 2147483648) (hdg : decode cc pc = .ok (.ifCond .lt off, 3)) (ht : (pc : Int) + off = (tgt : Int))
    (kf : W p l e R s m args below meth c H locs cells slots Q (F0 m (pc + 3) ls rest)) : W p l e R s m args below meth c H locs cells slots Q (F0 m pc ls (.int (nI a) :: rest)) :=
  lv_if_lt hx hcc hdg ht (fun h => absurd h (nI_pos ha)) (fun _ => kf)
theorem nb_if_ge (hx : p.tables.exec = Jvm.exec) (hcc : c.code = cc) {a : Nat} {off : Int} {tgt : Nat} (ha : a < 2147483648) (hdg : decode cc pc = .ok (.ifCond .ge off, 3)) (ht : (pc : Int) + off = (tgt : Int))
    (kt : W p l e R s m args below meth c H locs cells slots Q (F0 m tgt ls rest)) : W p l e R s m args below meth c H locs cells slots Q (F0 m pc ls (.int (nI a) :: rest)) :=
  lv_if_ge hx hcc hdg ht (fun _ => kt) (fun h => absurd (nI_pos' ha) h)
theorem nb_ifb_eq (hx : p.tables.exec = Jvm.exec) (hcc : c.code = cc) {b : Bool} {off : Int} {tgt : Nat} (hdg : decode cc pc = .ok (.ifCond .eq off, 3)) (ht : (pc : Int) + off = (tgt : Int))
    (kt : b = false → W p l e R s m args below meth c H locs cells slots Q (F0 m tgt ls rest)) (kf : b = true → W p l e R s m args below meth c H locs cells slots Q (F0 m (pc + 3) ls rest)) : W p l e R s m args below meth c H locs cells slots Q (F0 m pc ls (.int (bI b) :: rest)) :=
  lv_if_eq hx hcc hdg ht (fun h => kt (bI_eq0.mp h)) (fun h => kf (bI_n0 h))
theorem nb_ifb_ne (hx : p.tables.exec = Jvm.exec) (hcc : c.code = cc) {b : Bool} {off : Int} {tgt : Nat} (hdg : decode cc pc = .ok (.ifCond .ne off, 3)) (ht : (pc : Int) + off = (tgt : Int))
    (kt : b = true → W p l e R s m args below meth c H locs cells slots Q (F0 m tgt ls rest)) (kf : b = false → W p l e R s m args below meth c H locs cells slots Q (F0 m (pc + 3) ls rest)) : W p l e R s m args below meth c H locs cells slots Q (F0 m pc ls (.int (bI b) :: rest)) :=
  lv_if_ne hx hcc hdg ht (fun h => kt (bI_n0 h)) (fun h => kf (bI_eq0.mp (by first | exact Decidable.not_not.mp h | exact h)))
end NROWS
/-! numbers and masks -/
theorem bv_nI (a : Nat) : (nI a).toBitVec = BitVec.ofNat 32 a := rfl
theorem nI_bv {x y : Int32} (h : x.toBitVec = y.toBitVec) : x = y := Int32.toBitVec_inj.mp h
theorem ni_and (a b : Nat) : nI a &&& nI b = nI (a &&& b) := nI_bv (by
  rw [Int32.toBitVec_and, bv_nI, bv_nI, bv_nI]
  apply BitVec.eq_of_getLsbD_eq
  intro i hi
  simp [BitVec.getLsbD_ofNat, hi])
theorem ni_or (a b : Nat) : nI a ||| nI b = nI (a ||| b) := nI_bv (by
  rw [Int32.toBitVec_or, bv_nI, bv_nI, bv_nI]
  apply BitVec.eq_of_getLsbD_eq
  intro i hi
  simp [BitVec.getLsbD_ofNat, hi])
theorem ni_xor (a b : Nat) : nI a ^^^ nI b = nI (a ^^^ b) := nI_bv (by
  rw [Int32.toBitVec_xor, bv_nI, bv_nI, bv_nI]
  apply BitVec.eq_of_getLsbD_eq
  intro i hi
  simp [BitVec.getLsbD_ofNat, hi])
/-- a without b -/
def sd (a b : Nat) : Nat := a ^^^ (a &&& b)
theorem sd_bit (a b i : Nat) : (sd a b).testBit i = (a.testBit i && !b.testBit i) := by
  simp only [sd, Nat.testBit_xor, Nat.testBit_and]
  cases a.testBit i <;> cases b.testBit i <;> rfl
theorem ni_sd (a b : Nat) : nI a &&& (nI b ^^^ (-1)) = nI (sd a b) := nI_bv (by
  rw [Int32.toBitVec_and, Int32.toBitVec_xor, bv_nI, bv_nI, bv_nI]
  apply BitVec.eq_of_getLsbD_eq
  intro i hi
  have hm : (-1 : Int32).toBitVec = BitVec.allOnes 32 := by decide
  rw [hm]
  simp only [BitVec.getLsbD_and, BitVec.getLsbD_xor, BitVec.getLsbD_ofNat, BitVec.getLsbD_allOnes, hi, decide_true, Bool.true_and, sd_bit, Bool.xor_true])
theorem ni_sub {a b : Nat} (h : b ≤ a) : nI a - nI b = nI (a - b) := pk_sub h
theorem sh_am : ∀ n, n < 32 → ((nI n &&& 31).toBitVec.smod 32).toNat = n := by decide
theorem ni_shl {n k : Nat} (hk : k < 32) (h : n * 2 ^ k < 4294967296) : nI n <<< (nI k &&& 31) = nI (n * 2 ^ k) := pk_shlN (nI k &&& 31) k (sh_am k hk) h
theorem ni_shl1 {k : Nat} (hk : k < 31) : nI 1 <<< (nI k &&& 31) = nI (2 ^ k) := by
  rw [ni_shl (by omega) (by
    have := Nat.pow_lt_pow_right (a := 2) (by omega) hk
    omega), Nat.one_mul]
theorem ni_shr {n k : Nat} (hk : k < 32) (h : n < 2147483648) : nI n >>> (nI k &&& 31) = nI (n >>> k) := by
  rw [pk_shrN h (nI k &&& 31) k (sh_am k hk), Nat.shiftRight_eq_div_pow]
theorem bit_mod (a k : Nat) : (a >>> k) % 2 = if a.testBit k then 1 else 0 := by
  rw [Nat.testBit_eq_decide_div_mod_eq, Nat.shiftRight_eq_div_pow]
  have h := Nat.mod_lt (a / 2 ^ k) (show 2 > 0 by omega)
  by_cases h1 : a / 2 ^ k % 2 = 1
  · simp [h1]
  · simp [h1]; omega
theorem and_lt {a : Nat} (b : Nat) {n : Nat} (h : a < n) : a &&& b < n := Nat.lt_of_le_of_lt Nat.and_le_left h
theorem and_lt2 (a : Nat) {b n : Nat} (h : b < n) : a &&& b < n := Nat.lt_of_le_of_lt Nat.and_le_right h
theorem lt_of_bits {a k : Nat} (h : ∀ i, k ≤ i → a.testBit i = false) : a < 2 ^ k := Nat.lt_pow_two_of_testBit a h
theorem bit_of_lt {a k i : Nat} (h : a < 2 ^ k) (hi : k ≤ i) : a.testBit i = false := Nat.testBit_lt_two_pow (Nat.lt_of_lt_of_le h (Nat.pow_le_pow_right (by omega) hi))
theorem sd_lt {a : Nat} (b : Nat) {k : Nat} (h : a < 2 ^ k) : sd a b < 2 ^ k := lt_of_bits (fun i hi => by rw [sd_bit, bit_of_lt h hi]; rfl)
theorem or_lt {a b k : Nat} (ha : a < 2 ^ k) (hb : b < 2 ^ k) : a ||| b < 2 ^ k := Nat.or_lt_two_pow ha hb
theorem sd_14 {a : Nat} (b : Nat) (h : a < 16384) : sd a b < 16384 := sd_lt (k := 14) b h
theorem or_14 {a b : Nat} (ha : a < 16384) (hb : b < 16384) : a ||| b < 16384 := or_lt (k := 14) ha hb
theorem pow_14 {k : Nat} (h : k < 14) : 2 ^ k < 16384 := Nat.pow_lt_pow_right (a := 2) (n := 14) (by omega) h
theorem pow_15 {k : Nat} (h : k ≤ 14) : 2 ^ k ≤ 16384 := Nat.pow_le_pow_right (n := 2) (by omega) h
/-- arrays that hold small numbers -/
def aN (g : Nat → Nat) : Nat → Int32 := fun i => nI (g i)
def upN (g : Nat → Nat) (k v : Nat) : Nat → Nat := fun i => if i = k then v else g i
theorem upN_s (g : Nat → Nat) (k v : Nat) : upN g k v k = v := by simp [upN]
theorem upN_n (g : Nat → Nat) {k i : Nat} (v : Nat) (h : i ≠ k) : upN g k v i = g i := by simp [upN, h]
theorem aN_up (g : Nat → Nat) (k v : Nat) : upd (aN g) k (nI v) = aN (upN g k v) := by
  funext i
  by_cases h : i = k
  · subst h; rw [pk_us]; simp [aN, upN]
  · rw [pk_un h]; simp [aN, upN, h]
theorem aN_at (g : Nat → Nat) {k : Nat} (hk : k < 2147483648) : aN g (nI k).toNatClampNeg = nI (g k) := by rw [nI_clamp hk]; rfl
theorem vin {k n : Nat} (h : k < n) (hn : n < 2147483648) : vp_in (nI k) n := vp_in_nI h hn
def oI (o : Option Nat) : Int32 := match o with
  | none => -1
  | some k => nI k
theorem nat_bit (a k : Nat) : (a >>> k) &&& 1 = (a.testBit k).toNat := by
  rw [Nat.and_one_is_mod, bit_mod]
  cases a.testBit k <;> rfl
theorem ni_bit (a k : Nat) : nI (a >>> k) &&& nI 1 = nI (a.testBit k).toNat := by rw [ni_and, nat_bit]
theorem tn_1 {b : Bool} : b.toNat = 1 ↔ b = true := by cases b <;> simp
theorem tn_lt (b : Bool) : b.toNat < 2147483648 := by cases b <;> decide
theorem nI_m1 {a : Nat} (h : a < 2147483648) : nI a ≠ -1 := fun e => by
  have h2 := nI_toInt h
  rw [e] at h2
  have : (-1 : Int32).toInt = -1 := by decide
  omega
theorem nmax {a b : Nat} (ha : a < 2147483648) (hb : b < 2147483648) : (if nI a < nI b then nI b else nI a) = nI (max a b) := by
  by_cases h : a < b
  · rw [if_pos ((nI_ltI ha hb).mpr h), Nat.max_eq_right (by omega)]
  · rw [if_neg (fun q => h ((nI_ltI ha hb).mp q)), Nat.max_eq_left (by omega)]
section NARR
variable {p : Program} {l : Launch} {e : Env} {R : Room} {s : State} {m : MethodId} {args : Array Value} {below : List Frame} {meth : Method} {c : Code} {H : Heap} {locs : List Loc} {cells slots : Nat} {Q : State → Prop}
variable {cc : ByteArray} {pc : Nat} {ls : Array Slot} {rest : List Value} {D : va_G} {cl : List vw_C} {tys : List (ClassId × FieldType)} {ws : va_W} {A : Nat → Prop} {H0 : Heap} {a n : Nat} {cA : ClassId} {g : Nat → Nat} {k v : Nat}
theorem iald_N (hx : p.tables.exec = Jvm.exec) (hb : c.code = cc) (hK : va_K D cl tys s) (hP : va_P D cl ws H) (q0 t0 : Nat) (ha : ws[q0]? = some (a, .inl (cA, n, .inl (aN g)))) (ht : tys[t0]? = some (cA, .int)) (hk : k < n) (hn : n < 2147483648) (hdg : decode cc pc = .ok (.iaload, 1))
    (kk : W p l e R s m args below meth c H locs cells slots Q (F0 m (pc + 1) ls (.int (nI (g k)) :: rest))) : W p l e R s m args below meth c H locs cells slots Q (F0 m pc ls (.int (nI k) :: .ref a :: rest)) :=
  va_iald hx hb hK hP q0 t0 ha ht (vin hk hn) hdg (by rw [aN_at g (by omega)]; exact kk)
theorem zald_N (hx : p.tables.exec = Jvm.exec) (hb : c.code = cc) (hK : va_K D cl tys s) (hP : va_P D cl ws H) (q0 t0 : Nat) (ha : ws[q0]? = some (a, .inl (cA, n, .inl (aN g)))) (ht : tys[t0]? = some (cA, .boolean)) (hk : k < n) (hn : n < 2147483648) (hdg : decode cc pc = .ok (.baload, 1))
    (kk : W p l e R s m args below meth c H locs cells slots Q (F0 m (pc + 1) ls (.int (nI (g k)) :: rest))) : W p l e R s m args below meth c H locs cells slots Q (F0 m pc ls (.int (nI k) :: .ref a :: rest)) :=
  va_zald hx hb hK hP q0 t0 ha ht (vin hk hn) hdg (by rw [aN_at g (by omega)]; exact kk)
theorem iast_N (hx : p.tables.exec = Jvm.exec) (hb : c.code = cc) (hK : va_K D cl tys s) (hP : va_P D cl ws H) (hD : va_D A ws) (hS : va_S A H0 H locs) (q0 t0 : Nat) (ha : ws[q0]? = some (a, .inl (cA, n, .inl (aN g)))) (ht : tys[t0]? = some (cA, .int)) (hk : k < n) (hn : n < 2147483648) (hdg : decode cc pc = .ok (.iastore, 1))
    (kk : ∀ (H1 : Heap) (locs1 : List Loc), va_P D cl (ws.set q0 (a, .inl (cA, n, .inl (aN (upN g k v))))) H1 → va_D A (ws.set q0 (a, .inl (cA, n, .inl (aN (upN g k v))))) → va_S A H0 H1 locs1 → W p l e R s m args below meth c H1 locs1 cells slots Q (F0 m (pc + 1) ls rest)) : W p l e R s m args below meth c H locs cells slots Q (F0 m pc ls (.int (nI v) :: .int (nI k) :: .ref a :: rest)) :=
  va_iast hx hb hK hP hD hS q0 t0 ha ht (vin hk hn) hdg (fun H1 locs1 h1 h2 h3 => by
    rw [nI_clamp (by omega), aN_up] at h1 h2
    exact kk H1 locs1 h1 h2 h3)
end NARR
theorem ts_f {x : Bool} (h : ¬ x = true) : x = false := by cases x <;> simp_all
theorem pow_lt_iff {a b : Nat} : 2 ^ a < 2 ^ b ↔ a < b := Nat.pow_lt_pow_iff_right (by omega)
theorem p31 {k : Nat} (h : k < 31) : 2 ^ k - 1 < 2147483648 := by
  have := Nat.pow_lt_pow_right (a := 2) (by omega) h
  omega
theorem p_0 {k : Nat} (h : 2 ^ k - 1 = 0) : k = 0 := by
  rcases Nat.eq_zero_or_pos k with q | q
  · exact q
  · have : 2 ^ 0 < 2 ^ k := pow_lt_iff.mpr q
    omega
theorem p_gt {b q : Nat} (h : 2 ^ b < 2 ^ q - 1) : b + 1 ≤ q := by
  have : 2 ^ b < 2 ^ q := Nat.lt_of_lt_of_le h (Nat.sub_le _ _)
  exact pow_lt_iff.mp this
theorem p_le {b q : Nat} (h : 2 ^ q - 1 ≤ 2 ^ b) (hb : 1 ≤ b := by decide) : q ≤ b := by
  rcases Nat.lt_or_ge b q with z | z
  · have h1 : 2 ^ (b + 1) ≤ 2 ^ q := Nat.pow_le_pow_right (by omega) z
    have h2 : 2 ^ 1 ≤ 2 ^ b := Nat.pow_le_pow_right (by omega) hb
    rw [Nat.pow_succ] at h1
    omega
  · exact z
theorem p_gtN {b q N : Nat} (hN : 2 ^ b = N) (h : N < 2 ^ q - 1) : b + 1 ≤ q := p_gt (by rw [hN]; exact h)
theorem p_leN {b q N : Nat} (hN : 2 ^ b = N) (h : 2 ^ q - 1 ≤ N) (hb : 1 ≤ b := by decide) : q ≤ b := p_le (by rw [hN]; exact h) hb
theorem iinc_N {a n : Nat} {i : Int} (h : Int32.ofInt i = nI n) : nI a + Int32.ofInt i = nI (a + n) := by rw [h, nI_add]
theorem us_am : ∀ n, n < 32 → (((nI n).toUInt32 &&& Int32.toUInt32 31).toBitVec % 32).toNat = n := by decide
theorem ni_ushr {n k : Nat} (hk : k < 32) (h : n < 4294967296) : ((nI n).toUInt32 >>> ((nI k).toUInt32 &&& Int32.toUInt32 31)).toInt32 = nI (n / 2 ^ k) := pk_ushrN h (nI k) k (us_am k hk)
theorem p_sh {k : Nat} (b : Nat) (hk : k + b < 31) (hb : b < 32 := by decide) : ((nI (2 ^ (k + b) - 1)).toUInt32 >>> ((nI b).toUInt32 &&& Int32.toUInt32 31)).toInt32 = nI (2 ^ k - 1) := by
  have h1 := p31 hk
  rw [ni_ushr hb (by omega)]
  congr 1
  rw [Nat.pow_add]
  have h2 : 0 < 2 ^ b := Nat.pow_pos (by omega)
  have h3 : 0 < 2 ^ k := Nat.pow_pos (by omega)
  have h4 : 2 ^ k * 2 ^ b - 1 = (2 ^ k - 1) * 2 ^ b + (2 ^ b - 1) := by
    rw [Nat.sub_mul, Nat.one_mul]
    have : 2 ^ b ≤ 2 ^ k * 2 ^ b := Nat.le_mul_of_pos_left _ h3
    omega
  rw [h4, Nat.add_comm, Nat.add_mul_div_right _ _ h2, Nat.div_eq_of_lt (by omega), Nat.zero_add]
theorem p_last {q : Nat} (h : q ≤ 2) (h1 : 1 ≤ q) : ((nI (2 ^ q - 1)).toUInt32 >>> ((nI 1).toUInt32 &&& Int32.toUInt32 31)).toInt32 = nI (q - 1) := by
  rcases (show q = 1 ∨ q = 2 by omega) with rfl | rfl <;> decide
theorem ntz_h {x : Int32} {k : Nat} (hk : k < 31) (h1 : x.toBitVec.toNat.testBit k = true) (h2 : ∀ i, i < k → x.toBitVec.toNat.testBit i = false) : (x ^^^ (-1)) &&& (x - nI 1) = nI (2 ^ k - 1) := by
  have hX : x.toBitVec.toNat < 4294967296 := x.toBitVec.isLt
  generalize hXe : x.toBitVec.toNat = X at h1 h2 hX
  have hm : X % 2 ^ (k + 1) = 2 ^ k := by
    apply Nat.eq_of_testBit_eq
    intro i
    rw [Nat.testBit_mod_two_pow, Nat.testBit_two_pow]
    by_cases e : k = i
    · subst e; simp [h1]
    · by_cases z : i < k
      · rw [h2 i z]; simp; omega
      · have : ¬ i < k + 1 := by omega
        simp [this]; omega
  have hd := Nat.div_add_mod X (2 ^ (k + 1))
  rw [hm] at hd
  have hp : 0 < 2 ^ k := Nat.pow_pos (by omega)
  have hs : 2 ^ k < 2 ^ (k + 1) := pow_lt_iff.mpr (by omega)
  have hX1 : X - 1 = 2 ^ (k + 1) * (X / 2 ^ (k + 1)) + (2 ^ k - 1) := by omega
  have hb : (x - nI 1).toBitVec.toNat = X - 1 := by
    rw [Int32.toBitVec_sub, BitVec.toNat_sub, hXe, bv_nI, BitVec.toNat_ofNat]
    omega
  apply nI_bv
  apply BitVec.eq_of_getLsbD_eq
  intro i hi
  have hm1 : (-1 : Int32).toBitVec = BitVec.allOnes 32 := by decide
  rw [Int32.toBitVec_and, Int32.toBitVec_xor, hm1, bv_nI]
  simp only [BitVec.getLsbD_and, BitVec.getLsbD_xor, BitVec.getLsbD_allOnes, BitVec.getLsbD_ofNat, hi, decide_true, Bool.true_and, Bool.xor_true]
  rw [BitVec.getLsbD, BitVec.getLsbD, hb, hXe, hX1]
  by_cases z : i < k + 1
  · rw [Nat.testBit_two_pow_mul_add _ (show 2 ^ k - 1 < 2 ^ (k + 1) by omega), if_pos z, Nat.testBit_two_pow_sub_one]
    by_cases y : i < k
    · rw [h2 i y]; simp
    · simp [y]
  · rw [Nat.testBit_two_pow_mul_add _ (show 2 ^ k - 1 < 2 ^ (k + 1) by omega), if_neg z]
    conv => lhs; lhs; rw [← hd, Nat.testBit_two_pow_mul_add _ hs, if_neg z]
    rw [Nat.testBit_two_pow_sub_one]
    cases (X / 2 ^ (k + 1)).testBit (i - (k + 1)) <;> simp <;> omega
theorem bv_nat {a : Nat} (h : a < 4294967296) : (nI a).toBitVec.toNat = a := pk_tn h
