theorem bit_lt {S n i : Nat} (h : S < 2 ^ n) (hb : S.testBit i = true) : i < n := by
  rcases Nat.lt_or_ge i n with z | z
  · exact z
  · rw [bit_of_lt h z] at hb; cases hb
set_option maxHeartbeats 8000000 in
set_option maxRecDepth 100000 in
theorem c_L_bits (l : Launch) (Γ : kG) (H0 : Heap) (S0 : Nat) (hS0 : S0 < 16384) : RO l yL_bits (wsq yL_bits cL_bits 3 (some .int)) (rmL 1) Γ H0 [.int (nI S0)] (nI (pc S0)) := by
  refine ro_ofi (cc := cL_bits) (maxL := 3) (by decide +kernel) (Nat.le_of_ble_eq_true rfl) rfl ?_
  intro p ev R st mi args below meth cd Q ls C0 hR hret hh hS hl
  obtain ⟨hx, hb, hr, hml, hown, hts, hlk, hK, hnm⟩ := C0
  have hown : st.vm.findClass RL = some mi.cls := hown
  refine lv_iconst (v := (nI 0)) hx hb dL_bits_0 (by decide) ?_
  refine lv_istore_n (lv' := [(1, .int (nI 0)), (0, .int (nI S0))]) hx hb dL_bits_1 rfl hl (by decide) rfl (fun ls hl => ?_)
  refine lv_iconst (v := (nI 0)) hx hb dL_bits_2 (by decide) ?_
  refine lv_istore_n (lv' := [(2, .int (nI 0)), (1, .int (nI 0)), (0, .int (nI S0))]) hx hb dL_bits_3 rfl hl (by decide) rfl (fun ls hl => ?_)
  have LP4 : ∀ (fu : Nat) (k1 : Nat) (hk1 : k1 ≤ 14), (14 - k1) < fu → ∀ (locs : List Loc), va_S (fun _ => False) H0 H0 locs → ∀ (ls : Array Slot), lv_has ls 3 [(2, .int (nI k1)), (1, .int (nI (pcn S0 k1))), (0, .int (nI S0))] → W p l ev R st mi args below meth cd H0 locs 0 0 Q (F0 mi 4 ls []) := by
    intro fu
    induction fu with
    | zero => intro k1 hk1 hfu; exact absurd hfu (Nat.not_lt_zero _)
    | succ fu ih4 =>
      intro k1 hk1 hfu locs hS ls hl
      refine lv_iload_n hx hb dL_bits_4 rfl (lv_at hl 0 rfl) ?_
      refine lv_bipush (v := (nI 14)) hx hb dL_bits_5 (by decide) ?_
      refine nb_icmp_ge (tgt := 24) hx hb (by first | omega | assumption) (by first | omega | assumption) dL_bits_7 (by decide) (fun c_7 => ?_) (fun c_7 => ?_)
      · skip
        have he9 : 14 = k1 := by omega
        subst he9
        refine lv_iload_n hx hb dL_bits_24 rfl (lv_at hl 1 rfl) ?_
        exact hret hS (rfl) dL_bits_25
      · skip
        refine lv_iload_n hx hb dL_bits_10 rfl (lv_at hl 1 rfl) ?_
        refine lv_iload_n hx hb dL_bits_11 rfl (lv_at hl 2 rfl) ?_
        refine lv_iload_n hx hb dL_bits_12 rfl (lv_at hl 0 rfl) ?_
        refine lv_ishr hx hb dL_bits_13 ?_
        refine tp_i (y := (nI (S0 >>> k1))) (ni_shr (by omega) (by omega)) ?_
        refine lv_iconst (v := (nI 1)) hx hb dL_bits_14 (by decide) ?_
        refine lv_iand hx hb dL_bits_15 ?_
        refine tp_i (y := (nI ((Nat.testBit S0 k1).toNat))) (ni_bit _ _) ?_
        refine lv_iadd hx hb dL_bits_16 ?_
        refine tp_i (y := (nI ((pcn S0 k1) + ((Nat.testBit S0 k1).toNat)))) (nI_add _ _) ?_
        refine tp_i (y := (nI (pcn S0 (k1 + 1)))) (rfl) ?_
        refine lv_istore_n (lv' := [(1, .int (nI (pcn S0 (k1 + 1)))), (2, .int (nI k1)), (0, .int (nI S0))]) hx hb dL_bits_17 rfl hl (by decide) rfl (fun ls hl => ?_)
        refine lv_iinc (v := (nI (k1 + 1))) (lv' := [(2, .int (nI (k1 + 1))), (1, .int (nI (pcn S0 (k1 + 1)))), (0, .int (nI S0))]) hx hb dL_bits_18 hl (k := 1) rfl (nI_1 _) (by decide) rfl (fun ls hl => ?_)
        refine lv_goto (tgt := 4) hx hb dL_bits_21 (by decide) ?_
        exact ih4 (k1 + 1) (by first | omega | assumption) (by omega) _ hS ls (lv_cast (lv_sub hl [0, 1, 2] rfl) (by rfl))
  exact LP4 ((14 - 0) + 1) 0 (by first | omega | assumption) (Nat.lt_succ_self _) _ hS ls (lv_cast (lv_sub hl [0, 1, 2] rfl) (by rfl))
set_option maxHeartbeats 8000000 in
set_option maxRecDepth 100000 in
theorem c_L_least (l : Launch) (Γ : kG) (H0 : Heap) (S0 : Nat) (hS0 : S0 < 2 ^ 16) : RO l yL_least (wsq yL_least cL_least 2 (some .int)) (rmL 1) Γ H0 [.int (nI S0)] (nI (mex S0)) := by
  refine ro_ofi (cc := cL_least) (maxL := 2) (by decide +kernel) (Nat.le_of_ble_eq_true rfl) rfl ?_
  intro p ev R st mi args below meth cd Q ls C0 hR hret hh hS hl
  obtain ⟨hx, hb, hr, hml, hown, hts, hlk, hK, hnm⟩ := C0
  have hown : st.vm.findClass RL = some mi.cls := hown
  have hS1 : S0 < 2147483648 := Nat.lt_of_lt_of_le hS0 (by decide)
  have hS2 : S0 < 2 ^ 32 := Nat.lt_of_lt_of_le hS0 (by decide)
  refine lv_iconst (v := (nI 0)) hx hb dL_least_0 (by decide) ?_
  refine lv_istore_n (lv' := [(1, .int (nI 0)), (0, .int (nI S0))]) hx hb dL_least_1 rfl hl (by decide) rfl (fun ls hl => ?_)
  have LP2 : ∀ (fu : Nat) (k1 : Nat) (hk1 : k1 ≤ 16) (hs1 : ∀ i, i < k1 → S0.testBit i = true), (17 - k1) < fu → ∀ (locs : List Loc), va_S (fun _ => False) H0 H0 locs → ∀ (ls : Array Slot), lv_has ls 2 [(1, .int (nI k1)), (0, .int (nI S0))] → W p l ev R st mi args below meth cd H0 locs 0 0 Q (F0 mi 2 ls []) := by
    intro fu
    induction fu with
    | zero => intro k1 hk1 hs1 hfu; exact absurd hfu (Nat.not_lt_zero _)
    | succ fu ih2 =>
      intro k1 hk1 hs1 hfu locs hS ls hl
      refine lv_iload_n hx hb dL_least_2 rfl (lv_at hl 1 rfl) ?_
      refine lv_iload_n hx hb dL_least_3 rfl (lv_at hl 0 rfl) ?_
      refine lv_ishr hx hb dL_least_4 ?_
      refine tp_i (y := (nI (S0 >>> k1))) (ni_shr (by omega) hS1) ?_
      refine lv_iconst (v := (nI 1)) hx hb dL_least_5 (by decide) ?_
      refine lv_iand hx hb dL_least_6 ?_
      refine tp_i (y := (nI ((Nat.testBit S0 k1).toNat))) (ni_bit _ _) ?_
      refine lv_iconst (v := (nI 1)) hx hb dL_least_7 (by decide) ?_
      refine nb_icmp_ne (tgt := 17) hx hb (tn_lt _) (by omega) dL_least_8 (by decide) (fun c_8 => ?_) (fun c_8 => ?_)
      · skip
        have hb9 : S0.testBit k1 = false := ts_f (fun q9 => c_8 (tn_1.mpr q9))
        refine lv_iload_n hx hb dL_least_17 rfl (lv_at hl 0 rfl) ?_
        exact hret hS (by rw [mex_eq hS2 hb9 hs1]) dL_least_18
      · skip
        have hb9 : S0.testBit k1 = true := tn_1.mp c_8
        refine lv_iinc (v := (nI (k1 + 1))) (lv' := [(1, .int (nI (k1 + 1))), (0, .int (nI S0))]) hx hb dL_least_11 hl (k := 0) rfl (nI_1 _) (by decide) rfl (fun ls hl => ?_)
        refine lv_goto (tgt := 2) hx hb dL_least_14 (by decide) ?_
        exact ih2 (k1 + 1) (by have h9 : k1 < 16 := bit_lt hS0 hb9; omega) (fun i9 h9 => if e9 : i9 = k1 then e9 ▸ hb9 else hs1 i9 (by omega)) (by have h9 : k1 < 16 := bit_lt hS0 hb9; omega) _ hS ls (lv_sub hl [0, 1] rfl)
  exact LP2 ((17 - 0) + 1) 0 (by first | omega | assumption) (fun i9 h9 => absurd h9 (Nat.not_lt_zero _)) (Nat.lt_succ_self _) _ hS ls (lv_sub hl [0, 1] rfl)
/-! the script's cells -/
def celI (xs : Nat → Int32) (L k : Nat) : Int32 := if k < L then xs k else nI 45307 * nI (k % 4096) + nI 263
def celN (xs : Nat → Int32) (L k : Nat) : Nat := (celI xs L k).toBitVec.toNat % 2147483648
theorem celN_lt (xs : Nat → Int32) (L k : Nat) : celN xs L k < 2147483648 := Nat.mod_lt _ (by decide)
theorem and_31 (x : Int32) : x &&& nI 2147483647 = nI (x.toBitVec.toNat % 2147483648) := by
  apply nI_bv
  rw [Int32.toBitVec_and, bv_nI, bv_nI]
  apply BitVec.eq_of_toNat_eq
  rw [BitVec.toNat_and, BitVec.toNat_ofNat, BitVec.toNat_ofNat, show 2147483647 % 2 ^ 32 = 2 ^ 31 - 1 by decide, Nat.and_two_pow_sub_one_eq_mod]
  rw [Nat.mod_eq_of_lt (a := x.toBitVec.toNat % 2147483648) (Nat.lt_of_lt_of_le (Nat.mod_lt _ (by decide)) (by decide))]
def kPs (Γ : kG) (b L : Nat) (xs : Nat → Int32) (k : Nat) : Array Value → State → Prop := fun v U => v = ([.ref b, .int (nI k)] : List Value).toArray ∧ va_X b L xs U U.heap ∧ TK Γ U
set_option maxHeartbeats 4000000 in
theorem c_L_cell (l : Launch) (Γ : kG) (b L : Nat) (xs : Nat → Int32) (k : Nat) (hk : k < 2147483648) (hL : L < 2147483648) : Met l yL_cell (wsq yL_cell cL_cell 2 (some .int)) (rmL 1) (kPs Γ b L xs k) (ROQ (nI (celN xs L k))) 0 0 (fun _ => False) := by
  refine va_MetF (cc := cL_cell) (maxL := 2) (ret := some .int) (by decide +kernel) rfl ?_
  intro p e s m args below meth c s₁ B hml hv
  obtain ⟨rfl, hX, hK⟩ := hv
  have hl := lv_entry ([.ref b, .int (nI k)] : List Value) (n := 2) (Nat.le_of_ble_eq_true rfl)
  rw [show lv_args 0 ([.ref b, .int (nI k)] : List Value) = [(0, .ref b), (1, .int (nI k))] from rfl] at hl
  rw [lg_entry_eq]
  generalize (lg_sl ([.ref b, .int (nI k)] : List Value) ++ List.replicate (2 - (lg_sl ([.ref b, .int (nI k)] : List Value)).length) Slot.unset).toArray = ls at hl ⊢
  have hx := B.exec
  have hb := B.bytes
  have hown : s.vm.findClass RL = some m.cls := findClass_of_methodNamed B.named
  have hts : ∀ w ∈ wsAll, w.before ([.ref b, .int (nI k)] : List Value).toArray s = true := fun w h => atoms_spec (ws := wsq yL_cell cL_cell 2 (some .int)) B.pre w (List.mem_cons_of_mem _ h)
  have hbl : b < s.heap.size := by
    obtain ⟨scr, h1, -⟩ := hX
    exact (Array.getElem?_eq_some_iff.mp h1).1
  have hS : va_S (fun _ => False) s.heap s.heap [] := va_S.rf
  have fin : ∀ x : Int32, x = celI xs L k → W p l e (headSpec (wsq yL_cell cL_cell 2 (some .int)) (rmL 1)).room s m ([.ref b, .int (nI k)] : List Value).toArray below meth c s.heap [] 0 0 (MQ below (ROQ (nI (celN xs L k))) ([.ref b, .int (nI k)] : List Value).toArray s 0 0 (fun _ => False)) (F0 m 24 ls [.int x]) := fun x hxv => by
    refine lv_ldc (v := 2147483647) hx hb hown (hts _ mw_366) dL_cell_24 ?_
    refine tp_i (y := nI 2147483647) (by decide +kernel) ?_
    refine lv_iand hx hb dL_cell_26 ?_
    exact ro_iret hx hb B.returns B.notSynchronized rfl hS (by rw [and_31, hxv, celN]) dL_cell_27
  refine lv_iload_n hx hb dL_cell_0 rfl (lv_at hl 1 rfl) ?_
  refine lv_aload_n hx hb dL_cell_1 rfl (lv_at hl 0 rfl) ?_
  refine va_slen hx hb hX hbl (fun h => h) hS dL_cell_2 ?_
  refine nb_icmp_ge (b := L) (tgt := 12) hx hb hk hL dL_cell_3 (by decide) (fun c_3 => ?_) (fun c_3 => ?_)
  · refine lv_ldc (v := 45307) hx hb hown (hts _ mw_365) dL_cell_12 ?_
    refine tp_i (y := nI 45307) (by decide +kernel) ?_
    refine lv_iload_n hx hb dL_cell_14 rfl (lv_at hl 1 rfl) ?_
    refine lv_sipush (v := nI 4096) hx hb dL_cell_15 (by decide) ?_
    refine lv_irem hx hb dL_cell_18 (nI_ne0 (by omega) (by omega)) ?_
    refine tp_i (y := nI (k % 4096)) (pk_rem hk (by omega) (by omega)) ?_
    refine lv_imul hx hb dL_cell_19 ?_
    refine lv_sipush (v := nI 263) hx hb dL_cell_20 (by decide) ?_
    refine lv_iadd hx hb dL_cell_23 ?_
    exact fin _ (by rw [celI, if_neg (by omega)])
  · refine lv_aload_n hx hb dL_cell_6 rfl (lv_at hl 0 rfl) ?_
    refine lv_iload_n hx hb dL_cell_7 rfl (lv_at hl 1 rfl) ?_
    refine va_sld hx hb hX hbl (fun h => h) hS (vin c_3 hL) dL_cell_8 ?_
    refine lv_goto (tgt := 24) hx hb dL_cell_9 (by decide) ?_
    exact fin _ (by rw [celI, if_pos c_3, nI_clamp hk])

