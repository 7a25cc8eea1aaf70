set_option maxHeartbeats 8000000 in
set_option maxRecDepth 100000 in
theorem c_X1_reach (l : Launch) (Γ : kG) (H0 : Heap) (a : Nat) (e : Nat) (g : Nat → Nat) (r0 : Nat) (W0 : Nat) (hP : va_P Γ.1 vwCl [(a, .inr (1, [.ref e])), (e, .inl (Γ.2 0, 14, .inl (aN g)))] H0) (hg : ∀ i, i < 14 → g i < 16384) (hr0 : r0 < 14) (hW0 : W0 < 16384) (hrW : W0.testBit r0 = true) : RO l yX1_reach (wsq yX1_reach cX1_reach 8 (some .int)) (rmL 3) Γ H0 [.ref a, .int (nI r0), .int (nI W0)] (nI (comp g W0 r0)) := by
  refine ro_ofi (cc := cX1_reach) (maxL := 8) (by decide +kernel) (Nat.le_of_ble_eq_true rfl) rfl ?_
  intro p ev R st mi args below meth cd Q ls C0 hR hret hh hS hl
  obtain ⟨hx, hb, hr, hml, hown, hts, hlk, hK, hnm⟩ := C0
  have hown : st.vm.findClass RX1 = some mi.cls := hown
  refine lv_iload_n hx hb dX1_reach_0 rfl (lv_at hl 1 rfl) ?_
  refine ro_fin (va_runSN (As := [.int (nI r0)]) (rest := []) ⟨hx, hb, hml, hown, hts⟩ (c_X6_bit l Γ H0 r0 (by first | omega | assumption)) (kcwSN 1 hts kv_X6_bit (hK.nw _ (nwL_at 55 rfl)) (rm_le hR (Nat.le_of_ble_eq_true rfl) (Nat.le_of_ble_eq_true rfl))) (kPc_S hK) rfl rfl hl.1 rfl (lv_room (Nat.le_of_ble_eq_true rfl)) dX1_reach_1 ⟨Nat.zero_le _, Nat.zero_le _⟩) hS (fun locs hS => ?_)
  refine lv_iload_n hx hb dX1_reach_4 rfl (lv_at hl 2 rfl) ?_
  refine lv_iand hx hb dX1_reach_5 ?_
  refine tp_i (y := (nI ((2 ^ r0) &&& W0))) (ni_and _ _) ?_
  refine lv_istore_n (lv' := [(3, .int (nI ((2 ^ r0) &&& W0))), (0, .ref a), (1, .int (nI r0)), (2, .int (nI W0))]) hx hb dX1_reach_6 rfl hl (by decide) rfl (fun ls hl => ?_)
  refine lv_iload_n hx hb dX1_reach_7 rfl (lv_at hl 0 rfl) ?_
  refine lv_istore (lv' := [(4, .int (nI ((2 ^ r0) &&& W0))), (3, .int (nI ((2 ^ r0) &&& W0))), (0, .ref a), (1, .int (nI r0)), (2, .int (nI W0))]) hx hb dX1_reach_8 hl (by decide) rfl (fun ls hl => ?_)
  refine lv_iconst (v := (nI 0)) hx hb dX1_reach_10 (by decide) ?_
  refine lv_istore (lv' := [(5, .int (nI 0)), (4, .int (nI ((2 ^ r0) &&& W0))), (3, .int (nI ((2 ^ r0) &&& W0))), (0, .ref a), (1, .int (nI r0)), (2, .int (nI W0))]) hx hb dX1_reach_11 hl (by decide) rfl (fun ls hl => ?_)
  have LP13 : ∀ (fu : Nat) (t0 : Nat) (X0 : Nat) (F1 : Nat) (hi0 : RInv g W0 r0 X0 F1 t0) (ht0 : t0 ≤ 14), (14 - t0) < fu → ∀ (locs : List Loc), va_S (fun _ => False) H0 H0 locs → ∀ (ls : Array Slot), lv_has ls 8 [(5, .int (nI t0)), (4, .int (nI F1)), (3, .int (nI X0)), (0, .ref a), (1, .int (nI r0)), (2, .int (nI W0))] → W p l ev R st mi args below meth cd H0 locs 0 0 Q (F0 mi 13 ls []) := by
    intro fu
    induction fu with
    | zero => intro t0 X0 F1 hi0 ht0 hfu; exact absurd hfu (Nat.not_lt_zero _)
    | succ fu ih13 =>
      intro t0 X0 F1 hi0 ht0 hfu locs hS ls hl
      refine lv_iload hx hb dX1_reach_13 (lv_at hl 0 rfl) ?_
      refine lv_bipush (v := (nI 14)) hx hb dX1_reach_15 (by decide) ?_
      refine nb_icmp_ge (tgt := 72) hx hb (by first | omega | assumption) (by first | omega | assumption) dX1_reach_17 (by decide) (fun c_17 => ?_) (fun c_17 => ?_)
      · skip
        obtain rfl : t0 = 14 := by omega
        obtain rfl := RInv_F hi0
        refine lv_iload_n hx hb dX1_reach_72 rfl (lv_at hl 2 rfl) ?_
        exact hret hS (by rw [RInv_x hi0]) dX1_reach_73
      · skip
        refine lv_iload hx hb dX1_reach_20 (lv_at hl 1 rfl) ?_
        refine nb_if_eq (tgt := 72) hx hb (Nat.lt_trans hi0.2.1 (by decide)) dX1_reach_22 (by decide) (fun c_22 => ?_) (fun c_22 => ?_)
        · skip
          obtain rfl := c_22
          refine lv_iload_n hx hb dX1_reach_72 rfl (lv_at hl 2 rfl) ?_
          exact hret hS (by rw [RInv_x hi0]) dX1_reach_73
        · skip
          obtain ⟨hl0, hl1, hl2⟩ := low_spec hi0.2.1 c_22
          refine lv_iload hx hb dX1_reach_25 (lv_at hl 1 rfl) ?_
          refine ro_fin (va_runS (As := [.int (nI F1)]) (rest := []) ⟨hx, hb, hml, hown, hts⟩ (c_J6_numberOfTrailingZeros_0f7a4 l Γ H0 (nI F1) (low F1) (by omega) (ntz_low hi0.2.1 c_22)) (kcwS 1 hts kv_J6_numberOfTrailingZeros_0f7a4 mw_74 (rm_le hR (Nat.le_of_ble_eq_true rfl) (Nat.le_of_ble_eq_true rfl))) (kPc_S hK) rfl rfl hl.1 rfl (lv_room (Nat.le_of_ble_eq_true rfl)) dX1_reach_27 ⟨Nat.zero_le _, Nat.zero_le _⟩) hS (fun locs hS => ?_)
          refine lv_istore (lv' := [(6, .int (nI (low F1))), (5, .int (nI t0)), (4, .int (nI F1)), (3, .int (nI X0)), (0, .ref a), (1, .int (nI r0)), (2, .int (nI W0))]) hx hb dX1_reach_30 hl (by decide) rfl (fun ls hl => ?_)
          refine lv_aload_n hx hb dX1_reach_32 rfl (lv_at hl 4 rfl) ?_
          refine lv_iload hx hb dX1_reach_33 (lv_at hl 0 rfl) ?_
          refine ro_fin (va_runV (As := [.int (nI (low F1))]) (rest := []) ⟨hx, hb, hml, hown, hts⟩ (c_X1_around l Γ H0 a e g (low F1) (hP.sub (ws' := [(a, .inr (1, [.ref e])), (e, .inl (Γ.2 0, 14, .inl (aN g)))]) [0, 1] rfl) (hl0)) (kcwV 1 hts kv_X1_around mw_36 (rm_le hR (Nat.le_of_ble_eq_true rfl) (Nat.le_of_ble_eq_true rfl))) (kPc_V hK (va_recv hK.1 hP (ci := 1) (q0 := 0) rfl rfl)) rfl rfl hl.1 rfl (lv_room (Nat.le_of_ble_eq_true rfl)) dX1_reach_35 ⟨Nat.zero_le _, Nat.zero_le _⟩) hS (fun locs hS => ?_)
          refine lv_iload_n hx hb dX1_reach_38 rfl (lv_at hl 6 rfl) ?_
          refine lv_iand hx hb dX1_reach_39 ?_
          refine tp_i (y := (nI ((g (low F1)) &&& W0))) (ni_and _ _) ?_
          refine lv_iload_n hx hb dX1_reach_40 rfl (lv_at hl 3 rfl) ?_
          refine lv_iconst (v := (-1)) hx hb dX1_reach_41 (by decide) ?_
          refine lv_ixor hx hb dX1_reach_42 ?_
          refine lv_iand hx hb dX1_reach_43 ?_
          refine tp_i (y := (nI (sd ((g (low F1)) &&& W0) X0))) (ni_sd _ _) ?_
          refine lv_istore (lv' := [(7, .int (nI (sd ((g (low F1)) &&& W0) X0))), (6, .int (nI (low F1))), (5, .int (nI t0)), (4, .int (nI F1)), (3, .int (nI X0)), (0, .ref a), (1, .int (nI r0)), (2, .int (nI W0))]) hx hb dX1_reach_44 hl (by decide) rfl (fun ls hl => ?_)
          refine lv_iload_n hx hb dX1_reach_46 rfl (lv_at hl 4 rfl) ?_
          refine lv_iload hx hb dX1_reach_47 (lv_at hl 0 rfl) ?_
          refine lv_ior hx hb dX1_reach_49 ?_
          refine tp_i (y := (nI (X0 ||| (sd ((g (low F1)) &&& W0) X0)))) (ni_or _ _) ?_
          refine lv_istore_n (lv' := [(3, .int (nI (X0 ||| (sd ((g (low F1)) &&& W0) X0)))), (7, .int (nI (sd ((g (low F1)) &&& W0) X0))), (6, .int (nI (low F1))), (5, .int (nI t0)), (4, .int (nI F1)), (0, .ref a), (1, .int (nI r0)), (2, .int (nI W0))]) hx hb dX1_reach_50 rfl hl (by decide) rfl (fun ls hl => ?_)
          refine lv_iload hx hb dX1_reach_51 (lv_at hl 4 rfl) ?_
          refine lv_iload hx hb dX1_reach_53 (lv_at hl 1 rfl) ?_
          refine lv_ior hx hb dX1_reach_55 ?_
          refine tp_i (y := (nI (F1 ||| (sd ((g (low F1)) &&& W0) X0)))) (ni_or _ _) ?_
          refine lv_iload hx hb dX1_reach_56 (lv_at hl 2 rfl) ?_
          refine ro_fin (va_runSN (As := [.int (nI (low F1))]) (rest := [.int (nI (F1 ||| (sd ((g (low F1)) &&& W0) X0)))]) ⟨hx, hb, hml, hown, hts⟩ (c_X6_bit l Γ H0 (low F1) (hl0)) (kcwSN 1 hts kv_X6_bit (hK.nw _ (nwL_at 55 rfl)) (rm_le hR (Nat.le_of_ble_eq_true rfl) (Nat.le_of_ble_eq_true rfl))) (kPc_S hK) rfl rfl hl.1 rfl (lv_room (Nat.le_of_ble_eq_true rfl)) dX1_reach_58 ⟨Nat.zero_le _, Nat.zero_le _⟩) hS (fun locs hS => ?_)
          refine lv_iconst (v := (-1)) hx hb dX1_reach_61 (by decide) ?_
          refine lv_ixor hx hb dX1_reach_62 ?_
          refine lv_iand hx hb dX1_reach_63 ?_
          refine tp_i (y := (nI (sd (F1 ||| (sd ((g (low F1)) &&& W0) X0)) (2 ^ (low F1))))) (ni_sd _ _) ?_
          refine lv_istore (lv' := [(4, .int (nI (sd (F1 ||| (sd ((g (low F1)) &&& W0) X0)) (2 ^ (low F1))))), (3, .int (nI (X0 ||| (sd ((g (low F1)) &&& W0) X0)))), (7, .int (nI (sd ((g (low F1)) &&& W0) X0))), (6, .int (nI (low F1))), (5, .int (nI t0)), (0, .ref a), (1, .int (nI r0)), (2, .int (nI W0))]) hx hb dX1_reach_64 hl (by decide) rfl (fun ls hl => ?_)
          refine lv_iinc (v := (nI (t0 + 1))) (lv' := [(5, .int (nI (t0 + 1))), (4, .int (nI (sd (F1 ||| (sd ((g (low F1)) &&& W0) X0)) (2 ^ (low F1))))), (3, .int (nI (X0 ||| (sd ((g (low F1)) &&& W0) X0)))), (7, .int (nI (sd ((g (low F1)) &&& W0) X0))), (6, .int (nI (low F1))), (0, .ref a), (1, .int (nI r0)), (2, .int (nI W0))]) hx hb dX1_reach_66 hl (k := 4) rfl (nI_1 _) (by decide) rfl (fun ls hl => ?_)
          refine lv_goto (tgt := 13) hx hb dX1_reach_69 (by decide) ?_
          exact ih13 (t0 + 1) (X0 ||| sd (g (low F1) &&& W0) X0) (sd (F1 ||| sd (g (low F1) &&& W0) X0) (2 ^ low F1)) (RInv_s hg hi0 c_22) (by omega) (by omega) _ hS ls (lv_sub hl [0, 1, 2, 5, 6, 7] rfl)
  exact LP13 ((14 - 0) + 1) 0 (2 ^ r0 &&& W0) (2 ^ r0 &&& W0) (RInv_0 hr0 hrW) (by first | omega | assumption) (Nat.lt_succ_self _) _ hS ls (lv_sub hl [0, 1, 2, 3, 4, 5] rfl)
set_option maxHeartbeats 8000000 in
set_option maxRecDepth 100000 in
theorem c_J6_bitCount_0f7a4 (l : Launch) (Γ : kG) (H0 : Heap) (S0 : Nat) (hS0 : S0 < 16384) : RO l yJ6_bitCount_0f7a4 (wsq yJ6_bitCount_0f7a4 cJ6_bitCount_0f7a4 1 (some .int)) (rmL 1) Γ H0 [.int (nI S0)] (nI (pc S0)) := by
  refine ro_ofi (cc := cJ6_bitCount_0f7a4) (maxL := 1) (by decide +kernel) (Nat.le_of_ble_eq_true rfl) rfl ?_
  intro p ev R st mi args below meth cd Q ls C0 hR hret hh hS hl
  obtain ⟨hx, hb, hr, hml, hown, hts, hlk, hK, hnm⟩ := C0
  have hown : st.vm.findClass RJ6 = some mi.cls := hown
  refine lv_iload_n hx hb dJ6_bitCount_0f7a4_0 rfl (lv_at hl 0 rfl) ?_
  refine lv_iload_n hx hb dJ6_bitCount_0f7a4_1 rfl (lv_at hl 0 rfl) ?_
  refine lv_iconst (v := (nI 1)) hx hb dJ6_bitCount_0f7a4_2 (by decide) ?_
  refine lv_iushr (v := (nI (S0 / 2 ^ 1))) hx hb dJ6_bitCount_0f7a4_3 (ni_ushr (by omega) (by omega)) ?_
  refine lv_ldcw (v := 1431655765) hx hb hown (hts _ mw_52) dJ6_bitCount_0f7a4_4 ?_
  refine tp_i (y := nI 1431655765) (by decide +kernel) ?_
  refine lv_iand hx hb dJ6_bitCount_0f7a4_7 ?_
  refine tp_i (y := (nI ((S0 / 2 ^ 1) &&& 1431655765))) (ni_and _ _) ?_
  obtain ⟨b1, hb1⟩ : ∃ v : Nat, v = bc1 S0 := ⟨_, rfl⟩
  have hb1L : b1 ≤ 16383 := by rw [hb1, bc1]; omega
  refine lv_isub hx hb dJ6_bitCount_0f7a4_8 ?_
  refine tp_i (y := (nI (S0 - ((S0 / 2 ^ 1) &&& 1431655765)))) (ni_sub (Nat.le_trans Nat.and_le_left (Nat.div_le_self _ _))) ?_
  refine tp_i (y := (nI b1)) (by rw [hb1]; rfl) ?_
  refine lv_istore_n (lv' := [(0, .int (nI b1))]) hx hb dJ6_bitCount_0f7a4_9 rfl hl (by decide) rfl (fun ls hl => ?_)
  refine lv_iload_n hx hb dJ6_bitCount_0f7a4_10 rfl (lv_at hl 0 rfl) ?_
  refine lv_ldcw (v := 858993459) hx hb hown (hts _ mw_53) dJ6_bitCount_0f7a4_11 ?_
  refine tp_i (y := nI 858993459) (by decide +kernel) ?_
  refine lv_iand hx hb dJ6_bitCount_0f7a4_14 ?_
  refine tp_i (y := (nI (b1 &&& 858993459))) (ni_and _ _) ?_
  refine lv_iload_n hx hb dJ6_bitCount_0f7a4_15 rfl (lv_at hl 0 rfl) ?_
  refine lv_iconst (v := (nI 2)) hx hb dJ6_bitCount_0f7a4_16 (by decide) ?_
  refine lv_iushr (v := (nI (b1 / 2 ^ 2))) hx hb dJ6_bitCount_0f7a4_17 (ni_ushr (by omega) (by omega)) ?_
  refine lv_ldcw (v := 858993459) hx hb hown (hts _ mw_53) dJ6_bitCount_0f7a4_18 ?_
  refine tp_i (y := nI 858993459) (by decide +kernel) ?_
  refine lv_iand hx hb dJ6_bitCount_0f7a4_21 ?_
  refine tp_i (y := (nI ((b1 / 2 ^ 2) &&& 858993459))) (ni_and _ _) ?_
  obtain ⟨b2, hb2⟩ : ∃ v : Nat, v = bc2 b1 := ⟨_, rfl⟩
  have hb2L : b2 ≤ 32766 := by
    rw [hb2, bc2]
    have z1 := @Nat.and_le_left b1 858993459
    have z2 := @Nat.and_le_left (b1 / 2 ^ 2) 858993459
    omega
  refine lv_iadd hx hb dJ6_bitCount_0f7a4_22 ?_
  refine tp_i (y := (nI ((b1 &&& 858993459) + ((b1 / 2 ^ 2) &&& 858993459)))) (nI_add _ _) ?_
  refine tp_i (y := (nI b2)) (by rw [hb2]; rfl) ?_
  refine lv_istore_n (lv' := [(0, .int (nI b2))]) hx hb dJ6_bitCount_0f7a4_23 rfl hl (by decide) rfl (fun ls hl => ?_)
  refine lv_iload_n hx hb dJ6_bitCount_0f7a4_24 rfl (lv_at hl 0 rfl) ?_
  refine lv_iload_n hx hb dJ6_bitCount_0f7a4_25 rfl (lv_at hl 0 rfl) ?_
  refine lv_iconst (v := (nI 4)) hx hb dJ6_bitCount_0f7a4_26 (by decide) ?_
  refine lv_iushr (v := (nI (b2 / 2 ^ 4))) hx hb dJ6_bitCount_0f7a4_27 (ni_ushr (by omega) (by omega)) ?_
  refine lv_iadd hx hb dJ6_bitCount_0f7a4_28 ?_
  refine tp_i (y := (nI (b2 + (b2 / 2 ^ 4)))) (nI_add _ _) ?_
  refine lv_ldcw (v := 252645135) hx hb hown (hts _ mw_54) dJ6_bitCount_0f7a4_29 ?_
  refine tp_i (y := nI 252645135) (by decide +kernel) ?_
  obtain ⟨b3, hb3⟩ : ∃ v : Nat, v = bc3 b2 := ⟨_, rfl⟩
  have hb3L : b3 ≤ 65535 := by
    rw [hb3, bc3]
    have z1 := @Nat.and_le_left (b2 + b2 / 2 ^ 4) 252645135
    omega
  refine lv_iand hx hb dJ6_bitCount_0f7a4_32 ?_
  refine tp_i (y := (nI ((b2 + (b2 / 2 ^ 4)) &&& 252645135))) (ni_and _ _) ?_
  refine tp_i (y := (nI b3)) (by rw [hb3]; rfl) ?_
  refine lv_istore_n (lv' := [(0, .int (nI b3))]) hx hb dJ6_bitCount_0f7a4_33 rfl hl (by decide) rfl (fun ls hl => ?_)
  refine lv_iload_n hx hb dJ6_bitCount_0f7a4_34 rfl (lv_at hl 0 rfl) ?_
  refine lv_iload_n hx hb dJ6_bitCount_0f7a4_35 rfl (lv_at hl 0 rfl) ?_
  refine lv_bipush (v := (nI 8)) hx hb dJ6_bitCount_0f7a4_36 (by decide) ?_
  refine lv_iushr (v := (nI (b3 / 2 ^ 8))) hx hb dJ6_bitCount_0f7a4_38 (ni_ushr (by omega) (by omega)) ?_
  obtain ⟨b4, hb4⟩ : ∃ v : Nat, v = bc4 b3 := ⟨_, rfl⟩
  have hb4L : b4 ≤ 131070 := by
    rw [hb4, bc4]
    omega
  refine lv_iadd hx hb dJ6_bitCount_0f7a4_39 ?_
  refine tp_i (y := (nI (b3 + (b3 / 2 ^ 8)))) (nI_add _ _) ?_
  refine tp_i (y := (nI b4)) (by rw [hb4]; rfl) ?_
  refine lv_istore_n (lv' := [(0, .int (nI b4))]) hx hb dJ6_bitCount_0f7a4_40 rfl hl (by decide) rfl (fun ls hl => ?_)
  refine lv_iload_n hx hb dJ6_bitCount_0f7a4_41 rfl (lv_at hl 0 rfl) ?_
  refine lv_iload_n hx hb dJ6_bitCount_0f7a4_42 rfl (lv_at hl 0 rfl) ?_
  refine lv_bipush (v := (nI 16)) hx hb dJ6_bitCount_0f7a4_43 (by decide) ?_
  refine lv_iushr (v := (nI (b4 / 2 ^ 16))) hx hb dJ6_bitCount_0f7a4_45 (ni_ushr (by omega) (by omega)) ?_
  obtain ⟨b5, hb5⟩ : ∃ v : Nat, v = bc5 b4 := ⟨_, rfl⟩
  
  refine lv_iadd hx hb dJ6_bitCount_0f7a4_46 ?_
  refine tp_i (y := (nI (b4 + (b4 / 2 ^ 16)))) (nI_add _ _) ?_
  refine tp_i (y := (nI b5)) (by rw [hb5]; rfl) ?_
  refine lv_istore_n (lv' := [(0, .int (nI b5))]) hx hb dJ6_bitCount_0f7a4_47 rfl hl (by decide) rfl (fun ls hl => ?_)
  refine lv_iload_n hx hb dJ6_bitCount_0f7a4_48 rfl (lv_at hl 0 rfl) ?_
  refine lv_bipush (v := (nI 63)) hx hb dJ6_bitCount_0f7a4_49 (by decide) ?_
  refine lv_iand hx hb dJ6_bitCount_0f7a4_51 ?_
  refine tp_i (y := (nI (b5 &&& 63))) (ni_and _ _) ?_
  exact hret hS (by rw [hb5, hb4, hb3, hb2, hb1]; exact congrArg nI (bc_ok hS0)) dJ6_bitCount_0f7a4_52
set_option maxHeartbeats 8000000 in
set_option maxRecDepth 100000 in
theorem c_J6_numberOfLeadingZeros_0f7a4 (l : Launch) (Γ : kG) (H0 : Heap) (a0 : Nat) (k0 : Nat) (hk0 : k0 < 31) (h1 : 2 ^ k0 ≤ a0) (h2 : a0 < 2 ^ (k0 + 1)) : RO l yJ6_numberOfLeadingZeros_0f7a4 (wsq yJ6_numberOfLeadingZeros_0f7a4 cJ6_numberOfLeadingZeros_0f7a4 2 (some .int)) (rmL 1) Γ H0 [.int (nI a0)] (nI (31 - k0)) := by
  refine ro_ofi (cc := cJ6_numberOfLeadingZeros_0f7a4) (maxL := 2) (by decide +kernel) (Nat.le_of_ble_eq_true rfl) rfl ?_
  intro p ev R st mi args below meth cd Q ls C0 hR hret hh hS hl
  obtain ⟨hx, hb, hr, hml, hown, hts, hlk, hK, hnm⟩ := C0
  have hown : st.vm.findClass RJ6 = some mi.cls := hown
  refine lv_iload_n hx hb dJ6_numberOfLeadingZeros_0f7a4_0 rfl (lv_at hl 0 rfl) ?_
  refine nb_if_gt (tgt := 15) hx hb (lz31 h2 hk0) dJ6_numberOfLeadingZeros_0f7a4_1 (by decide) (fun c_1 => ?_) (fun c_1 => by exfalso; rw [c_1] at h1; exact absurd h1 (Nat.not_le.mpr (Nat.pow_pos (by omega))))
  refine lv_bipush (v := (nI 31)) hx hb dJ6_numberOfLeadingZeros_0f7a4_15 (by decide) ?_
  refine lv_istore_n (lv' := [(1, .int (nI 31)), (0, .int (nI a0))]) hx hb dJ6_numberOfLeadingZeros_0f7a4_17 rfl hl (by decide) rfl (fun ls hl => ?_)
  refine lv_iload_n hx hb dJ6_numberOfLeadingZeros_0f7a4_18 rfl (lv_at hl 1 rfl) ?_
  refine lv_ldcw (v := 65536) hx hb hown (hts _ mw_72) dJ6_numberOfLeadingZeros_0f7a4_19 ?_
  refine tp_i (y := nI 65536) (by decide +kernel) ?_
  have CT33 : ∀ (x0 : Nat) (n0 : Nat) (q0 : Nat) (hq1 : 2 ^ q0 ≤ x0) (hq2 : x0 < 2 ^ (q0 + 1)) (hq : q0 ≤ 15) (hn : n0 + k0 = 31 + q0), ∀ (locs : List Loc), va_S (fun _ => False) H0 H0 locs → ∀ (ls : Array Slot), lv_has ls 2 [(1, .int (nI n0)), (0, .int (nI x0))] → W p l ev R st mi args below meth cd H0 locs 0 0 Q (F0 mi 33 ls []) := by
    intro x0 n0 q0 hq1 hq2 hq hn locs hS ls hl
    have CT73 : ∀ (x0 : Nat) (n0 : Nat) (q0 : Nat) (hq1 : 2 ^ q0 ≤ x0) (hq2 : x0 < 2 ^ (q0 + 1)) (hq : q0 ≤ 1) (hn : n0 + k0 = 31 + q0), ∀ (locs : List Loc), va_S (fun _ => False) H0 H0 locs → ∀ (ls : Array Slot), lv_has ls 2 [(1, .int (nI n0)), (0, .int (nI x0))] → W p l ev R st mi args below meth cd H0 locs 0 0 Q (F0 mi 73 ls []) := by
      intro x0 n0 q0 hq1 hq2 hq hn locs hS ls hl
      refine lv_iload_n hx hb dJ6_numberOfLeadingZeros_0f7a4_73 rfl (lv_at hl 0 rfl) ?_
      refine lv_iload_n hx hb dJ6_numberOfLeadingZeros_0f7a4_74 rfl (lv_at hl 1 rfl) ?_
      refine lv_iconst (v := (nI 1)) hx hb dJ6_numberOfLeadingZeros_0f7a4_75 (by decide) ?_
      refine lv_iushr (v := (nI q0)) hx hb dJ6_numberOfLeadingZeros_0f7a4_76 (lz_last hq1 hq2 hq) ?_
      refine lv_isub hx hb dJ6_numberOfLeadingZeros_0f7a4_77 ?_
      refine tp_i (y := (nI (n0 - q0))) (ni_sub (by omega)) ?_
      exact hret hS (by congr 1; omega) dJ6_numberOfLeadingZeros_0f7a4_78
    have CT61 : ∀ (x0 : Nat) (n0 : Nat) (q0 : Nat) (hq1 : 2 ^ q0 ≤ x0) (hq2 : x0 < 2 ^ (q0 + 1)) (hq : q0 ≤ 3) (hn : n0 + k0 = 31 + q0), ∀ (locs : List Loc), va_S (fun _ => False) H0 H0 locs → ∀ (ls : Array Slot), lv_has ls 2 [(1, .int (nI n0)), (0, .int (nI x0))] → W p l ev R st mi args below meth cd H0 locs 0 0 Q (F0 mi 61 ls []) := by
      intro x0 n0 q0 hq1 hq2 hq hn locs hS ls hl
      refine lv_iload_n hx hb dJ6_numberOfLeadingZeros_0f7a4_61 rfl (lv_at hl 1 rfl) ?_
      refine lv_iconst (v := (nI 4)) hx hb dJ6_numberOfLeadingZeros_0f7a4_62 (by decide) ?_
      refine nb_icmp_lt (tgt := 73) hx hb (lz31 hq2 (by omega)) (by omega) dJ6_numberOfLeadingZeros_0f7a4_63 (by decide) (fun c_63 => ?_) (fun c_63 => ?_)
      · skip
        have hz := lz_lt (b := 2) (by decide) c_63 hq1
        exact CT73 x0 n0 q0 (by first | omega | assumption) (by first | omega | assumption) (by first | omega | assumption) (by first | omega | assumption) _ hS ls (lv_sub hl [0, 1] rfl)
      · skip
        have hz := lz_ge (b := 2) (by decide) c_63 hq2
        obtain ⟨w0, hw0⟩ : ∃ w0, q0 = w0 + 2 := ⟨q0 - 2, by omega⟩
        rw [hw0] at hq1 hq2
        refine lv_iinc (v := (nI (n0 - 2))) (lv' := [(1, .int (nI (n0 - 2))), (0, .int (nI x0))]) hx hb dJ6_numberOfLeadingZeros_0f7a4_66 hl (k := 0) rfl (idec_N (by decide) (by omega)) (by decide) rfl (fun ls hl => ?_)
        refine lv_iload_n hx hb dJ6_numberOfLeadingZeros_0f7a4_69 rfl (lv_at hl 1 rfl) ?_
        refine lv_iconst (v := (nI 2)) hx hb dJ6_numberOfLeadingZeros_0f7a4_70 (by decide) ?_
        refine lv_iushr (v := (nI (x0 / 2 ^ 2))) hx hb dJ6_numberOfLeadingZeros_0f7a4_71 (ni_ushr (by omega) (Nat.lt_trans (lz31 hq2 (by omega)) (by decide))) ?_
        refine lv_istore_n (lv' := [(0, .int (nI (x0 / 2 ^ 2))), (1, .int (nI (n0 - 2)))]) hx hb dJ6_numberOfLeadingZeros_0f7a4_72 rfl hl (by decide) rfl (fun ls hl => ?_)
        exact CT73 (x0 / 2 ^ 2) (n0 - 2) w0 (lz_d1 hq1) (lz_d2 hq2) (by first | omega | assumption) (by first | omega | assumption) _ hS ls (lv_sub hl [1, 0] rfl)
    have CT48 : ∀ (x0 : Nat) (n0 : Nat) (q0 : Nat) (hq1 : 2 ^ q0 ≤ x0) (hq2 : x0 < 2 ^ (q0 + 1)) (hq : q0 ≤ 7) (hn : n0 + k0 = 31 + q0), ∀ (locs : List Loc), va_S (fun _ => False) H0 H0 locs → ∀ (ls : Array Slot), lv_has ls 2 [(1, .int (nI n0)), (0, .int (nI x0))] → W p l ev R st mi args below meth cd H0 locs 0 0 Q (F0 mi 48 ls []) := by
      intro x0 n0 q0 hq1 hq2 hq hn locs hS ls hl
      refine lv_iload_n hx hb dJ6_numberOfLeadingZeros_0f7a4_48 rfl (lv_at hl 1 rfl) ?_
      refine lv_bipush (v := (nI 16)) hx hb dJ6_numberOfLeadingZeros_0f7a4_49 (by decide) ?_
      refine nb_icmp_lt (tgt := 61) hx hb (lz31 hq2 (by omega)) (by omega) dJ6_numberOfLeadingZeros_0f7a4_51 (by decide) (fun c_51 => ?_) (fun c_51 => ?_)
      · skip
        have hz := lz_lt (b := 4) (by decide) c_51 hq1
        exact CT61 x0 n0 q0 (by first | omega | assumption) (by first | omega | assumption) (by first | omega | assumption) (by first | omega | assumption) _ hS ls (lv_sub hl [0, 1] rfl)
      · skip
        have hz := lz_ge (b := 4) (by decide) c_51 hq2
        obtain ⟨w0, hw0⟩ : ∃ w0, q0 = w0 + 4 := ⟨q0 - 4, by omega⟩
        rw [hw0] at hq1 hq2
        refine lv_iinc (v := (nI (n0 - 4))) (lv' := [(1, .int (nI (n0 - 4))), (0, .int (nI x0))]) hx hb dJ6_numberOfLeadingZeros_0f7a4_54 hl (k := 0) rfl (idec_N (by decide) (by omega)) (by decide) rfl (fun ls hl => ?_)
        refine lv_iload_n hx hb dJ6_numberOfLeadingZeros_0f7a4_57 rfl (lv_at hl 1 rfl) ?_
        refine lv_iconst (v := (nI 4)) hx hb dJ6_numberOfLeadingZeros_0f7a4_58 (by decide) ?_
        refine lv_iushr (v := (nI (x0 / 2 ^ 4))) hx hb dJ6_numberOfLeadingZeros_0f7a4_59 (ni_ushr (by omega) (Nat.lt_trans (lz31 hq2 (by omega)) (by decide))) ?_
        refine lv_istore_n (lv' := [(0, .int (nI (x0 / 2 ^ 4))), (1, .int (nI (n0 - 4)))]) hx hb dJ6_numberOfLeadingZeros_0f7a4_60 rfl hl (by decide) rfl (fun ls hl => ?_)
        exact CT61 (x0 / 2 ^ 4) (n0 - 4) w0 (lz_d1 hq1) (lz_d2 hq2) (by first | omega | assumption) (by first | omega | assumption) _ hS ls (lv_sub hl [1, 0] rfl)
    refine lv_iload_n hx hb dJ6_numberOfLeadingZeros_0f7a4_33 rfl (lv_at hl 1 rfl) ?_
    refine lv_sipush (v := (nI 256)) hx hb dJ6_numberOfLeadingZeros_0f7a4_34 (by decide) ?_
    refine nb_icmp_lt (tgt := 48) hx hb (lz31 hq2 (by omega)) (by omega) dJ6_numberOfLeadingZeros_0f7a4_37 (by decide) (fun c_37 => ?_) (fun c_37 => ?_)
    · skip
      have hz := lz_lt (b := 8) (by decide) c_37 hq1
      exact CT48 x0 n0 q0 (by first | omega | assumption) (by first | omega | assumption) (by first | omega | assumption) (by first | omega | assumption) _ hS ls (lv_sub hl [0, 1] rfl)
    · skip
      have hz := lz_ge (b := 8) (by decide) c_37 hq2
      obtain ⟨w0, hw0⟩ : ∃ w0, q0 = w0 + 8 := ⟨q0 - 8, by omega⟩
      rw [hw0] at hq1 hq2
      refine lv_iinc (v := (nI (n0 - 8))) (lv' := [(1, .int (nI (n0 - 8))), (0, .int (nI x0))]) hx hb dJ6_numberOfLeadingZeros_0f7a4_40 hl (k := 0) rfl (idec_N (by decide) (by omega)) (by decide) rfl (fun ls hl => ?_)
      refine lv_iload_n hx hb dJ6_numberOfLeadingZeros_0f7a4_43 rfl (lv_at hl 1 rfl) ?_
      refine lv_bipush (v := (nI 8)) hx hb dJ6_numberOfLeadingZeros_0f7a4_44 (by decide) ?_
      refine lv_iushr (v := (nI (x0 / 2 ^ 8))) hx hb dJ6_numberOfLeadingZeros_0f7a4_46 (ni_ushr (by omega) (Nat.lt_trans (lz31 hq2 (by omega)) (by decide))) ?_
      refine lv_istore_n (lv' := [(0, .int (nI (x0 / 2 ^ 8))), (1, .int (nI (n0 - 8)))]) hx hb dJ6_numberOfLeadingZeros_0f7a4_47 rfl hl (by decide) rfl (fun ls hl => ?_)
      exact CT48 (x0 / 2 ^ 8) (n0 - 8) w0 (lz_d1 hq1) (lz_d2 hq2) (by first | omega | assumption) (by first | omega | assumption) _ hS ls (lv_sub hl [1, 0] rfl)
  refine nb_icmp_lt (tgt := 33) hx hb (lz31 h2 hk0) (by omega) dJ6_numberOfLeadingZeros_0f7a4_22 (by decide) (fun c_22 => ?_) (fun c_22 => ?_)
  · skip
    have hz := lz_lt (b := 16) (by decide) c_22 h1
    exact CT33 a0 31 k0 (h1) (h2) (by first | omega | assumption) (by first | omega | assumption) _ hS ls (lv_sub hl [0, 1] rfl)
  · skip
    have hz := lz_ge (b := 16) (by decide) c_22 h2
    obtain ⟨w0, hw0⟩ : ∃ w0, k0 = w0 + 16 := ⟨k0 - 16, by omega⟩
    have h3 := h1
    have h4 := h2
    rw [hw0] at h3 h4
    refine lv_iinc (v := (nI 15)) (lv' := [(1, .int (nI 15)), (0, .int (nI a0))]) hx hb dJ6_numberOfLeadingZeros_0f7a4_25 hl (k := 0) rfl (by decide) (by decide) rfl (fun ls hl => ?_)
    refine lv_iload_n hx hb dJ6_numberOfLeadingZeros_0f7a4_28 rfl (lv_at hl 1 rfl) ?_
    refine lv_bipush (v := (nI 16)) hx hb dJ6_numberOfLeadingZeros_0f7a4_29 (by decide) ?_
    refine lv_iushr (v := (nI (a0 / 2 ^ 16))) hx hb dJ6_numberOfLeadingZeros_0f7a4_31 (ni_ushr (by omega) (Nat.lt_trans (lz31 h2 hk0) (by decide))) ?_
    refine lv_istore_n (lv' := [(0, .int (nI (a0 / 2 ^ 16))), (1, .int (nI 15))]) hx hb dJ6_numberOfLeadingZeros_0f7a4_32 rfl hl (by decide) rfl (fun ls hl => ?_)
    exact CT33 (a0 / 2 ^ 16) 15 w0 (lz_d1 h3) (lz_d2 h4) (by first | omega | assumption) (by first | omega | assumption) _ hS ls (lv_sub hl [1, 0] rfl)
set_option maxHeartbeats 8000000 in
set_option maxRecDepth 100000 in
theorem c_J9_floorMod_7cf53 (l : Launch) (Γ : kG) (H0 : Heap) (x0 : Nat) (y0 : Nat) (hx0 : x0 < 1024) (hy0 : 0 < y0) (hy1 : y0 < 1024) : RO l yJ9_floorMod_7cf53 (wsq yJ9_floorMod_7cf53 cJ9_floorMod_7cf53 3 (some .int)) (rmL 1) Γ H0 [.int (nI x0), .int (nI y0)] (nI (x0 % y0)) := by
  refine ro_ofi (cc := cJ9_floorMod_7cf53) (maxL := 3) (by decide +kernel) (Nat.le_of_ble_eq_true rfl) rfl ?_
  intro p ev R st mi args below meth cd Q ls C0 hR hret hh hS hl
  obtain ⟨hx, hb, hr, hml, hown, hts, hlk, hK, hnm⟩ := C0
  have hown : st.vm.findClass RJ9 = some mi.cls := hown
  refine lv_iload_n hx hb dJ9_floorMod_7cf53_0 rfl (lv_at hl 0 rfl) ?_
  refine lv_iload_n hx hb dJ9_floorMod_7cf53_1 rfl (lv_at hl 1 rfl) ?_
  refine lv_irem hx hb dJ9_floorMod_7cf53_2 (nI_ne0 (by omega) (by omega)) ?_
  refine tp_i (y := (nI (x0 % y0))) (pk_rem (by omega) (by omega) (by omega)) ?_
  refine lv_istore_n (lv' := [(2, .int (nI (x0 % y0))), (0, .int (nI x0)), (1, .int (nI y0))]) hx hb dJ9_floorMod_7cf53_3 rfl hl (by decide) rfl (fun ls hl => ?_)
  refine lv_iload_n hx hb dJ9_floorMod_7cf53_4 rfl (lv_at hl 1 rfl) ?_
  refine lv_iload_n hx hb dJ9_floorMod_7cf53_5 rfl (lv_at hl 2 rfl) ?_
  refine lv_ixor hx hb dJ9_floorMod_7cf53_6 ?_
  refine tp_i (y := (nI (x0 ^^^ y0))) (ni_xor _ _) ?_
  refine nb_if_ge (tgt := 18) hx hb (Nat.lt_trans (Nat.xor_lt_two_pow (n := 10) hx0 hy1) (by decide)) dJ9_floorMod_7cf53_7 (by decide) ?_
  refine lv_iload_n hx hb dJ9_floorMod_7cf53_18 rfl (lv_at hl 0 rfl) ?_
  exact hret hS (rfl) dJ9_floorMod_7cf53_19
set_option maxHeartbeats 8000000 in
set_option maxRecDepth 100000 in
theorem c_J7_fill_53178 (l : Launch) (Γ : kG) (e : Nat) (g : Nat → Nat) (n0 : Nat) (v0 : Nat) (hn0 : n0 < 2147483648) : WRv l yJ7_fill_53178 (wsq yJ7_fill_53178 cJ7_fill_53178 4 none) (rmL 1) Γ [.ref e, .int (nI v0)] [(e, .inl (Γ.2 0, n0, .inl (aN g)))] (fun u : Unit => [(e, .inl (Γ.2 0, n0, .inl (aN (flN g v0 n0))))]) (fun u : Unit => True) := by
  refine wr_ofv (cc := cJ7_fill_53178) (maxL := 4) (by decide +kernel) (Nat.le_of_ble_eq_true rfl) rfl ?_
  intro p ev R st mi args below meth cd Q A ls C0 hR hret hP hD hS hl
  obtain ⟨hx, hb, hr, hml, hown, hts, hlk, hK, hnm⟩ := C0
  have hown : st.vm.findClass RJ7 = some mi.cls := hown
  refine lv_iconst (v := (nI 0)) hx hb dJ7_fill_53178_0 (by decide) ?_
  refine lv_istore_n (lv' := [(2, .int (nI 0)), (0, .ref e), (1, .int (nI v0))]) hx hb dJ7_fill_53178_1 rfl hl (by decide) rfl (fun ls hl => ?_)
  refine lv_aload_n hx hb dJ7_fill_53178_2 rfl (lv_at hl 1 rfl) ?_
  refine va_alen hx hb hK.1 hP 0 0 rfl rfl (v := nI n0) rfl dJ7_fill_53178_3 ?_
  refine lv_istore_n (lv' := [(3, .int (nI n0)), (2, .int (nI 0)), (0, .ref e), (1, .int (nI v0))]) hx hb dJ7_fill_53178_4 rfl hl (by decide) rfl (fun ls hl => ?_)
  have LP5 : ∀ (fu : Nat) (k0 : Nat) (hk0 : k0 ≤ n0), (n0 - k0) < fu → ∀ (H : Heap) (locs : List Loc), va_P Γ.1 vwCl [(e, .inl (Γ.2 0, n0, .inl (aN (flN g v0 k0))))] H → va_D A [(e, .inl (Γ.2 0, n0, .inl (aN (flN g v0 k0))))] → va_S A st.heap H locs → ∀ (ls : Array Slot), lv_has ls 4 [(3, .int (nI n0)), (2, .int (nI k0)), (0, .ref e), (1, .int (nI v0))] → W p l ev R st mi args below meth cd H locs 0 0 Q (F0 mi 5 ls []) := by
    intro fu
    induction fu with
    | zero => intro k0 hk0 hfu; exact absurd hfu (Nat.not_lt_zero _)
    | succ fu ih5 =>
      intro k0 hk0 hfu H locs hP hD hS ls hl
      refine lv_iload_n hx hb dJ7_fill_53178_5 rfl (lv_at hl 1 rfl) ?_
      refine lv_iload_n hx hb dJ7_fill_53178_6 rfl (lv_at hl 0 rfl) ?_
      refine nb_icmp_ge (tgt := 20) hx hb (by first | omega | assumption) (by first | omega | assumption) dJ7_fill_53178_7 (by decide) (fun c_7 => ?_) (fun c_7 => ?_)
      · skip
        obtain rfl : k0 = n0 := by omega
        exact hret () hP hS (trivial) dJ7_fill_53178_20
      · skip
        refine lv_aload_n hx hb dJ7_fill_53178_10 rfl (lv_at hl 2 rfl) ?_
        refine lv_iload_n hx hb dJ7_fill_53178_11 rfl (lv_at hl 1 rfl) ?_
        refine lv_iload_n hx hb dJ7_fill_53178_12 rfl (lv_at hl 3 rfl) ?_
        refine iast_N hx hb hK.1 hP hD hS 0 0 rfl rfl (by omega) (by first | decide | assumption) dJ7_fill_53178_13 (fun H locs hP hD hS => ?_)
        have hP : va_P Γ.1 vwCl [(e, .inl (Γ.2 0, n0, .inl (aN (upN (flN g v0 k0) k0 v0))))] H := hP
        have hD : va_D A [(e, .inl (Γ.2 0, n0, .inl (aN (upN (flN g v0 k0) k0 v0))))] := hD
        refine lv_iinc (v := (nI (k0 + 1))) (lv' := [(2, .int (nI (k0 + 1))), (3, .int (nI n0)), (0, .ref e), (1, .int (nI v0))]) hx hb dJ7_fill_53178_14 hl (k := 1) rfl (nI_1 _) (by decide) rfl (fun ls hl => ?_)
        refine lv_goto (tgt := 5) hx hb dJ7_fill_53178_17 (by decide) ?_
        exact ih5 (k0 + 1) (by first | omega | assumption) (by omega) _ _ (cp_w hP (by rw [flN_s])) (va_D_fst (by rfl) hD) hS ls (lv_sub hl [1, 0, 2, 3] rfl)
  exact LP5 ((n0 - 0) + 1) 0 (by first | omega | assumption) (Nat.lt_succ_self _) _ _ (cp_w hP (by rw [flN_0])) (va_D_fst (by rfl) hD) hS ls (lv_sub hl [0, 1, 2, 3] rfl)
set_option maxHeartbeats 8000000 in
set_option maxRecDepth 100000 in
theorem c_X1_wipe (l : Launch) (Γ : kG) (a : Nat) (e : Nat) (g : Nat → Nat)  : WRv l yX1_wipe (wsq yX1_wipe cX1_wipe 1 none) (rmL 2) Γ [.ref a] [(a, .inr (1, [.ref e])), (e, .inl (Γ.2 0, 14, .inl (aN g)))] (fun u : Unit => [(a, .inr (1, [.ref e])), (e, .inl (Γ.2 0, 14, .inl (aN (fun _ => 0))))]) (fun u : Unit => True) := by
  refine wr_ofv (cc := cX1_wipe) (maxL := 1) (by decide +kernel) (Nat.le_of_ble_eq_true rfl) rfl ?_
  intro p ev R st mi args below meth cd Q A ls C0 hR hret hP hD hS hl
  obtain ⟨hx, hb, hr, hml, hown, hts, hlk, hK, hnm⟩ := C0
  have hown : st.vm.findClass RX1 = some mi.cls := hown
  refine lv_aload_n hx hb dX1_wipe_0 rfl (lv_at hl 0 rfl) ?_
  refine va_get (D := Γ.1) (ci := 1) (v := .ref e) (C := RX1) (T := TX1) (N := 1) hx hb hts hinX1 hown hK.1 hP 0 rfl rfl 0 (by decide) (hts _ mw_5) (fun _ h9 => h9) rfl dX1_wipe_1 ?_
  refine lv_iconst (v := (nI 0)) hx hb dX1_wipe_4 (by decide) ?_
  refine wr_finv (va_runS (As := [.ref e, .int (nI 0)]) (rest := []) ⟨hx, hb, hml, hown, hts⟩ (c_J7_fill_53178 l Γ e g 14 0 (by first | omega | assumption)) (kcwS 2 hts kv_J7_fill_53178 mw_26 (rm_le hR (Nat.le_of_ble_eq_true rfl) (Nat.le_of_ble_eq_true rfl))) (kPw_S hK (hP.sub (ws' := [(e, .inl (Γ.2 0, 14, .inl (aN g)))]) [1] rfl) (hD.sub (ws' := [(e, .inl (Γ.2 0, 14, .inl (aN g)))]) [1] (by decide) rfl)) rfl rfl hl.1 rfl (lv_room (Nat.le_of_ble_eq_true rfl)) dX1_wipe_5 ⟨Nat.zero_le _, Nat.zero_le _⟩) hP hD hS [1] rfl (fun _ => rfl) (fun _ H locs hw hP hD hS => ?_)
  have hP : va_P Γ.1 vwCl [(a, .inr (1, [.ref e])), (e, .inl (Γ.2 0, 14, .inl (aN (flN g 0 14))))] H := hP
  have hD : va_D A [(a, .inr (1, [.ref e])), (e, .inl (Γ.2 0, 14, .inl (aN (flN g 0 14))))] := hD
  exact hret () (va_P_arr (k := 1) hP rfl (fun i hi => by simp [aN, flN, hi])) hS (trivial) dX1_wipe_8
set_option maxHeartbeats 8000000 in
set_option maxRecDepth 100000 in
theorem c_X1_isLike (l : Launch) (Γ : kG) (H0 : Heap) (a : Nat) (e : Nat) (g : Nat → Nat) (a2 : Nat) (e2 : Nat) (g2 : Nat → Nat) (hP : va_P Γ.1 vwCl [(a, .inr (1, [.ref e])), (e, .inl (Γ.2 0, 14, .inl (aN g))), (a2, .inr (1, [.ref e2])), (e2, .inl (Γ.2 0, 14, .inl (aN g2)))] H0) (hg : ∀ i, i < 14 → g i < 16384) (hg2 : ∀ i, i < 14 → g2 i < 16384) : RO l yX1_isLike (wsq yX1_isLike cX1_isLike 3 (some .boolean)) (rmL 1) Γ H0 [.ref a, .ref a2] (bI (gLike g g2 14)) := by
  refine ro_ofz (cc := cX1_isLike) (maxL := 3) (by decide +kernel) (Nat.le_of_ble_eq_true rfl) rfl ?_
  intro p ev R st mi args below meth cd Q ls C0 hR hret hh hS hl
  obtain ⟨hx, hb, hr, hml, hown, hts, hlk, hK, hnm⟩ := C0
  have hown : st.vm.findClass RX1 = some mi.cls := hown
  refine lv_iconst (v := (nI 0)) hx hb dX1_isLike_0 (by decide) ?_
  refine lv_istore_n (lv' := [(2, .int (nI 0)), (0, .ref a), (1, .ref a2)]) hx hb dX1_isLike_1 rfl hl (by decide) rfl (fun ls hl => ?_)
  have LP2 : ∀ (fu : Nat) (k0 : Nat) (hk0 : k0 ≤ 14) (hs0 : gLike g g2 k0 = true), (14 - k0) < fu → ∀ (locs : List Loc), va_S (fun _ => False) H0 H0 locs → ∀ (ls : Array Slot), lv_has ls 3 [(2, .int (nI k0)), (0, .ref a), (1, .ref a2)] → W p l ev R st mi args below meth cd H0 locs 0 0 Q (F0 mi 2 ls []) := by
    intro fu
    induction fu with
    | zero => intro k0 hk0 hs0 hfu; exact absurd hfu (Nat.not_lt_zero _)
    | succ fu ih2 =>
      intro k0 hk0 hs0 hfu locs hS ls hl
      refine lv_iload_n hx hb dX1_isLike_2 rfl (lv_at hl 0 rfl) ?_
      refine lv_bipush (v := (nI 14)) hx hb dX1_isLike_3 (by decide) ?_
      refine nb_icmp_ge (tgt := 31) hx hb (by first | omega | assumption) (by first | omega | assumption) dX1_isLike_5 (by decide) (fun c_5 => ?_) (fun c_5 => ?_)
      · skip
        obtain rfl : k0 = 14 := by omega
        refine lv_iconst (v := (nI 1)) hx hb dX1_isLike_31 (by decide) ?_
        exact hret hS (by rw [hs0]; rfl) dX1_isLike_32
      · skip
        refine lv_aload_n hx hb dX1_isLike_8 rfl (lv_at hl 1 rfl) ?_
        refine va_get (D := Γ.1) (ci := 1) (v := .ref e) (C := RX1) (T := TX1) (N := 1) hx hb hts hinX1 hown hK.1 hP 0 rfl rfl 0 (by decide) (hts _ mw_5) (fun _ h9 => h9) rfl dX1_isLike_9 ?_
        refine lv_iload_n hx hb dX1_isLike_12 rfl (lv_at hl 0 rfl) ?_
        refine iald_N hx hb hK.1 hP 1 0 rfl rfl (by omega) (by first | decide | assumption) dX1_isLike_13 ?_
        refine lv_aload_n hx hb dX1_isLike_14 rfl (lv_at hl 2 rfl) ?_
        refine va_get (D := Γ.1) (ci := 1) (v := .ref e2) (C := RX1) (T := TX1) (N := 1) hx hb hts hinX1 hown hK.1 hP 2 rfl rfl 0 (by decide) (hts _ mw_5) (fun _ h9 => h9) rfl dX1_isLike_15 ?_
        refine lv_iload_n hx hb dX1_isLike_18 rfl (lv_at hl 0 rfl) ?_
        refine iald_N hx hb hK.1 hP 3 0 rfl rfl (by omega) (by first | decide | assumption) dX1_isLike_19 ?_
        refine nb_icmp_eq (tgt := 25) hx hb (Nat.lt_trans (hg _ (by omega)) (by decide)) (Nat.lt_trans (hg2 _ (by omega)) (by decide)) dX1_isLike_20 (by decide) (fun c_20 => ?_) (fun c_20 => ?_)
        · skip
          refine lv_iinc (v := (nI (k0 + 1))) (lv' := [(2, .int (nI (k0 + 1))), (0, .ref a), (1, .ref a2)]) hx hb dX1_isLike_25 hl (k := 0) rfl (nI_1 _) (by decide) rfl (fun ls hl => ?_)
          refine lv_goto (tgt := 2) hx hb dX1_isLike_28 (by decide) ?_
          exact ih2 (k0 + 1) (by first | omega | assumption) (by rw [gLike, hs0, c_20]; simp) (by omega) _ hS ls (lv_sub hl [0, 1, 2] rfl)
        · skip
          refine lv_iconst (v := (nI 0)) hx hb dX1_isLike_23 (by decide) ?_
          exact hret hS (by rw [gLike_no (by omega) c_20]; rfl) dX1_isLike_24
  exact LP2 ((14 - 0) + 1) 0 (by first | omega | assumption) (rfl) (Nat.lt_succ_self _) _ hS ls (lv_sub hl [0, 1, 2] rfl)
set_option maxHeartbeats 8000000 in
set_option maxRecDepth 100000 in
theorem c_X1_aroundAny (l : Launch) (Γ : kG) (H0 : Heap) (a : Nat) (e : Nat) (g : Nat → Nat) (S0 : Nat) (hP : va_P Γ.1 vwCl [(a, .inr (1, [.ref e])), (e, .inl (Γ.2 0, 14, .inl (aN g)))] H0) (hg : ∀ i, i < 14 → g i < 16384) (hS0 : S0 < 16384) : RO l yX1_aroundAny (wsq yX1_aroundAny cX1_aroundAny 4 (some .int)) (rmL 2) Γ H0 [.ref a, .int (nI S0)] (nI (nbrs g S0 14)) := by
  refine ro_ofi (cc := cX1_aroundAny) (maxL := 4) (by decide +kernel) (Nat.le_of_ble_eq_true rfl) rfl ?_
  intro p ev R st mi args below meth cd Q ls C0 hR hret hh hS hl
  obtain ⟨hx, hb, hr, hml, hown, hts, hlk, hK, hnm⟩ := C0
  have hown : st.vm.findClass RX1 = some mi.cls := hown
  refine lv_iconst (v := (nI 0)) hx hb dX1_aroundAny_0 (by decide) ?_
  refine lv_istore_n (lv' := [(2, .int (nI 0)), (0, .ref a), (1, .int (nI S0))]) hx hb dX1_aroundAny_1 rfl hl (by decide) rfl (fun ls hl => ?_)
  refine lv_iconst (v := (nI 0)) hx hb dX1_aroundAny_2 (by decide) ?_
  refine lv_istore_n (lv' := [(3, .int (nI 0)), (2, .int (nI 0)), (0, .ref a), (1, .int (nI S0))]) hx hb dX1_aroundAny_3 rfl hl (by decide) rfl (fun ls hl => ?_)
  have LP4 : ∀ (fu : Nat) (k0 : Nat) (hk0 : k0 ≤ 14), (14 - k0) < fu → ∀ (locs : List Loc), va_S (fun _ => False) H0 H0 locs → ∀ (ls : Array Slot), lv_has ls 4 [(3, .int (nI k0)), (2, .int (nI (nbrs g S0 k0))), (0, .ref a), (1, .int (nI S0))] → W p l ev R st mi args below meth cd H0 locs 0 0 Q (F0 mi 4 ls []) := by
    intro fu
    induction fu with
    | zero => intro k0 hk0 hfu; exact absurd hfu (Nat.not_lt_zero _)
    | succ fu ih4 =>
      intro k0 hk0 hfu locs hS ls hl
      refine lv_iload_n hx hb dX1_aroundAny_4 rfl (lv_at hl 0 rfl) ?_
      refine lv_bipush (v := (nI 14)) hx hb dX1_aroundAny_5 (by decide) ?_
      refine nb_icmp_ge (tgt := 33) hx hb (by first | omega | assumption) (by first | omega | assumption) dX1_aroundAny_7 (by decide) (fun c_7 => ?_) (fun c_7 => ?_)
      · skip
        obtain rfl : k0 = 14 := by omega
        refine lv_iload_n hx hb dX1_aroundAny_33 rfl (lv_at hl 1 rfl) ?_
        exact hret hS (rfl) dX1_aroundAny_34
      · skip
        refine lv_iload_n hx hb dX1_aroundAny_10 rfl (lv_at hl 3 rfl) ?_
        refine lv_iload_n hx hb dX1_aroundAny_11 rfl (lv_at hl 0 rfl) ?_
        refine ro_fin (va_runSN (As := [.int (nI S0), .int (nI k0)]) (rest := []) ⟨hx, hb, hml, hown, hts⟩ (c_X6_has l Γ H0 S0 k0 (by first | omega | assumption) (by first | omega | assumption)) (kcwSN 2 hts kv_X6_has (hK.nw _ (nwL_at 56 rfl)) (rm_le hR (Nat.le_of_ble_eq_true rfl) (Nat.le_of_ble_eq_true rfl))) (kPc_S hK) rfl rfl hl.1 rfl (lv_room (Nat.le_of_ble_eq_true rfl)) dX1_aroundAny_12 ⟨Nat.zero_le _, Nat.zero_le _⟩) hS (fun locs hS => ?_)
        refine nb_ifb_eq (tgt := 27) hx hb dX1_aroundAny_15 (by decide) (fun c_15 => ?_) (fun c_15 => ?_)
        · skip
          have hl : lv_has ls 4 [(3, .int (nI k0)), (2, .int (nI (nbrs g S0 (k0 + 1)))), (0, .ref a), (1, .int (nI S0))] := lv_cast hl (by rw [nbrs, if_f c_15])
          refine lv_iinc (v := (nI (k0 + 1))) (lv' := [(3, .int (nI (k0 + 1))), (2, .int (nI (nbrs g S0 (k0 + 1)))), (0, .ref a), (1, .int (nI S0))]) hx hb dX1_aroundAny_27 hl (k := 0) rfl (nI_1 _) (by decide) rfl (fun ls hl => ?_)
          refine lv_goto (tgt := 4) hx hb dX1_aroundAny_30 (by decide) ?_
          exact ih4 (k0 + 1) (by first | omega | assumption) (by omega) _ hS ls (lv_sub hl [0, 1, 2, 3] rfl)
        · skip
          refine lv_iload_n hx hb dX1_aroundAny_18 rfl (lv_at hl 1 rfl) ?_
          refine lv_aload_n hx hb dX1_aroundAny_19 rfl (lv_at hl 2 rfl) ?_
          refine va_get (D := Γ.1) (ci := 1) (v := .ref e) (C := RX1) (T := TX1) (N := 1) hx hb hts hinX1 hown hK.1 hP 0 rfl rfl 0 (by decide) (hts _ mw_5) (fun _ h9 => h9) rfl dX1_aroundAny_20 ?_
          refine lv_iload_n hx hb dX1_aroundAny_23 rfl (lv_at hl 0 rfl) ?_
          refine iald_N hx hb hK.1 hP 1 0 rfl rfl (by omega) (by first | decide | assumption) dX1_aroundAny_24 ?_
          refine lv_ior hx hb dX1_aroundAny_25 ?_
          refine tp_i (y := (nI ((nbrs g S0 k0) ||| (g k0)))) (ni_or _ _) ?_
          refine tp_i (y := (nI (nbrs g S0 (k0 + 1)))) (by rw [nbrs, if_t c_15]) ?_
          refine lv_istore_n (lv' := [(2, .int (nI (nbrs g S0 (k0 + 1)))), (3, .int (nI k0)), (0, .ref a), (1, .int (nI S0))]) hx hb dX1_aroundAny_26 rfl hl (by decide) rfl (fun ls hl => ?_)
          refine lv_iinc (v := (nI (k0 + 1))) (lv' := [(3, .int (nI (k0 + 1))), (2, .int (nI (nbrs g S0 (k0 + 1)))), (0, .ref a), (1, .int (nI S0))]) hx hb dX1_aroundAny_27 hl (k := 1) rfl (nI_1 _) (by decide) rfl (fun ls hl => ?_)
          refine lv_goto (tgt := 4) hx hb dX1_aroundAny_30 (by decide) ?_
          exact ih4 (k0 + 1) (by first | omega | assumption) (by omega) _ hS ls (lv_sub hl [0, 1, 2, 3] rfl)
  exact LP4 ((14 - 0) + 1) 0 (by first | omega | assumption) (Nat.lt_succ_self _) _ hS ls (lv_sub hl [0, 1, 2, 3] rfl)
set_option maxHeartbeats 8000000 in
set_option maxRecDepth 100000 in
theorem c_X1_edgesIn (l : Launch) (Γ : kG) (H0 : Heap) (a : Nat) (e : Nat) (g : Nat → Nat) (S0 : Nat) (hP : va_P Γ.1 vwCl [(a, .inr (1, [.ref e])), (e, .inl (Γ.2 0, 14, .inl (aN g)))] H0) (hg : ∀ i, i < 14 → g i < 16384) (hS0 : S0 < 16384) : RO l yX1_edgesIn (wsq yX1_edgesIn cX1_edgesIn 4 (some .int)) (rmL 2) Γ H0 [.ref a, .int (nI S0)] (nI (eIn g S0 14 / 2)) := by
  refine ro_ofi (cc := cX1_edgesIn) (maxL := 4) (by decide +kernel) (Nat.le_of_ble_eq_true rfl) rfl ?_
  intro p ev R st mi args below meth cd Q ls C0 hR hret hh hS hl
  obtain ⟨hx, hb, hr, hml, hown, hts, hlk, hK, hnm⟩ := C0
  have hown : st.vm.findClass RX1 = some mi.cls := hown
  refine lv_iconst (v := (nI 0)) hx hb dX1_edgesIn_0 (by decide) ?_
  refine lv_istore_n (lv' := [(2, .int (nI 0)), (0, .ref a), (1, .int (nI S0))]) hx hb dX1_edgesIn_1 rfl hl (by decide) rfl (fun ls hl => ?_)
  refine lv_iconst (v := (nI 0)) hx hb dX1_edgesIn_2 (by decide) ?_
  refine lv_istore_n (lv' := [(3, .int (nI 0)), (2, .int (nI 0)), (0, .ref a), (1, .int (nI S0))]) hx hb dX1_edgesIn_3 rfl hl (by decide) rfl (fun ls hl => ?_)
  have LP4 : ∀ (fu : Nat) (k0 : Nat) (hk0 : k0 ≤ 14), (14 - k0) < fu → ∀ (locs : List Loc), va_S (fun _ => False) H0 H0 locs → ∀ (ls : Array Slot), lv_has ls 4 [(3, .int (nI k0)), (2, .int (nI (eIn g S0 k0))), (0, .ref a), (1, .int (nI S0))] → W p l ev R st mi args below meth cd H0 locs 0 0 Q (F0 mi 4 ls []) := by
    intro fu
    induction fu with
    | zero => intro k0 hk0 hfu; exact absurd hfu (Nat.not_lt_zero _)
    | succ fu ih4 =>
      intro k0 hk0 hfu locs hS ls hl
      refine lv_iload_n hx hb dX1_edgesIn_4 rfl (lv_at hl 0 rfl) ?_
      refine lv_bipush (v := (nI 14)) hx hb dX1_edgesIn_5 (by decide) ?_
      refine nb_icmp_ge (tgt := 37) hx hb (by first | omega | assumption) (by first | omega | assumption) dX1_edgesIn_7 (by decide) (fun c_7 => ?_) (fun c_7 => ?_)
      · skip
        obtain rfl : k0 = 14 := by omega
        refine lv_iload_n hx hb dX1_edgesIn_37 rfl (lv_at hl 1 rfl) ?_
        refine lv_iconst (v := (nI 2)) hx hb dX1_edgesIn_38 (by decide) ?_
        refine lv_idiv hx hb dX1_edgesIn_39 (nI_ne0 (by omega) (by omega)) ?_
        refine tp_i (y := (nI ((eIn g S0 14) / 2))) (pk_div (Nat.lt_of_le_of_lt (eIn_le g S0 14) (by decide)) (by omega) (by omega)) ?_
        exact hret hS (rfl) dX1_edgesIn_40
      · skip
        refine lv_iload_n hx hb dX1_edgesIn_10 rfl (lv_at hl 3 rfl) ?_
        refine lv_iload_n hx hb dX1_edgesIn_11 rfl (lv_at hl 0 rfl) ?_
        refine ro_fin (va_runSN (As := [.int (nI S0), .int (nI k0)]) (rest := []) ⟨hx, hb, hml, hown, hts⟩ (c_X6_has l Γ H0 S0 k0 (by first | omega | assumption) (by first | omega | assumption)) (kcwSN 2 hts kv_X6_has (hK.nw _ (nwL_at 56 rfl)) (rm_le hR (Nat.le_of_ble_eq_true rfl) (Nat.le_of_ble_eq_true rfl))) (kPc_S hK) rfl rfl hl.1 rfl (lv_room (Nat.le_of_ble_eq_true rfl)) dX1_edgesIn_12 ⟨Nat.zero_le _, Nat.zero_le _⟩) hS (fun locs hS => ?_)
        refine nb_ifb_eq (tgt := 31) hx hb dX1_edgesIn_15 (by decide) (fun c_15 => ?_) (fun c_15 => ?_)
        · skip
          have hl : lv_has ls 4 [(3, .int (nI k0)), (2, .int (nI (eIn g S0 (k0 + 1)))), (0, .ref a), (1, .int (nI S0))] := lv_cast hl (by rw [eIn, if_f c_15])
          refine lv_iinc (v := (nI (k0 + 1))) (lv' := [(3, .int (nI (k0 + 1))), (2, .int (nI (eIn g S0 (k0 + 1)))), (0, .ref a), (1, .int (nI S0))]) hx hb dX1_edgesIn_31 hl (k := 0) rfl (nI_1 _) (by decide) rfl (fun ls hl => ?_)
          refine lv_goto (tgt := 4) hx hb dX1_edgesIn_34 (by decide) ?_
          exact ih4 (k0 + 1) (by first | omega | assumption) (by omega) _ hS ls (lv_sub hl [0, 1, 2, 3] rfl)
        · skip
          refine lv_iload_n hx hb dX1_edgesIn_18 rfl (lv_at hl 1 rfl) ?_
          refine lv_aload_n hx hb dX1_edgesIn_19 rfl (lv_at hl 2 rfl) ?_
          refine lv_iload_n hx hb dX1_edgesIn_20 rfl (lv_at hl 0 rfl) ?_
          refine ro_fin (va_runV (As := [.int (nI k0)]) (rest := [.int (nI (eIn g S0 k0))]) ⟨hx, hb, hml, hown, hts⟩ (c_X1_around l Γ H0 a e g k0 (hP.sub (ws' := [(a, .inr (1, [.ref e])), (e, .inl (Γ.2 0, 14, .inl (aN g)))]) [0, 1] rfl) (by first | omega | assumption)) (kcwV 1 hts kv_X1_around mw_36 (rm_le hR (Nat.le_of_ble_eq_true rfl) (Nat.le_of_ble_eq_true rfl))) (kPc_V hK (va_recv hK.1 hP (ci := 1) (q0 := 0) rfl rfl)) rfl rfl hl.1 rfl (lv_room (Nat.le_of_ble_eq_true rfl)) dX1_edgesIn_21 ⟨Nat.zero_le _, Nat.zero_le _⟩) hS (fun locs hS => ?_)
          refine lv_iload_n hx hb dX1_edgesIn_24 rfl (lv_at hl 3 rfl) ?_
          refine lv_iand hx hb dX1_edgesIn_25 ?_
          refine tp_i (y := (nI ((g k0) &&& S0))) (ni_and _ _) ?_
          refine ro_fin (va_runS (As := [.int (nI ((g k0) &&& S0))]) (rest := [.int (nI (eIn g S0 k0))]) ⟨hx, hb, hml, hown, hts⟩ (c_J6_bitCount_0f7a4 l Γ H0 ((g k0) &&& S0) (and_lt2 _ hS0)) (kcwS 1 hts kv_J6_bitCount_0f7a4 mw_95 (rm_le hR (Nat.le_of_ble_eq_true rfl) (Nat.le_of_ble_eq_true rfl))) (kPc_S hK) rfl rfl hl.1 rfl (lv_room (Nat.le_of_ble_eq_true rfl)) dX1_edgesIn_26 ⟨Nat.zero_le _, Nat.zero_le _⟩) hS (fun locs hS => ?_)
          refine lv_iadd hx hb dX1_edgesIn_29 ?_
          refine tp_i (y := (nI ((eIn g S0 k0) + (pc ((g k0) &&& S0))))) (nI_add _ _) ?_
          refine tp_i (y := (nI (eIn g S0 (k0 + 1)))) (by rw [eIn, if_t c_15]) ?_
          refine lv_istore_n (lv' := [(2, .int (nI (eIn g S0 (k0 + 1)))), (3, .int (nI k0)), (0, .ref a), (1, .int (nI S0))]) hx hb dX1_edgesIn_30 rfl hl (by decide) rfl (fun ls hl => ?_)
          refine lv_iinc (v := (nI (k0 + 1))) (lv' := [(3, .int (nI (k0 + 1))), (2, .int (nI (eIn g S0 (k0 + 1)))), (0, .ref a), (1, .int (nI S0))]) hx hb dX1_edgesIn_31 hl (k := 1) rfl (nI_1 _) (by decide) rfl (fun ls hl => ?_)
          refine lv_goto (tgt := 4) hx hb dX1_edgesIn_34 (by decide) ?_
          exact ih4 (k0 + 1) (by first | omega | assumption) (by omega) _ hS ls (lv_sub hl [0, 1, 2, 3] rfl)
  exact LP4 ((14 - 0) + 1) 0 (by first | omega | assumption) (Nat.lt_succ_self _) _ hS ls (lv_sub hl [0, 1, 2, 3] rfl)
set_option maxHeartbeats 8000000 in
set_option maxRecDepth 100000 in
theorem c_X1_longestWayFrom (l : Launch) (Γ : kG) (H0 : Heap) (a : Nat) (e : Nat) (g : Nat → Nat) (r0 : Nat) (W0 : Nat) (hP : va_P Γ.1 vwCl [(a, .inr (1, [.ref e])), (e, .inl (Γ.2 0, 14, .inl (aN g)))] H0) (hg : ∀ i, i < 14 → g i < 16384) (hr0 : r0 < 14) (hW0 : W0 < 16384) : RO l yX1_longestWayFrom (wsq yX1_longestWayFrom cX1_longestWayFrom 7 (some .int)) (rmL 3) Γ H0 [.ref a, .int (nI r0), .int (nI W0)] (nI (lwW g W0 r0 13)) := by
  refine ro_ofi (cc := cX1_longestWayFrom) (maxL := 7) (by decide +kernel) (Nat.le_of_ble_eq_true rfl) rfl ?_
  intro p ev R st mi args below meth cd Q ls C0 hR hret hh hS hl
  obtain ⟨hx, hb, hr, hml, hown, hts, hlk, hK, hnm⟩ := C0
  have hown : st.vm.findClass RX1 = some mi.cls := hown
  refine lv_iload_n hx hb dX1_longestWayFrom_0 rfl (lv_at hl 1 rfl) ?_
  refine ro_fin (va_runSN (As := [.int (nI r0)]) (rest := []) ⟨hx, hb, hml, hown, hts⟩ (c_X6_bit l Γ H0 r0 (by first | omega | assumption)) (kcwSN 1 hts kv_X6_bit (hK.nw _ (nwL_at 55 rfl)) (rm_le hR (Nat.le_of_ble_eq_true rfl) (Nat.le_of_ble_eq_true rfl))) (kPc_S hK) rfl rfl hl.1 rfl (lv_room (Nat.le_of_ble_eq_true rfl)) dX1_longestWayFrom_1 ⟨Nat.zero_le _, Nat.zero_le _⟩) hS (fun locs hS => ?_)
  refine lv_istore_n (lv' := [(3, .int (nI (2 ^ r0))), (0, .ref a), (1, .int (nI r0)), (2, .int (nI W0))]) hx hb dX1_longestWayFrom_4 rfl hl (by decide) rfl (fun ls hl => ?_)
  refine lv_iconst (v := (nI 0)) hx hb dX1_longestWayFrom_5 (by decide) ?_
  refine lv_istore (lv' := [(4, .int (nI 0)), (3, .int (nI (2 ^ r0))), (0, .ref a), (1, .int (nI r0)), (2, .int (nI W0))]) hx hb dX1_longestWayFrom_6 hl (by decide) rfl (fun ls hl => ?_)
  refine lv_iconst (v := (nI 1)) hx hb dX1_longestWayFrom_8 (by decide) ?_
  refine lv_istore (lv' := [(5, .int (nI 1)), (4, .int (nI 0)), (3, .int (nI (2 ^ r0))), (0, .ref a), (1, .int (nI r0)), (2, .int (nI W0))]) hx hb dX1_longestWayFrom_9 hl (by decide) rfl (fun ls hl => ?_)
  have LP11 : ∀ (fu : Nat) (t0 : Nat) (ht0 : t0 ≤ 13), (13 - t0) < fu → ∀ (locs : List Loc), va_S (fun _ => False) H0 H0 locs → ∀ (ls : Array Slot), lv_has ls 7 [(5, .int (nI (t0 + 1))), (4, .int (nI (lwW g W0 r0 t0))), (3, .int (nI (lwX g W0 r0 t0))), (0, .ref a), (1, .int (nI r0)), (2, .int (nI W0))] → W p l ev R st mi args below meth cd H0 locs 0 0 Q (F0 mi 11 ls []) := by
    intro fu
    induction fu with
    | zero => intro t0 ht0 hfu; exact absurd hfu (Nat.not_lt_zero _)
    | succ fu ih11 =>
      intro t0 ht0 hfu locs hS ls hl
      refine lv_iload hx hb dX1_longestWayFrom_11 (lv_at hl 0 rfl) ?_
      refine lv_bipush (v := (nI 14)) hx hb dX1_longestWayFrom_13 (by decide) ?_
      refine nb_icmp_ge (tgt := 48) hx hb (by first | omega | assumption) (by first | omega | assumption) dX1_longestWayFrom_15 (by decide) (fun c_15 => ?_) (fun c_15 => ?_)
      · skip
        obtain rfl : t0 = 13 := by omega
        refine lv_iload hx hb dX1_longestWayFrom_48 (lv_at hl 1 rfl) ?_
        exact hret hS (rfl) dX1_longestWayFrom_50
      · skip
        refine lv_iload_n hx hb dX1_longestWayFrom_18 rfl (lv_at hl 2 rfl) ?_
        refine lv_aload_n hx hb dX1_longestWayFrom_19 rfl (lv_at hl 3 rfl) ?_
        refine lv_iload_n hx hb dX1_longestWayFrom_20 rfl (lv_at hl 2 rfl) ?_
        refine ro_fin (va_runV (As := [.int (nI (lwX g W0 r0 t0))]) (rest := [.int (nI (lwX g W0 r0 t0))]) ⟨hx, hb, hml, hown, hts⟩ (c_X1_aroundAny l Γ H0 a e g (lwX g W0 r0 t0) (hP.sub (ws' := [(a, .inr (1, [.ref e])), (e, .inl (Γ.2 0, 14, .inl (aN g)))]) [0, 1] rfl) (by first | omega | assumption) (lwX_lt hg hr0 hW0 _)) (kcwV 1 hts kv_X1_aroundAny mw_98 (rm_le hR (Nat.le_of_ble_eq_true rfl) (Nat.le_of_ble_eq_true rfl))) (kPc_V hK (va_recv hK.1 hP (ci := 1) (q0 := 0) rfl rfl)) rfl rfl hl.1 rfl (lv_room (Nat.le_of_ble_eq_true rfl)) dX1_longestWayFrom_21 ⟨Nat.zero_le _, Nat.zero_le _⟩) hS (fun locs hS => ?_)
        refine lv_iload_n hx hb dX1_longestWayFrom_24 rfl (lv_at hl 5 rfl) ?_
        refine lv_iand hx hb dX1_longestWayFrom_25 ?_
        refine tp_i (y := (nI ((nbrs g (lwX g W0 r0 t0) 14) &&& W0))) (ni_and _ _) ?_
        refine lv_ior hx hb dX1_longestWayFrom_26 ?_
        refine tp_i (y := (nI ((lwX g W0 r0 t0) ||| ((nbrs g (lwX g W0 r0 t0) 14) &&& W0)))) (ni_or _ _) ?_
        refine tp_i (y := (nI (lwX g W0 r0 (t0 + 1)))) (by rw [lwX]) ?_
        refine lv_istore (lv' := [(6, .int (nI (lwX g W0 r0 (t0 + 1)))), (5, .int (nI (t0 + 1))), (4, .int (nI (lwW g W0 r0 t0))), (3, .int (nI (lwX g W0 r0 t0))), (0, .ref a), (1, .int (nI r0)), (2, .int (nI W0))]) hx hb dX1_longestWayFrom_27 hl (by decide) rfl (fun ls hl => ?_)
        refine lv_iload hx hb dX1_longestWayFrom_29 (lv_at hl 0 rfl) ?_
        refine lv_iload_n hx hb dX1_longestWayFrom_31 rfl (lv_at hl 3 rfl) ?_
        refine nb_icmp_eq (tgt := 39) hx hb (Nat.lt_trans (lwX_lt hg hr0 hW0 _) (by decide)) (Nat.lt_trans (lwX_lt hg hr0 hW0 _) (by decide)) dX1_longestWayFrom_32 (by decide) (fun c_32 => ?_) (fun c_32 => ?_)
        · skip
          have hl : lv_has ls 7 [(6, .int (nI (lwX g W0 r0 (t0 + 1)))), (5, .int (nI (t0 + 1))), (4, .int (nI (lwW g W0 r0 (t0 + 1)))), (3, .int (nI (lwX g W0 r0 t0))), (0, .ref a), (1, .int (nI r0)), (2, .int (nI W0))] := lv_cast hl (by rw [lwW, if_neg (fun h9 => h9 c_32)])
          refine lv_iload hx hb dX1_longestWayFrom_39 (lv_at hl 0 rfl) ?_
          refine lv_istore_n (lv' := [(3, .int (nI (lwX g W0 r0 (t0 + 1)))), (6, .int (nI (lwX g W0 r0 (t0 + 1)))), (5, .int (nI (t0 + 1))), (4, .int (nI (lwW g W0 r0 (t0 + 1)))), (0, .ref a), (1, .int (nI r0)), (2, .int (nI W0))]) hx hb dX1_longestWayFrom_41 rfl hl (by decide) rfl (fun ls hl => ?_)
          refine lv_iinc (v := (nI ((t0 + 1) + 1))) (lv' := [(5, .int (nI ((t0 + 1) + 1))), (3, .int (nI (lwX g W0 r0 (t0 + 1)))), (6, .int (nI (lwX g W0 r0 (t0 + 1)))), (4, .int (nI (lwW g W0 r0 (t0 + 1)))), (0, .ref a), (1, .int (nI r0)), (2, .int (nI W0))]) hx hb dX1_longestWayFrom_42 hl (k := 2) rfl (nI_1 _) (by decide) rfl (fun ls hl => ?_)
          refine lv_goto (tgt := 11) hx hb dX1_longestWayFrom_45 (by decide) ?_
          exact ih11 (t0 + 1) (by first | omega | assumption) (by omega) _ hS ls (lv_sub hl [0, 3, 1, 4, 5, 6] rfl)
        · skip
          refine lv_iload hx hb dX1_longestWayFrom_35 (lv_at hl 1 rfl) ?_
          refine tp_i (y := (nI (lwW g W0 r0 (t0 + 1)))) (by rw [lwW, if_pos c_32]) ?_
          refine lv_istore (lv' := [(4, .int (nI (lwW g W0 r0 (t0 + 1)))), (6, .int (nI (lwX g W0 r0 (t0 + 1)))), (5, .int (nI (t0 + 1))), (3, .int (nI (lwX g W0 r0 t0))), (0, .ref a), (1, .int (nI r0)), (2, .int (nI W0))]) hx hb dX1_longestWayFrom_37 hl (by decide) rfl (fun ls hl => ?_)
          refine lv_iload hx hb dX1_longestWayFrom_39 (lv_at hl 1 rfl) ?_
          refine lv_istore_n (lv' := [(3, .int (nI (lwX g W0 r0 (t0 + 1)))), (4, .int (nI (lwW g W0 r0 (t0 + 1)))), (6, .int (nI (lwX g W0 r0 (t0 + 1)))), (5, .int (nI (t0 + 1))), (0, .ref a), (1, .int (nI r0)), (2, .int (nI W0))]) hx hb dX1_longestWayFrom_41 rfl hl (by decide) rfl (fun ls hl => ?_)
          refine lv_iinc (v := (nI ((t0 + 1) + 1))) (lv' := [(5, .int (nI ((t0 + 1) + 1))), (3, .int (nI (lwX g W0 r0 (t0 + 1)))), (4, .int (nI (lwW g W0 r0 (t0 + 1)))), (6, .int (nI (lwX g W0 r0 (t0 + 1)))), (0, .ref a), (1, .int (nI r0)), (2, .int (nI W0))]) hx hb dX1_longestWayFrom_42 hl (k := 3) rfl (nI_1 _) (by decide) rfl (fun ls hl => ?_)
          refine lv_goto (tgt := 11) hx hb dX1_longestWayFrom_45 (by decide) ?_
          exact ih11 (t0 + 1) (by first | omega | assumption) (by omega) _ hS ls (lv_sub hl [0, 2, 1, 4, 5, 6] rfl)
  exact LP11 ((13 - 0) + 1) 0 (by first | omega | assumption) (Nat.lt_succ_self _) _ hS ls (lv_sub hl [0, 1, 2, 3, 4, 5] rfl)
set_option maxHeartbeats 8000000 in
set_option maxRecDepth 100000 in
theorem c_X1_longestWay (l : Launch) (Γ : kG) (H0 : Heap) (a : Nat) (e : Nat) (g : Nat → Nat) (W0 : Nat) (hP : va_P Γ.1 vwCl [(a, .inr (1, [.ref e])), (e, .inl (Γ.2 0, 14, .inl (aN g)))] H0) (hg : ∀ i, i < 14 → g i < 16384) (hW0 : W0 < 16384) : RO l yX1_longestWay (wsq yX1_longestWay cX1_longestWay 4 (some .int)) (rmL 4) Γ H0 [.ref a, .int (nI W0)] (nI (lwA g W0 14)) := by
  refine ro_ofi (cc := cX1_longestWay) (maxL := 4) (by decide +kernel) (Nat.le_of_ble_eq_true rfl) rfl ?_
  intro p ev R st mi args below meth cd Q ls C0 hR hret hh hS hl
  obtain ⟨hx, hb, hr, hml, hown, hts, hlk, hK, hnm⟩ := C0
  have hown : st.vm.findClass RX1 = some mi.cls := hown
  refine lv_iconst (v := (nI 0)) hx hb dX1_longestWay_0 (by decide) ?_
  refine lv_istore_n (lv' := [(2, .int (nI 0)), (0, .ref a), (1, .int (nI W0))]) hx hb dX1_longestWay_1 rfl hl (by decide) rfl (fun ls hl => ?_)
  refine lv_iconst (v := (nI 0)) hx hb dX1_longestWay_2 (by decide) ?_
  refine lv_istore_n (lv' := [(3, .int (nI 0)), (2, .int (nI 0)), (0, .ref a), (1, .int (nI W0))]) hx hb dX1_longestWay_3 rfl hl (by decide) rfl (fun ls hl => ?_)
  have LP4 : ∀ (fu : Nat) (k0 : Nat) (hk0 : k0 ≤ 14), (14 - k0) < fu → ∀ (locs : List Loc), va_S (fun _ => False) H0 H0 locs → ∀ (ls : Array Slot), lv_has ls 4 [(3, .int (nI k0)), (2, .int (nI (lwA g W0 k0))), (0, .ref a), (1, .int (nI W0))] → W p l ev R st mi args below meth cd H0 locs 0 0 Q (F0 mi 4 ls []) := by
    intro fu
    induction fu with
    | zero => intro k0 hk0 hfu; exact absurd hfu (Nat.not_lt_zero _)
    | succ fu ih4 =>
      intro k0 hk0 hfu locs hS ls hl
      refine lv_iload_n hx hb dX1_longestWay_4 rfl (lv_at hl 0 rfl) ?_
      refine lv_bipush (v := (nI 14)) hx hb dX1_longestWay_5 (by decide) ?_
      refine nb_icmp_ge (tgt := 35) hx hb (by first | omega | assumption) (by first | omega | assumption) dX1_longestWay_7 (by decide) (fun c_7 => ?_) (fun c_7 => ?_)
      · skip
        obtain rfl : k0 = 14 := by omega
        refine lv_iload_n hx hb dX1_longestWay_35 rfl (lv_at hl 1 rfl) ?_
        exact hret hS (rfl) dX1_longestWay_36
      · skip
        refine lv_iload_n hx hb dX1_longestWay_10 rfl (lv_at hl 3 rfl) ?_
        refine lv_iload_n hx hb dX1_longestWay_11 rfl (lv_at hl 0 rfl) ?_
        refine ro_fin (va_runSN (As := [.int (nI W0), .int (nI k0)]) (rest := []) ⟨hx, hb, hml, hown, hts⟩ (c_X6_has l Γ H0 W0 k0 (by first | omega | assumption) (by first | omega | assumption)) (kcwSN 2 hts kv_X6_has (hK.nw _ (nwL_at 56 rfl)) (rm_le hR (Nat.le_of_ble_eq_true rfl) (Nat.le_of_ble_eq_true rfl))) (kPc_S hK) rfl rfl hl.1 rfl (lv_room (Nat.le_of_ble_eq_true rfl)) dX1_longestWay_12 ⟨Nat.zero_le _, Nat.zero_le _⟩) hS (fun locs hS => ?_)
        refine nb_ifb_eq (tgt := 29) hx hb dX1_longestWay_15 (by decide) (fun c_15 => ?_) (fun c_15 => ?_)
        · skip
          have hl : lv_has ls 4 [(3, .int (nI k0)), (2, .int (nI (lwA g W0 (k0 + 1)))), (0, .ref a), (1, .int (nI W0))] := lv_cast hl (by rw [lwA, if_f c_15])
          refine lv_iinc (v := (nI (k0 + 1))) (lv' := [(3, .int (nI (k0 + 1))), (2, .int (nI (lwA g W0 (k0 + 1)))), (0, .ref a), (1, .int (nI W0))]) hx hb dX1_longestWay_29 hl (k := 0) rfl (nI_1 _) (by decide) rfl (fun ls hl => ?_)
          refine lv_goto (tgt := 4) hx hb dX1_longestWay_32 (by decide) ?_
          exact ih4 (k0 + 1) (by first | omega | assumption) (by omega) _ hS ls (lv_sub hl [0, 1, 2, 3] rfl)
        · skip
          refine lv_iload_n hx hb dX1_longestWay_18 rfl (lv_at hl 1 rfl) ?_
          refine lv_aload_n hx hb dX1_longestWay_19 rfl (lv_at hl 2 rfl) ?_
          refine lv_iload_n hx hb dX1_longestWay_20 rfl (lv_at hl 0 rfl) ?_
          refine lv_iload_n hx hb dX1_longestWay_21 rfl (lv_at hl 3 rfl) ?_
          refine ro_fin (va_runV (As := [.int (nI k0), .int (nI W0)]) (rest := [.int (nI (lwA g W0 k0))]) ⟨hx, hb, hml, hown, hts⟩ (c_X1_longestWayFrom l Γ H0 a e g k0 W0 (hP.sub (ws' := [(a, .inr (1, [.ref e])), (e, .inl (Γ.2 0, 14, .inl (aN g)))]) [0, 1] rfl) (by first | omega | assumption) (by first | omega | assumption) (by first | omega | assumption)) (kcwV 2 hts kv_X1_longestWayFrom mw_106 (rm_le hR (Nat.le_of_ble_eq_true rfl) (Nat.le_of_ble_eq_true rfl))) (kPc_V hK (va_recv hK.1 hP (ci := 1) (q0 := 0) rfl rfl)) rfl rfl hl.1 rfl (lv_room (Nat.le_of_ble_eq_true rfl)) dX1_longestWay_22 ⟨Nat.zero_le _, Nat.zero_le _⟩) hS (fun locs hS => ?_)
          refine va_mmax hx hb (hml.trans hl.1.symm) hown (hts _ mw_102) (hts _ mw_103) (hts _ mw_104) (hts _ mw_105) (by subst hR; exact Nat.le_of_ble_eq_true rfl) (by subst hR; exact Nat.le_of_ble_eq_true rfl) (Nat.zero_le _) (Nat.zero_le _) dX1_longestWay_25 ?_
          refine tp_i (y := (nI (max (lwA g W0 k0) (lwW g W0 k0 13)))) (nmax (Nat.lt_of_le_of_lt (lwA_le g W0 k0) (by decide)) (Nat.lt_of_le_of_lt (lwW_le g W0 k0 13) (by decide))) ?_
          refine tp_i (y := (nI (lwA g W0 (k0 + 1)))) (by rw [lwA, if_t c_15]) ?_
          refine lv_istore_n (lv' := [(2, .int (nI (lwA g W0 (k0 + 1)))), (3, .int (nI k0)), (0, .ref a), (1, .int (nI W0))]) hx hb dX1_longestWay_28 rfl hl (by decide) rfl (fun ls hl => ?_)
          refine lv_iinc (v := (nI (k0 + 1))) (lv' := [(3, .int (nI (k0 + 1))), (2, .int (nI (lwA g W0 (k0 + 1)))), (0, .ref a), (1, .int (nI W0))]) hx hb dX1_longestWay_29 hl (k := 1) rfl (nI_1 _) (by decide) rfl (fun ls hl => ?_)
          refine lv_goto (tgt := 4) hx hb dX1_longestWay_32 (by decide) ?_
          exact ih4 (k0 + 1) (by first | omega | assumption) (by omega) _ hS ls (lv_sub hl [0, 1, 2, 3] rfl)
  exact LP4 ((14 - 0) + 1) 0 (by first | omega | assumption) (Nat.lt_succ_self _) _ hS ls (lv_sub hl [0, 1, 2, 3] rfl)
