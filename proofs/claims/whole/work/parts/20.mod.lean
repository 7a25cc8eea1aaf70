set_option maxHeartbeats 8000000 in
set_option maxRecDepth 100000 in
theorem c_X7_thrown (l : Launch) (Γ : kG) (H0 : Heap) (ma : Nat) (ms : Nat) (sn0 : Nat) (mk : Nat) (tw0 : Nat) (mt : Nat) (ty0 : Nat) (mb : Nat) (il0 : Bool) (me : Nat) (mr : Nat) (my0 : Nat) (mq : Nat) (mp : Nat) (mw : Nat) (mc : Nat) (hP : va_P Γ.1 vwCl [(ma, .inr (7, [.ref ms, .int (nI sn0), .ref mk, .int (nI tw0), .ref mt, .int (nI ty0), .ref mb, .int (bI il0), .ref me, .ref mr, .int (nI my0), .ref mq, .ref mp, .ref mw, .ref mc]))] H0)  : RO l yX7_thrown (wsq yX7_thrown cX7_thrown 1 (some .int)) (rmL 1) Γ H0 [.ref ma] (nI tw0) := by
  refine ro_ofi (cc := cX7_thrown) (maxL := 1) (by decide +kernel) (Nat.le_of_ble_eq_true rfl) rfl ?_
  intro p ev R st mi args below meth cd Q ls C0 hR hret hh hS hl
  obtain ⟨hx, hb, hr, hml, hown, hts, hlk, hK, hnm⟩ := C0
  have hown : st.vm.findClass RX7 = some mi.cls := hown
  refine lv_aload_n hx hb dX7_thrown_0 rfl (lv_at hl 0 rfl) ?_
  refine va_get (D := Γ.1) (ci := 7) (v := .int (nI tw0)) (C := RX7) (T := TX7) (N := 15) hx hb hts hinX7 hown hK.1 hP 0 rfl rfl 3 (by decide) (hts _ mw_413) (fun _ h9 => h9) rfl dX7_thrown_1 ?_
  exact hret hS (rfl) dX7_thrown_4
set_option maxHeartbeats 8000000 in
set_option maxRecDepth 100000 in
theorem c_X7_in (l : Launch) (Γ : kG) (H0 : Heap) (x0 : Int32) (lo0 : Int32) (hi0 : Int32)  : RO l yX7_in (wsq yX7_in cX7_in 3 (some .boolean)) (rmL 1) Γ H0 [.int x0, .int lo0, .int hi0] (bI (decide (lo0 ≤ x0 ∧ x0 ≤ hi0))) := by
  refine ro_ofz (cc := cX7_in) (maxL := 3) (by decide +kernel) (Nat.le_of_ble_eq_true rfl) rfl ?_
  intro p ev R st mi args below meth cd Q ls C0 hR hret hh hS hl
  obtain ⟨hx, hb, hr, hml, hown, hts, hlk, hK, hnm⟩ := C0
  have hown : st.vm.findClass RX7 = some mi.cls := hown
  refine lv_iload_n hx hb dX7_in_0 rfl (lv_at hl 0 rfl) ?_
  refine lv_iload_n hx hb dX7_in_1 rfl (lv_at hl 1 rfl) ?_
  refine lv_icmp_lt (tgt := 14) hx hb dX7_in_2 (by decide) (fun c_2 => ?_) (fun c_2 => ?_)
  · skip
    refine lv_iconst (v := (nI 0)) hx hb dX7_in_14 (by decide) ?_
    exact hret hS (by first | exact bI_decn (fun q9 => absurd c_2 (Int32.not_lt.mpr q9.1)) | exact bI_decn (fun q9 => absurd c_7 (Int32.not_lt.mpr q9.2))) dX7_in_15
  · skip
    refine lv_iload_n hx hb dX7_in_5 rfl (lv_at hl 0 rfl) ?_
    refine lv_iload_n hx hb dX7_in_6 rfl (lv_at hl 2 rfl) ?_
    refine lv_icmp_gt (tgt := 14) hx hb dX7_in_7 (by decide) (fun c_7 => ?_) (fun c_7 => ?_)
    · skip
      refine lv_iconst (v := (nI 0)) hx hb dX7_in_14 (by decide) ?_
      exact hret hS (by first | exact bI_decn (fun q9 => absurd c_2 (Int32.not_lt.mpr q9.1)) | exact bI_decn (fun q9 => absurd c_7 (Int32.not_lt.mpr q9.2))) dX7_in_15
    · skip
      refine lv_iconst (v := (nI 1)) hx hb dX7_in_10 (by decide) ?_
      refine lv_goto (tgt := 15) hx hb dX7_in_11 (by decide) ?_
      exact hret hS (bI_dec ⟨Int32.not_lt.mp c_2, Int32.not_lt.mp c_7⟩) dX7_in_15
set_option maxHeartbeats 8000000 in
set_option maxRecDepth 100000 in
theorem c_X7_goes (l : Launch) (Γ : kG) (ma : Nat) (ms : Nat) (sn0 : Nat) (mk : Nat) (tw0 : Nat) (mt : Nat) (ty0 : Nat) (mb : Nat) (il0 : Bool) (me : Nat) (mr : Nat) (my0 : Nat) (mq : Nat) (mp : Nat) (mw : Nat) (mc : Nat) (b1 : Bool) (b2 : Bool)  : WRi l yX7_goes (wsq yX7_goes cX7_goes 3 (some .boolean)) (rmL 1) Γ [.ref ma, .int (bI b1), .int (bI b2)] [(ma, .inr (7, [.ref ms, .int (nI sn0), .ref mk, .int (nI tw0), .ref mt, .int (nI ty0), .ref mb, .int (bI il0), .ref me, .ref mr, .int (nI my0), .ref mq, .ref mp, .ref mw, .ref mc]))] (fun u : Unit => [(ma, .inr (7, [.ref ms, .int (nI sn0), .ref mk, .int (nI (gz b1 b2)), .ref mt, .int (nI ty0), .ref mb, .int (bI il0), .ref me, .ref mr, .int (nI my0), .ref mq, .ref mp, .ref mw, .ref mc]))]) (fun (r : Int32) (u : Unit) => r = (bI (b1 && b2))) := by
  refine wr_ofz (cc := cX7_goes) (maxL := 3) (by decide +kernel) (Nat.le_of_ble_eq_true rfl) rfl ?_
  intro p ev R st mi args below meth cd Q A ls C0 hR hret hP hD hS hl
  obtain ⟨hx, hb, hr, hml, hown, hts, hlk, hK, hnm⟩ := C0
  have hown : st.vm.findClass RX7 = some mi.cls := hown
  refine lv_aload_n hx hb dX7_goes_0 rfl (lv_at hl 0 rfl) ?_
  refine lv_iload_n hx hb dX7_goes_1 rfl (lv_at hl 1 rfl) ?_
  refine nb_ifb_ne (tgt := 9) hx hb dX7_goes_2 (by decide) (fun c_2 => ?_) (fun c_2 => ?_)
  · skip
    refine lv_iload_n hx hb dX7_goes_9 rfl (lv_at hl 2 rfl) ?_
    refine nb_ifb_ne (tgt := 17) hx hb dX7_goes_10 (by decide) (fun c_10 => ?_) (fun c_10 => ?_)
    · skip
      refine lv_iconst (v := (nI 0)) hx hb dX7_goes_17 (by decide) ?_
      refine tp_i (y := (nI (gz b1 b2))) (by rw [c_2, c_10]; rfl) ?_
      refine va_put (D := Γ.1) (ci := 7) (v := .int (nI (gz b1 b2))) (ty := .int) (C := RX7) (T := TX7) (N := 15) hx hb hts hinX7 tyX7 tyX7_ok nmX7 hown hK.1 hP hD hS 0 rfl rfl 3 (by decide) (hts _ mw_413) (fun _ h9 => h9) rfl (by decide +kernel) rfl rfl (Nat.le_of_ble_eq_true rfl) dX7_goes_18 (fun H locs hP hD hS => ?_)
      have hP : va_P Γ.1 vwCl [(ma, .inr (7, [.ref ms, .int (nI sn0), .ref mk, .int (nI (gz b1 b2)), .ref mt, .int (nI ty0), .ref mb, .int (bI il0), .ref me, .ref mr, .int (nI my0), .ref mq, .ref mp, .ref mw, .ref mc]))] H := hP
      have hD : va_D A [(ma, .inr (7, [.ref ms, .int (nI sn0), .ref mk, .int (nI (gz b1 b2)), .ref mt, .int (nI ty0), .ref mb, .int (bI il0), .ref me, .ref mr, .int (nI my0), .ref mq, .ref mp, .ref mw, .ref mc]))] := hD
      refine lv_aload_n hx hb dX7_goes_21 rfl (lv_at hl 0 rfl) ?_
      refine va_get (D := Γ.1) (ci := 7) (v := .int (nI (gz b1 b2))) (C := RX7) (T := TX7) (N := 15) hx hb hts hinX7 hown hK.1 hP 0 rfl rfl 3 (by decide) (hts _ mw_413) (fun _ h9 => h9) rfl dX7_goes_22 ?_
      refine nb_if_ne (tgt := 32) hx hb (gz_lt _ _) dX7_goes_25 (by decide) (fun c_25 => ?_) (fun c_25 => ?_)
      · skip
        refine lv_iconst (v := (nI 0)) hx hb dX7_goes_32 (by decide) ?_
        exact hret () hP hS (by first | (revert c_2 c_10 c_25; cases b1 <;> cases b2 <;> decide) | (revert c_2 c_25; cases b1 <;> cases b2 <;> decide)) ⟨false, rfl⟩ dX7_goes_33
      · skip
        refine lv_iconst (v := (nI 1)) hx hb dX7_goes_28 (by decide) ?_
        refine lv_goto (tgt := 33) hx hb dX7_goes_29 (by decide) ?_
        exact hret () hP hS (by first | (revert c_2 c_10 c_25; cases b1 <;> cases b2 <;> decide) | (revert c_2 c_25; cases b1 <;> cases b2 <;> decide)) ⟨true, rfl⟩ dX7_goes_33
    · skip
      refine lv_iconst (v := (nI 2)) hx hb dX7_goes_13 (by decide) ?_
      refine tp_i (y := (nI (gz b1 b2))) (by rw [c_2, c_10]; rfl) ?_
      refine lv_goto (tgt := 18) hx hb dX7_goes_14 (by decide) ?_
      refine va_put (D := Γ.1) (ci := 7) (v := .int (nI (gz b1 b2))) (ty := .int) (C := RX7) (T := TX7) (N := 15) hx hb hts hinX7 tyX7 tyX7_ok nmX7 hown hK.1 hP hD hS 0 rfl rfl 3 (by decide) (hts _ mw_413) (fun _ h9 => h9) rfl (by decide +kernel) rfl rfl (Nat.le_of_ble_eq_true rfl) dX7_goes_18 (fun H locs hP hD hS => ?_)
      have hP : va_P Γ.1 vwCl [(ma, .inr (7, [.ref ms, .int (nI sn0), .ref mk, .int (nI (gz b1 b2)), .ref mt, .int (nI ty0), .ref mb, .int (bI il0), .ref me, .ref mr, .int (nI my0), .ref mq, .ref mp, .ref mw, .ref mc]))] H := hP
      have hD : va_D A [(ma, .inr (7, [.ref ms, .int (nI sn0), .ref mk, .int (nI (gz b1 b2)), .ref mt, .int (nI ty0), .ref mb, .int (bI il0), .ref me, .ref mr, .int (nI my0), .ref mq, .ref mp, .ref mw, .ref mc]))] := hD
      refine lv_aload_n hx hb dX7_goes_21 rfl (lv_at hl 0 rfl) ?_
      refine va_get (D := Γ.1) (ci := 7) (v := .int (nI (gz b1 b2))) (C := RX7) (T := TX7) (N := 15) hx hb hts hinX7 hown hK.1 hP 0 rfl rfl 3 (by decide) (hts _ mw_413) (fun _ h9 => h9) rfl dX7_goes_22 ?_
      refine nb_if_ne (tgt := 32) hx hb (gz_lt _ _) dX7_goes_25 (by decide) (fun c_25 => ?_) (fun c_25 => ?_)
      · skip
        refine lv_iconst (v := (nI 0)) hx hb dX7_goes_32 (by decide) ?_
        exact hret () hP hS (by first | (revert c_2 c_10 c_25; cases b1 <;> cases b2 <;> decide) | (revert c_2 c_25; cases b1 <;> cases b2 <;> decide)) ⟨false, rfl⟩ dX7_goes_33
      · skip
        refine lv_iconst (v := (nI 1)) hx hb dX7_goes_28 (by decide) ?_
        refine lv_goto (tgt := 33) hx hb dX7_goes_29 (by decide) ?_
        exact hret () hP hS (by first | (revert c_2 c_10 c_25; cases b1 <;> cases b2 <;> decide) | (revert c_2 c_25; cases b1 <;> cases b2 <;> decide)) ⟨true, rfl⟩ dX7_goes_33
  · skip
    refine lv_iconst (v := (nI 1)) hx hb dX7_goes_5 (by decide) ?_
    refine tp_i (y := (nI (gz b1 b2))) (by rw [c_2]; rfl) ?_
    refine lv_goto (tgt := 18) hx hb dX7_goes_6 (by decide) ?_
    refine va_put (D := Γ.1) (ci := 7) (v := .int (nI (gz b1 b2))) (ty := .int) (C := RX7) (T := TX7) (N := 15) hx hb hts hinX7 tyX7 tyX7_ok nmX7 hown hK.1 hP hD hS 0 rfl rfl 3 (by decide) (hts _ mw_413) (fun _ h9 => h9) rfl (by decide +kernel) rfl rfl (Nat.le_of_ble_eq_true rfl) dX7_goes_18 (fun H locs hP hD hS => ?_)
    have hP : va_P Γ.1 vwCl [(ma, .inr (7, [.ref ms, .int (nI sn0), .ref mk, .int (nI (gz b1 b2)), .ref mt, .int (nI ty0), .ref mb, .int (bI il0), .ref me, .ref mr, .int (nI my0), .ref mq, .ref mp, .ref mw, .ref mc]))] H := hP
    have hD : va_D A [(ma, .inr (7, [.ref ms, .int (nI sn0), .ref mk, .int (nI (gz b1 b2)), .ref mt, .int (nI ty0), .ref mb, .int (bI il0), .ref me, .ref mr, .int (nI my0), .ref mq, .ref mp, .ref mw, .ref mc]))] := hD
    refine lv_aload_n hx hb dX7_goes_21 rfl (lv_at hl 0 rfl) ?_
    refine va_get (D := Γ.1) (ci := 7) (v := .int (nI (gz b1 b2))) (C := RX7) (T := TX7) (N := 15) hx hb hts hinX7 hown hK.1 hP 0 rfl rfl 3 (by decide) (hts _ mw_413) (fun _ h9 => h9) rfl dX7_goes_22 ?_
    refine nb_if_ne (tgt := 32) hx hb (gz_lt _ _) dX7_goes_25 (by decide) (fun c_25 => ?_) (fun c_25 => ?_)
    · skip
      refine lv_iconst (v := (nI 0)) hx hb dX7_goes_32 (by decide) ?_
      exact hret () hP hS (by first | (revert c_2 c_10 c_25; cases b1 <;> cases b2 <;> decide) | (revert c_2 c_25; cases b1 <;> cases b2 <;> decide)) ⟨false, rfl⟩ dX7_goes_33
    · skip
      refine lv_iconst (v := (nI 1)) hx hb dX7_goes_28 (by decide) ?_
      refine lv_goto (tgt := 33) hx hb dX7_goes_29 (by decide) ?_
      exact hret () hP hS (by first | (revert c_2 c_10 c_25; cases b1 <;> cases b2 <;> decide) | (revert c_2 c_25; cases b1 <;> cases b2 <;> decide)) ⟨true, rfl⟩ dX7_goes_33
set_option maxHeartbeats 8000000 in
set_option maxRecDepth 100000 in
theorem c_X7_bits (l : Launch) (Γ : kG) (H0 : Heap) (S0 : Nat) (hS0 : S0 < 2147483648) : RO l yX7_bits (wsq yX7_bits cX7_bits 3 (some .int)) (rmL 1) Γ H0 [.int (nI S0)] (nI (pc S0)) := by
  refine ro_ofi (cc := cX7_bits) (maxL := 3) (by decide +kernel) (Nat.le_of_ble_eq_true rfl) rfl ?_
  intro p ev R st mi args below meth cd Q ls C0 hR hret hh hS hl
  obtain ⟨hx, hb, hr, hml, hown, hts, hlk, hK, hnm⟩ := C0
  have hown : st.vm.findClass RX7 = some mi.cls := hown
  refine lv_iconst (v := (nI 0)) hx hb dX7_bits_0 (by decide) ?_
  refine lv_istore_n (lv' := [(1, .int (nI 0)), (0, .int (nI S0))]) hx hb dX7_bits_1 rfl hl (by decide) rfl (fun ls hl => ?_)
  refine lv_iconst (v := (nI 0)) hx hb dX7_bits_2 (by decide) ?_
  refine lv_istore_n (lv' := [(2, .int (nI 0)), (1, .int (nI 0)), (0, .int (nI S0))]) hx hb dX7_bits_3 rfl hl (by decide) rfl (fun ls hl => ?_)
  have LP4 : ∀ (fu : Nat) (k0 : Nat) (hk0 : k0 ≤ 14), (14 - k0) < fu → ∀ (locs : List Loc), va_S (fun _ => False) H0 H0 locs → ∀ (ls : Array Slot), lv_has ls 3 [(2, .int (nI k0)), (1, .int (nI (pcn S0 k0))), (0, .int (nI S0))] → W p l ev R st mi args below meth cd H0 locs 0 0 Q (F0 mi 4 ls []) := by
    intro fu
    induction fu with
    | zero => intro k0 hk0 hfu; exact absurd hfu (Nat.not_lt_zero _)
    | succ fu ih4 =>
      intro k0 hk0 hfu locs hS ls hl
      refine lv_iload_n hx hb dX7_bits_4 rfl (lv_at hl 0 rfl) ?_
      refine lv_bipush (v := (nI 14)) hx hb dX7_bits_5 (by decide) ?_
      refine nb_icmp_ge (tgt := 24) hx hb (by first | omega | assumption) (by first | omega | assumption) dX7_bits_7 (by decide) (fun c_7 => ?_) (fun c_7 => ?_)
      · skip
        obtain rfl : k0 = 14 := by omega
        refine lv_iload_n hx hb dX7_bits_24 rfl (lv_at hl 1 rfl) ?_
        exact hret hS (rfl) dX7_bits_25
      · skip
        refine lv_iload_n hx hb dX7_bits_10 rfl (lv_at hl 1 rfl) ?_
        refine lv_iload_n hx hb dX7_bits_11 rfl (lv_at hl 2 rfl) ?_
        refine lv_iload_n hx hb dX7_bits_12 rfl (lv_at hl 0 rfl) ?_
        refine lv_ishr hx hb dX7_bits_13 ?_
        refine tp_i (y := (nI (S0 >>> k0))) (ni_shr (by omega) (by omega)) ?_
        refine lv_iconst (v := (nI 1)) hx hb dX7_bits_14 (by decide) ?_
        refine lv_iand hx hb dX7_bits_15 ?_
        refine tp_i (y := (nI ((Nat.testBit S0 k0).toNat))) (ni_bit _ _) ?_
        refine lv_iadd hx hb dX7_bits_16 ?_
        refine tp_i (y := (nI ((pcn S0 k0) + ((Nat.testBit S0 k0).toNat)))) (nI_add _ _) ?_
        refine tp_i (y := (nI (pcn S0 (k0 + 1)))) (rfl) ?_
        refine lv_istore_n (lv' := [(1, .int (nI (pcn S0 (k0 + 1)))), (2, .int (nI k0)), (0, .int (nI S0))]) hx hb dX7_bits_17 rfl hl (by decide) rfl (fun ls hl => ?_)
        refine lv_iinc (v := (nI (k0 + 1))) (lv' := [(2, .int (nI (k0 + 1))), (1, .int (nI (pcn S0 (k0 + 1)))), (0, .int (nI S0))]) hx hb dX7_bits_18 hl (k := 1) rfl (nI_1 _) (by decide) rfl (fun ls hl => ?_)
        refine lv_goto (tgt := 4) hx hb dX7_bits_21 (by decide) ?_
        exact ih4 (k0 + 1) (by first | omega | assumption) (by omega) _ hS ls (lv_sub hl [0, 1, 2] rfl)
  exact LP4 ((14 - 0) + 1) 0 (by first | omega | assumption) (Nat.lt_succ_self _) _ hS ls (lv_sub hl [0, 1, 2] rfl)
set_option maxHeartbeats 8000000 in
set_option maxRecDepth 100000 in
theorem c_X7_lowest (l : Launch) (Γ : kG) (H0 : Heap) (S0 : Nat) (hS0 : S0 < 16384) : RO l yX7_lowest (wsq yX7_lowest cX7_lowest 3 (some .int)) (rmL 1) Γ H0 [.int (nI S0)] (loI S0) := by
  refine ro_ofi (cc := cX7_lowest) (maxL := 3) (by decide +kernel) (Nat.le_of_ble_eq_true rfl) rfl ?_
  intro p ev R st mi args below meth cd Q ls C0 hR hret hh hS hl
  obtain ⟨hx, hb, hr, hml, hown, hts, hlk, hK, hnm⟩ := C0
  have hown : st.vm.findClass RX7 = some mi.cls := hown
  refine lv_iconst (v := (-1)) hx hb dX7_lowest_0 (by decide) ?_
  refine lv_istore_n (lv' := [(1, .int (-1)), (0, .int (nI S0))]) hx hb dX7_lowest_1 rfl hl (by decide) rfl (fun ls hl => ?_)
  refine lv_bipush (v := (nI 13)) hx hb dX7_lowest_2 (by decide) ?_
  refine lv_istore_n (lv' := [(2, .int (nI 13)), (1, .int (-1)), (0, .int (nI S0))]) hx hb dX7_lowest_4 rfl hl (by decide) rfl (fun ls hl => ?_)
  have LP5 : ∀ (fu : Nat) (d0 : Nat) (hd0 : d0 ≤ 14), (14 - d0) < fu → ∀ (locs : List Loc), va_S (fun _ => False) H0 H0 locs → ∀ (ls : Array Slot), lv_has ls 3 [(2, .int (dn d0)), (1, .int (lwD S0 d0)), (0, .int (nI S0))] → W p l ev R st mi args below meth cd H0 locs 0 0 Q (F0 mi 5 ls []) := by
    intro fu
    induction fu with
    | zero => intro d0 hd0 hfu; exact absurd hfu (Nat.not_lt_zero _)
    | succ fu ih5 =>
      intro d0 hd0 hfu locs hS ls hl
      refine lv_iload_n hx hb dX7_lowest_5 rfl (lv_at hl 0 rfl) ?_
      refine lv_if_lt (tgt := 30) hx hb dX7_lowest_6 (by decide) (fun c_6 => ?_) (fun c_6 => ?_)
      · skip
        obtain rfl : d0 = 14 := (dn_neg hd0).mp c_6
        refine lv_iload_n hx hb dX7_lowest_30 rfl (lv_at hl 1 rfl) ?_
        exact hret hS (by rw [lwD_14 hS0]) dX7_lowest_31
      · skip
        have hd1 : d0 < 14 := by
          rcases Nat.lt_or_ge d0 14 with z9 | z9
          · exact z9
          · exact absurd ((dn_neg hd0).mpr (by omega)) c_6
        have hl : lv_has ls 3 [(2, .int (nI (13 - d0))), (1, .int (lwD S0 d0)), (0, .int (nI S0))] := lv_cast hl (by rw [dn_lt hd1])
        refine lv_iload_n hx hb dX7_lowest_9 rfl (lv_at hl 2 rfl) ?_
        refine lv_iload_n hx hb dX7_lowest_10 rfl (lv_at hl 0 rfl) ?_
        refine lv_ishr hx hb dX7_lowest_11 ?_
        refine tp_i (y := (nI (S0 >>> (13 - d0)))) (ni_shr (by omega) (by omega)) ?_
        refine lv_iconst (v := (nI 1)) hx hb dX7_lowest_12 (by decide) ?_
        refine lv_iand hx hb dX7_lowest_13 ?_
        refine tp_i (y := (nI ((Nat.testBit S0 (13 - d0)).toNat))) (ni_bit _ _) ?_
        refine lv_iconst (v := (nI 1)) hx hb dX7_lowest_14 (by decide) ?_
        refine nb_icmp_ne (tgt := 22) hx hb (tn_lt _) (by omega) dX7_lowest_15 (by decide) (fun c_15 => ?_) (fun c_15 => ?_)
        · skip
          have hb9 := ts_f (fun q9 => c_15 (tn_1.mpr q9))
          refine lv_iload_n hx hb dX7_lowest_22 rfl (lv_at hl 1 rfl) ?_
          refine tp_i (y := (lwD S0 (d0 + 1))) (by rw [lwD, if_f hb9]) ?_
          refine lv_istore_n (lv' := [(1, .int (lwD S0 (d0 + 1))), (2, .int (nI (13 - d0))), (0, .int (nI S0))]) hx hb dX7_lowest_23 rfl hl (by decide) rfl (fun ls hl => ?_)
          refine lv_iinc (v := (dn (d0 + 1))) (lv' := [(2, .int (dn (d0 + 1))), (1, .int (lwD S0 (d0 + 1))), (0, .int (nI S0))]) hx hb dX7_lowest_24 hl (k := 1) rfl (dn_s hd1) (by decide) rfl (fun ls hl => ?_)
          refine lv_goto (tgt := 5) hx hb dX7_lowest_27 (by decide) ?_
          exact ih5 (d0 + 1) (by first | omega | assumption) (by omega) _ hS ls (lv_sub hl [0, 1, 2] rfl)
        · skip
          have hb9 := tn_1.mp c_15
          refine lv_iload_n hx hb dX7_lowest_18 rfl (lv_at hl 0 rfl) ?_
          refine tp_i (y := (lwD S0 (d0 + 1))) (by rw [lwD, if_t hb9]) ?_
          refine lv_goto (tgt := 23) hx hb dX7_lowest_19 (by decide) ?_
          refine lv_istore_n (lv' := [(1, .int (lwD S0 (d0 + 1))), (2, .int (nI (13 - d0))), (0, .int (nI S0))]) hx hb dX7_lowest_23 rfl hl (by decide) rfl (fun ls hl => ?_)
          refine lv_iinc (v := (dn (d0 + 1))) (lv' := [(2, .int (dn (d0 + 1))), (1, .int (lwD S0 (d0 + 1))), (0, .int (nI S0))]) hx hb dX7_lowest_24 hl (k := 1) rfl (dn_s hd1) (by decide) rfl (fun ls hl => ?_)
          refine lv_goto (tgt := 5) hx hb dX7_lowest_27 (by decide) ?_
          exact ih5 (d0 + 1) (by first | omega | assumption) (by omega) _ hS ls (lv_sub hl [0, 1, 2] rfl)
  exact LP5 ((14 - 0) + 1) 0 (by first | omega | assumption) (Nat.lt_succ_self _) _ hS ls (lv_sub hl [0, 1, 2] rfl)
set_option maxHeartbeats 8000000 in
set_option maxRecDepth 100000 in
theorem c_X7_isThere (l : Launch) (Γ : kG) (H0 : Heap) (ma : Nat) (ms : Nat) (sn0 : Nat) (mk : Nat) (tw0 : Nat) (mt : Nat) (ty0 : Nat) (mb : Nat) (il0 : Bool) (me : Nat) (mr : Nat) (my0 : Nat) (mq : Nat) (mp : Nat) (mw : Nat) (mc : Nat) (ss : Nat → Nat) (v0 : Nat) (hP : va_P Γ.1 vwCl [(ma, .inr (7, [.ref ms, .int (nI sn0), .ref mk, .int (nI tw0), .ref mt, .int (nI ty0), .ref mb, .int (bI il0), .ref me, .ref mr, .int (nI my0), .ref mq, .ref mp, .ref mw, .ref mc])), (ms, .inl (Γ.2 0, 162, .inl (aN ss)))] H0) (h1 : ss 1 < 16384) (hv0 : v0 < 14) : RO l yX7_isThere (wsq yX7_isThere cX7_isThere 2 (some .boolean)) (rmL 1) Γ H0 [.ref ma, .int (nI v0)] (bI ((ss 1).testBit v0)) := by
  refine ro_ofz (cc := cX7_isThere) (maxL := 2) (by decide +kernel) (Nat.le_of_ble_eq_true rfl) rfl ?_
  intro p ev R st mi args below meth cd Q ls C0 hR hret hh hS hl
  obtain ⟨hx, hb, hr, hml, hown, hts, hlk, hK, hnm⟩ := C0
  have hown : st.vm.findClass RX7 = some mi.cls := hown
  refine lv_aload_n hx hb dX7_isThere_0 rfl (lv_at hl 0 rfl) ?_
  refine va_get (D := Γ.1) (ci := 7) (v := .ref ms) (C := RX7) (T := TX7) (N := 15) hx hb hts hinX7 hown hK.1 hP 0 rfl rfl 0 (by decide) (hts _ mw_400) (fun _ h9 => h9) rfl dX7_isThere_1 ?_
  refine lv_iconst (v := (nI 1)) hx hb dX7_isThere_4 (by decide) ?_
  refine iald_N hx hb hK.1 hP 1 0 rfl rfl (by omega) (by first | decide | assumption) dX7_isThere_5 ?_
  refine lv_iload_n hx hb dX7_isThere_6 rfl (lv_at hl 1 rfl) ?_
  refine lv_ishr hx hb dX7_isThere_7 ?_
  refine tp_i (y := (nI ((ss 1) >>> v0))) (ni_shr (by omega) (by omega)) ?_
  refine lv_iconst (v := (nI 1)) hx hb dX7_isThere_8 (by decide) ?_
  refine lv_iand hx hb dX7_isThere_9 ?_
  refine tp_i (y := (nI ((Nat.testBit (ss 1) v0).toNat))) (ni_bit _ _) ?_
  refine lv_iconst (v := (nI 1)) hx hb dX7_isThere_10 (by decide) ?_
  refine nb_icmp_ne (tgt := 18) hx hb (tn_lt _) (by omega) dX7_isThere_11 (by decide) (fun c_11 => ?_) (fun c_11 => ?_)
  · skip
    refine lv_iconst (v := (nI 0)) hx hb dX7_isThere_18 (by decide) ?_
    exact hret hS (by rw [ts_f (fun q9 => c_11 (tn_1.mpr q9))]; rfl) dX7_isThere_19
  · skip
    refine lv_iconst (v := (nI 1)) hx hb dX7_isThere_14 (by decide) ?_
    refine lv_goto (tgt := 19) hx hb dX7_isThere_15 (by decide) ?_
    exact hret hS (by rw [tn_1.mp c_11]; rfl) dX7_isThere_19
set_option maxHeartbeats 8000000 in
set_option maxRecDepth 100000 in
theorem c_X7_isNode (l : Launch) (Γ : kG) (H0 : Heap) (ma : Nat) (ms : Nat) (sn0 : Nat) (mk : Nat) (tw0 : Nat) (mt : Nat) (ty0 : Nat) (mb : Nat) (il0 : Bool) (me : Nat) (mr : Nat) (my0 : Nat) (mq : Nat) (mp : Nat) (mw : Nat) (mc : Nat) (ss : Nat → Nat) (x0 : Int32) (hP : va_P Γ.1 vwCl [(ma, .inr (7, [.ref ms, .int (nI sn0), .ref mk, .int (nI tw0), .ref mt, .int (nI ty0), .ref mb, .int (bI il0), .ref me, .ref mr, .int (nI my0), .ref mq, .ref mp, .ref mw, .ref mc])), (ms, .inl (Γ.2 0, 162, .inl (aN ss)))] H0) (h0 : ss 0 ≤ 14) : RO l yX7_isNode (wsq yX7_isNode cX7_isNode 2 (some .boolean)) (rmL 2) Γ H0 [.ref ma, .int x0] (bI (isN (ss 0) x0)) := by
  refine ro_ofz (cc := cX7_isNode) (maxL := 2) (by decide +kernel) (Nat.le_of_ble_eq_true rfl) rfl ?_
  intro p ev R st mi args below meth cd Q ls C0 hR hret hh hS hl
  obtain ⟨hx, hb, hr, hml, hown, hts, hlk, hK, hnm⟩ := C0
  have hown : st.vm.findClass RX7 = some mi.cls := hown
  refine lv_iload_n hx hb dX7_isNode_0 rfl (lv_at hl 1 rfl) ?_
  refine lv_iconst (v := (nI 0)) hx hb dX7_isNode_1 (by decide) ?_
  refine lv_aload_n hx hb dX7_isNode_2 rfl (lv_at hl 0 rfl) ?_
  refine va_get (D := Γ.1) (ci := 7) (v := .ref ms) (C := RX7) (T := TX7) (N := 15) hx hb hts hinX7 hown hK.1 hP 0 rfl rfl 0 (by decide) (hts _ mw_400) (fun _ h9 => h9) rfl dX7_isNode_3 ?_
  refine lv_iconst (v := (nI 0)) hx hb dX7_isNode_6 (by decide) ?_
  refine iald_N hx hb hK.1 hP 1 0 rfl rfl (by omega) (by first | decide | assumption) dX7_isNode_7 ?_
  refine lv_iconst (v := (nI 1)) hx hb dX7_isNode_8 (by decide) ?_
  refine lv_isub hx hb dX7_isNode_9 ?_
  refine tp_i (y := (nI (ss 0) - nI 1)) (rfl) ?_
  refine ro_fin (va_runS (As := [.int x0, .int (nI 0), .int (nI (ss 0) - nI 1)]) (rest := []) ⟨hx, hb, hml, hown, hts⟩ (c_X7_in l Γ H0 x0 (nI 0) (nI (ss 0) - nI 1) ) (kcwS 3 hts kv_X7_in mw_427 (rm_le hR (Nat.le_of_ble_eq_true rfl) (Nat.le_of_ble_eq_true rfl))) (kPc_S hK) rfl rfl hl.1 rfl (lv_room (Nat.le_of_ble_eq_true rfl)) dX7_isNode_10 ⟨Nat.zero_le _, Nat.zero_le _⟩) hS (fun locs hS => ?_)
  exact hret hS (by rw [isN_eq h0]) dX7_isNode_13
set_option maxHeartbeats 8000000 in
set_option maxRecDepth 100000 in
theorem c_X7_behind (l : Launch) (Γ : kG) (H0 : Heap) (ma : Nat) (ms : Nat) (sn0 : Nat) (mk : Nat) (tw0 : Nat) (mt : Nat) (ty0 : Nat) (mb : Nat) (il0 : Bool) (me : Nat) (mr : Nat) (my0 : Nat) (mq : Nat) (mp : Nat) (mw : Nat) (mc : Nat) (ss : Nat → Nat) (v0 : Nat) (hP : va_P Γ.1 vwCl [(ma, .inr (7, [.ref ms, .int (nI sn0), .ref mk, .int (nI tw0), .ref mt, .int (nI ty0), .ref mb, .int (bI il0), .ref me, .ref mr, .int (nI my0), .ref mq, .ref mp, .ref mw, .ref mc])), (ms, .inl (Γ.2 0, 162, .inl (aN ss)))] H0) (hv0 : v0 < 14) : RO l yX7_behind (wsq yX7_behind cX7_behind 2 (some .int)) (rmL 1) Γ H0 [.ref ma, .int (nI v0)] (nI (lft (gS ss) (ss 1) v0)) := by
  refine ro_ofi (cc := cX7_behind) (maxL := 2) (by decide +kernel) (Nat.le_of_ble_eq_true rfl) rfl ?_
  intro p ev R st mi args below meth cd Q ls C0 hR hret hh hS hl
  obtain ⟨hx, hb, hr, hml, hown, hts, hlk, hK, hnm⟩ := C0
  have hown : st.vm.findClass RX7 = some mi.cls := hown
  refine lv_aload_n hx hb dX7_behind_0 rfl (lv_at hl 0 rfl) ?_
  refine va_get (D := Γ.1) (ci := 7) (v := .ref ms) (C := RX7) (T := TX7) (N := 15) hx hb hts hinX7 hown hK.1 hP 0 rfl rfl 0 (by decide) (hts _ mw_400) (fun _ h9 => h9) rfl dX7_behind_1 ?_
  refine lv_iconst (v := (nI 1)) hx hb dX7_behind_4 (by decide) ?_
  refine iald_N hx hb hK.1 hP 1 0 rfl rfl (by omega) (by first | decide | assumption) dX7_behind_5 ?_
  refine lv_iconst (v := (nI 1)) hx hb dX7_behind_6 (by decide) ?_
  refine lv_iload_n hx hb dX7_behind_7 rfl (lv_at hl 1 rfl) ?_
  refine lv_ishl hx hb dX7_behind_8 ?_
  refine tp_i (y := (nI (2 ^ v0))) (ni_shl1 (by omega)) ?_
  refine lv_aload_n hx hb dX7_behind_9 rfl (lv_at hl 0 rfl) ?_
  refine va_get (D := Γ.1) (ci := 7) (v := .ref ms) (C := RX7) (T := TX7) (N := 15) hx hb hts hinX7 hown hK.1 hP 0 rfl rfl 0 (by decide) (hts _ mw_400) (fun _ h9 => h9) rfl dX7_behind_10 ?_
  refine lv_iconst (v := (nI 4)) hx hb dX7_behind_13 (by decide) ?_
  refine lv_iload_n hx hb dX7_behind_14 rfl (lv_at hl 1 rfl) ?_
  refine lv_iadd hx hb dX7_behind_15 ?_
  refine tp_i (y := (nI (4 + v0))) (nI_add _ _) ?_
  refine iald_N hx hb hK.1 hP 1 0 rfl rfl (by omega) (by first | decide | assumption) dX7_behind_16 ?_
  refine lv_ior hx hb dX7_behind_17 ?_
  refine tp_i (y := (nI ((2 ^ v0) ||| (ss (4 + v0))))) (ni_or _ _) ?_
  refine lv_iconst (v := (-1)) hx hb dX7_behind_18 (by decide) ?_
  refine lv_ixor hx hb dX7_behind_19 ?_
  refine lv_iand hx hb dX7_behind_20 ?_
  refine tp_i (y := (nI (sd (ss 1) ((2 ^ v0) ||| (ss (4 + v0)))))) (ni_sd _ _) ?_
  exact hret hS (rfl) dX7_behind_21
set_option maxHeartbeats 8000000 in
set_option maxRecDepth 100000 in
theorem c_X7_left (l : Launch) (Γ : kG) (H0 : Heap) (ma : Nat) (ms : Nat) (sn0 : Nat) (mk : Nat) (tw0 : Nat) (mt : Nat) (ty0 : Nat) (mb : Nat) (il0 : Bool) (me : Nat) (mr : Nat) (my0 : Nat) (mq : Nat) (mp : Nat) (mw : Nat) (mc : Nat) (ed : Nat → Nat) (S0 : Nat) (v0 : Nat) (hP : va_P Γ.1 vwCl [(ma, .inr (7, [.ref ms, .int (nI sn0), .ref mk, .int (nI tw0), .ref mt, .int (nI ty0), .ref mb, .int (bI il0), .ref me, .ref mr, .int (nI my0), .ref mq, .ref mp, .ref mw, .ref mc])), (me, .inl (Γ.2 0, 14, .inl (aN ed)))] H0) (hv0 : v0 < 14) : RO l yX7_left (wsq yX7_left cX7_left 3 (some .int)) (rmL 1) Γ H0 [.ref ma, .int (nI S0), .int (nI v0)] (nI (lft ed S0 v0)) := by
  refine ro_ofi (cc := cX7_left) (maxL := 3) (by decide +kernel) (Nat.le_of_ble_eq_true rfl) rfl ?_
  intro p ev R st mi args below meth cd Q ls C0 hR hret hh hS hl
  obtain ⟨hx, hb, hr, hml, hown, hts, hlk, hK, hnm⟩ := C0
  have hown : st.vm.findClass RX7 = some mi.cls := hown
  refine lv_iload_n hx hb dX7_left_0 rfl (lv_at hl 1 rfl) ?_
  refine lv_iconst (v := (nI 1)) hx hb dX7_left_1 (by decide) ?_
  refine lv_iload_n hx hb dX7_left_2 rfl (lv_at hl 2 rfl) ?_
  refine lv_ishl hx hb dX7_left_3 ?_
  refine tp_i (y := (nI (2 ^ v0))) (ni_shl1 (by omega)) ?_
  refine lv_aload_n hx hb dX7_left_4 rfl (lv_at hl 0 rfl) ?_
  refine va_get (D := Γ.1) (ci := 7) (v := .ref me) (C := RX7) (T := TX7) (N := 15) hx hb hts hinX7 hown hK.1 hP 0 rfl rfl 8 (by decide) (hts _ mw_405) (fun _ h9 => h9) rfl dX7_left_5 ?_
  refine lv_iload_n hx hb dX7_left_8 rfl (lv_at hl 2 rfl) ?_
  refine iald_N hx hb hK.1 hP 1 0 rfl rfl (by omega) (by first | decide | assumption) dX7_left_9 ?_
  refine lv_ior hx hb dX7_left_10 ?_
  refine tp_i (y := (nI ((2 ^ v0) ||| (ed v0)))) (ni_or _ _) ?_
  refine lv_iconst (v := (-1)) hx hb dX7_left_11 (by decide) ?_
  refine lv_ixor hx hb dX7_left_12 ?_
  refine lv_iand hx hb dX7_left_13 ?_
  refine tp_i (y := (nI (sd S0 ((2 ^ v0) ||| (ed v0))))) (ni_sd _ _) ?_
  exact hret hS (rfl) dX7_left_14
