set_option maxHeartbeats 8000000 in
set_option maxRecDepth 100000 in
theorem c_X5_wipe (l : Launch) (Γ : kG) (ta : Nat) (tc : Nat) (sz0 : Nat) (tx : Nat → Nat)  : WRv l yX5_wipe (wsq yX5_wipe cX5_wipe 1 none) (rmL 1) Γ [.ref ta] [(ta, .inr (5, [.ref tc, .int (nI sz0)])), (tc, .inl (Γ.2 0, 14, .inl (aN tx)))] (fun u : Unit => [(ta, .inr (5, [.ref tc, .int (nI 0)])), (tc, .inl (Γ.2 0, 14, .inl (aN tx)))]) (fun u : Unit => True) := by
  refine wr_ofv (cc := cX5_wipe) (maxL := 1) (by decide +kernel) (Nat.le_of_ble_eq_true rfl) rfl ?_
  intro p ev R st mi args below meth cd Q A ls C0 hR hret hP hD hS hl
  obtain ⟨hx, hb, hr, hml, hown, hts, hlk, hK, hnm⟩ := C0
  have hown : st.vm.findClass RX5 = some mi.cls := hown
  refine lv_aload_n hx hb dX5_wipe_0 rfl (lv_at hl 0 rfl) ?_
  refine lv_iconst (v := (nI 0)) hx hb dX5_wipe_1 (by decide) ?_
  refine va_put (D := Γ.1) (ci := 5) (v := .int (nI 0)) (ty := .int) (C := RX5) (T := TX5) (N := 2) hx hb hts hinX5 tyX5 tyX5_ok nmX5 hown hK.1 hP hD hS 0 rfl rfl 1 (by decide) (hts _ mw_190) (fun _ h9 => h9) rfl (by decide +kernel) rfl rfl (Nat.le_of_ble_eq_true rfl) dX5_wipe_2 (fun H locs hP hD hS => ?_)
  have hP : va_P Γ.1 vwCl [(ta, .inr (5, [.ref tc, .int (nI 0)])), (tc, .inl (Γ.2 0, 14, .inl (aN tx)))] H := hP
  have hD : va_D A [(ta, .inr (5, [.ref tc, .int (nI 0)])), (tc, .inl (Γ.2 0, 14, .inl (aN tx)))] := hD
  exact hret () hP hS (trivial) dX5_wipe_5
set_option maxHeartbeats 8000000 in
set_option maxRecDepth 100000 in
theorem c_X5_put (l : Launch) (Γ : kG) (ta : Nat) (tc : Nat) (sz0 : Nat) (tx : Nat → Nat) (v0 : Nat) (hsz : sz0 < 14) : WRv l yX5_put (wsq yX5_put cX5_put 2 none) (rmL 1) Γ [.ref ta, .int (nI v0)] [(ta, .inr (5, [.ref tc, .int (nI sz0)])), (tc, .inl (Γ.2 0, 14, .inl (aN tx)))] (fun u : Unit => [(ta, .inr (5, [.ref tc, .int (nI (sz0 + 1))])), (tc, .inl (Γ.2 0, 14, .inl (aN (upN tx sz0 v0))))]) (fun u : Unit => True) := by
  refine wr_ofv (cc := cX5_put) (maxL := 2) (by decide +kernel) (Nat.le_of_ble_eq_true rfl) rfl ?_
  intro p ev R st mi args below meth cd Q A ls C0 hR hret hP hD hS hl
  obtain ⟨hx, hb, hr, hml, hown, hts, hlk, hK, hnm⟩ := C0
  have hown : st.vm.findClass RX5 = some mi.cls := hown
  refine lv_aload_n hx hb dX5_put_0 rfl (lv_at hl 0 rfl) ?_
  refine va_get (D := Γ.1) (ci := 5) (v := .int (nI sz0)) (C := RX5) (T := TX5) (N := 2) hx hb hts hinX5 hown hK.1 hP 0 rfl rfl 1 (by decide) (hts _ mw_190) (fun _ h9 => h9) rfl dX5_put_1 ?_
  refine nb_if_lt (tgt := 36) hx hb (by first | omega | assumption) dX5_put_4 (by decide) ?_
  refine lv_aload_n hx hb dX5_put_7 rfl (lv_at hl 0 rfl) ?_
  refine va_get (D := Γ.1) (ci := 5) (v := .int (nI sz0)) (C := RX5) (T := TX5) (N := 2) hx hb hts hinX5 hown hK.1 hP 0 rfl rfl 1 (by decide) (hts _ mw_190) (fun _ h9 => h9) rfl dX5_put_8 ?_
  refine lv_bipush (v := (nI 14)) hx hb dX5_put_11 (by decide) ?_
  refine nb_icmp_ge (tgt := 36) hx hb (by first | omega | assumption) (by first | omega | assumption) dX5_put_13 (by decide) (fun c_13 => by exfalso; omega) (fun c_13 => ?_)
  refine lv_aload_n hx hb dX5_put_16 rfl (lv_at hl 0 rfl) ?_
  refine va_get (D := Γ.1) (ci := 5) (v := .ref tc) (C := RX5) (T := TX5) (N := 2) hx hb hts hinX5 hown hK.1 hP 0 rfl rfl 0 (by decide) (hts _ mw_189) (fun _ h9 => h9) rfl dX5_put_17 ?_
  refine lv_aload_n hx hb dX5_put_20 rfl (lv_at hl 0 rfl) ?_
  refine va_get (D := Γ.1) (ci := 5) (v := .int (nI sz0)) (C := RX5) (T := TX5) (N := 2) hx hb hts hinX5 hown hK.1 hP 0 rfl rfl 1 (by decide) (hts _ mw_190) (fun _ h9 => h9) rfl dX5_put_21 ?_
  refine lv_iload_n hx hb dX5_put_24 rfl (lv_at hl 1 rfl) ?_
  refine iast_N hx hb hK.1 hP hD hS 1 0 rfl rfl (by omega) (by first | decide | assumption) dX5_put_25 (fun H locs hP hD hS => ?_)
  have hP : va_P Γ.1 vwCl [(ta, .inr (5, [.ref tc, .int (nI sz0)])), (tc, .inl (Γ.2 0, 14, .inl (aN (upN tx sz0 v0))))] H := hP
  have hD : va_D A [(ta, .inr (5, [.ref tc, .int (nI sz0)])), (tc, .inl (Γ.2 0, 14, .inl (aN (upN tx sz0 v0))))] := hD
  refine lv_aload_n hx hb dX5_put_26 rfl (lv_at hl 0 rfl) ?_
  refine lv_dup hx hb dX5_put_27 rfl ?_
  refine va_get (D := Γ.1) (ci := 5) (v := .int (nI sz0)) (C := RX5) (T := TX5) (N := 2) hx hb hts hinX5 hown hK.1 hP 0 rfl rfl 1 (by decide) (hts _ mw_190) (fun _ h9 => h9) rfl dX5_put_28 ?_
  refine lv_iconst (v := (nI 1)) hx hb dX5_put_31 (by decide) ?_
  refine lv_iadd hx hb dX5_put_32 ?_
  refine tp_i (y := (nI (sz0 + 1))) (nI_add _ _) ?_
  refine va_put (D := Γ.1) (ci := 5) (v := .int (nI (sz0 + 1))) (ty := .int) (C := RX5) (T := TX5) (N := 2) hx hb hts hinX5 tyX5 tyX5_ok nmX5 hown hK.1 hP hD hS 0 rfl rfl 1 (by decide) (hts _ mw_190) (fun _ h9 => h9) rfl (by decide +kernel) rfl rfl (Nat.le_of_ble_eq_true rfl) dX5_put_33 (fun H locs hP hD hS => ?_)
  have hP : va_P Γ.1 vwCl [(ta, .inr (5, [.ref tc, .int (nI (sz0 + 1))])), (tc, .inl (Γ.2 0, 14, .inl (aN (upN tx sz0 v0))))] H := hP
  have hD : va_D A [(ta, .inr (5, [.ref tc, .int (nI (sz0 + 1))])), (tc, .inl (Γ.2 0, 14, .inl (aN (upN tx sz0 v0))))] := hD
  exact hret () hP hS (trivial) dX5_put_36
set_option maxHeartbeats 8000000 in
set_option maxRecDepth 100000 in
theorem c_X5_putLesser (l : Launch) (Γ : kG) (ta : Nat) (tc : Nat) (sz0 : Nat) (tx : Nat → Nat) (o0 : Option Nat) (hsz : sz0 < 14) (ho0 : ∀ k, o0 = some k → k < 14) : WRv l yX5_putLesser (wsq yX5_putLesser cX5_putLesser 2 none) (rmL 2) Γ [.ref ta, .int (oI o0)] [(ta, .inr (5, [.ref tc, .int (nI sz0)])), (tc, .inl (Γ.2 0, 14, .inl (aN tx)))] (fun u : Unit => [(ta, .inr (5, [.ref tc, .int (nI (sz0 + 1))])), (tc, .inl (Γ.2 0, 14, .inl (aN (upN tx sz0 (chO o0)))))]) (fun u : Unit => True) := by
  refine wr_ofv (cc := cX5_putLesser) (maxL := 2) (by decide +kernel) (Nat.le_of_ble_eq_true rfl) rfl ?_
  intro p ev R st mi args below meth cd Q A ls C0 hR hret hP hD hS hl
  obtain ⟨hx, hb, hr, hml, hown, hts, hlk, hK, hnm⟩ := C0
  have hown : st.vm.findClass RX5 = some mi.cls := hown
  refine lv_aload_n hx hb dX5_putLesser_0 rfl (lv_at hl 0 rfl) ?_
  refine lv_iload_n hx hb dX5_putLesser_1 rfl (lv_at hl 1 rfl) ?_
  refine lv_iconst (v := (-1)) hx hb dX5_putLesser_2 (by decide) ?_
  refine lv_icmp_ne (tgt := 11) hx hb dX5_putLesser_3 (by decide) (fun c_3 => ?_) (fun c_3 => ?_)
  · skip
    refine lv_bipush (v := (nI 97)) hx hb dX5_putLesser_11 (by decide) ?_
    refine lv_iload_n hx hb dX5_putLesser_13 rfl (lv_at hl 1 rfl) ?_
    refine lv_iadd hx hb dX5_putLesser_14 ?_
    refine tp_i (y := (nI (chO o0))) (by obtain ⟨k9, rfl⟩ := oI_some c_3; exact nI_add 97 k9) ?_
    refine wr_finv (va_runV (As := [.int (nI (chO o0))]) (rest := []) ⟨hx, hb, hml, hown, hts⟩ (c_X5_put l Γ ta tc sz0 tx (chO o0) (by first | omega | assumption)) (kcwV 1 hts kv_X5_put mw_194 (rm_le hR (Nat.le_of_ble_eq_true rfl) (Nat.le_of_ble_eq_true rfl))) (kPw_V hK (va_recv hK.1 hP (ci := 5) (q0 := 0) rfl rfl) (hP.sub (ws' := [(ta, .inr (5, [.ref tc, .int (nI sz0)])), (tc, .inl (Γ.2 0, 14, .inl (aN tx)))]) [0, 1] rfl) (hD.sub (ws' := [(ta, .inr (5, [.ref tc, .int (nI sz0)])), (tc, .inl (Γ.2 0, 14, .inl (aN tx)))]) [0, 1] (by decide) rfl)) rfl rfl hl.1 rfl (lv_room (Nat.le_of_ble_eq_true rfl)) dX5_putLesser_15 ⟨Nat.zero_le _, Nat.zero_le _⟩) hP hD hS [0, 1] rfl (fun _ => rfl) (fun _ H locs hw hP hD hS => ?_)
    have hP : va_P Γ.1 vwCl [(ta, .inr (5, [.ref tc, .int (nI (sz0 + 1))])), (tc, .inl (Γ.2 0, 14, .inl (aN (upN tx sz0 (chO o0)))))] H := hP
    have hD : va_D A [(ta, .inr (5, [.ref tc, .int (nI (sz0 + 1))])), (tc, .inl (Γ.2 0, 14, .inl (aN (upN tx sz0 (chO o0)))))] := hD
    exact hret () hP hS (trivial) dX5_putLesser_18
  · skip
    refine lv_bipush (v := (nI 46)) hx hb dX5_putLesser_6 (by decide) ?_
    refine tp_i (y := (nI (chO o0))) (by rw [oI_none ho0 c_3]; rfl) ?_
    refine lv_goto (tgt := 15) hx hb dX5_putLesser_8 (by decide) ?_
    refine wr_finv (va_runV (As := [.int (nI (chO o0))]) (rest := []) ⟨hx, hb, hml, hown, hts⟩ (c_X5_put l Γ ta tc sz0 tx (chO o0) (by first | omega | assumption)) (kcwV 1 hts kv_X5_put mw_194 (rm_le hR (Nat.le_of_ble_eq_true rfl) (Nat.le_of_ble_eq_true rfl))) (kPw_V hK (va_recv hK.1 hP (ci := 5) (q0 := 0) rfl rfl) (hP.sub (ws' := [(ta, .inr (5, [.ref tc, .int (nI sz0)])), (tc, .inl (Γ.2 0, 14, .inl (aN tx)))]) [0, 1] rfl) (hD.sub (ws' := [(ta, .inr (5, [.ref tc, .int (nI sz0)])), (tc, .inl (Γ.2 0, 14, .inl (aN tx)))]) [0, 1] (by decide) rfl)) rfl rfl hl.1 rfl (lv_room (Nat.le_of_ble_eq_true rfl)) dX5_putLesser_15 ⟨Nat.zero_le _, Nat.zero_le _⟩) hP hD hS [0, 1] rfl (fun _ => rfl) (fun _ H locs hw hP hD hS => ?_)
    have hP : va_P Γ.1 vwCl [(ta, .inr (5, [.ref tc, .int (nI (sz0 + 1))])), (tc, .inl (Γ.2 0, 14, .inl (aN (upN tx sz0 (chO o0)))))] H := hP
    have hD : va_D A [(ta, .inr (5, [.ref tc, .int (nI (sz0 + 1))])), (tc, .inl (Γ.2 0, 14, .inl (aN (upN tx sz0 (chO o0)))))] := hD
    exact hret () hP hS (trivial) dX5_putLesser_18
set_option maxHeartbeats 8000000 in
set_option maxRecDepth 100000 in
theorem c_X5_codeAt (l : Launch) (Γ : kG) (H0 : Heap) (ta : Nat) (tc : Nat) (sz0 : Nat) (tx : Nat → Nat) (k0 : Nat) (hP : va_P Γ.1 vwCl [(ta, .inr (5, [.ref tc, .int (nI sz0)])), (tc, .inl (Γ.2 0, 14, .inl (aN tx)))] H0) (hsz : sz0 ≤ 14) (hk0 : k0 < sz0) : RO l yX5_codeAt (wsq yX5_codeAt cX5_codeAt 2 (some .int)) (rmL 1) Γ H0 [.ref ta, .int (nI k0)] (nI (tx k0)) := by
  refine ro_ofi (cc := cX5_codeAt) (maxL := 2) (by decide +kernel) (Nat.le_of_ble_eq_true rfl) rfl ?_
  intro p ev R st mi args below meth cd Q ls C0 hR hret hh hS hl
  obtain ⟨hx, hb, hr, hml, hown, hts, hlk, hK, hnm⟩ := C0
  have hown : st.vm.findClass RX5 = some mi.cls := hown
  refine lv_iload_n hx hb dX5_codeAt_0 rfl (lv_at hl 1 rfl) ?_
  refine nb_if_lt (tgt := 27) hx hb (by first | omega | assumption) dX5_codeAt_1 (by decide) ?_
  refine lv_iload_n hx hb dX5_codeAt_4 rfl (lv_at hl 1 rfl) ?_
  refine lv_aload_n hx hb dX5_codeAt_5 rfl (lv_at hl 0 rfl) ?_
  refine va_get (D := Γ.1) (ci := 5) (v := .int (nI sz0)) (C := RX5) (T := TX5) (N := 2) hx hb hts hinX5 hown hK.1 hP 0 rfl rfl 1 (by decide) (hts _ mw_190) (fun _ h9 => h9) rfl dX5_codeAt_6 ?_
  refine nb_icmp_ge (tgt := 27) hx hb (by first | omega | assumption) (by first | omega | assumption) dX5_codeAt_9 (by decide) (fun c_9 => by exfalso; omega) (fun c_9 => ?_)
  refine lv_iload_n hx hb dX5_codeAt_12 rfl (lv_at hl 1 rfl) ?_
  refine lv_bipush (v := (nI 14)) hx hb dX5_codeAt_13 (by decide) ?_
  refine nb_icmp_ge (tgt := 27) hx hb (by first | omega | assumption) (by first | omega | assumption) dX5_codeAt_15 (by decide) (fun c_15 => by exfalso; omega) (fun c_15 => ?_)
  refine lv_aload_n hx hb dX5_codeAt_18 rfl (lv_at hl 0 rfl) ?_
  refine va_get (D := Γ.1) (ci := 5) (v := .ref tc) (C := RX5) (T := TX5) (N := 2) hx hb hts hinX5 hown hK.1 hP 0 rfl rfl 0 (by decide) (hts _ mw_189) (fun _ h9 => h9) rfl dX5_codeAt_19 ?_
  refine lv_iload_n hx hb dX5_codeAt_22 rfl (lv_at hl 1 rfl) ?_
  refine iald_N hx hb hK.1 hP 1 0 rfl rfl (by omega) (by first | decide | assumption) dX5_codeAt_23 ?_
  refine lv_goto (tgt := 28) hx hb dX5_codeAt_24 (by decide) ?_
  exact hret hS (rfl) dX5_codeAt_28
set_option maxHeartbeats 8000000 in
set_option maxRecDepth 100000 in
theorem c_X5_lesserAt (l : Launch) (Γ : kG) (H0 : Heap) (ta : Nat) (tc : Nat) (sz0 : Nat) (tx : Nat → Nat) (k0 : Nat) (hP : va_P Γ.1 vwCl [(ta, .inr (5, [.ref tc, .int (nI sz0)])), (tc, .inl (Γ.2 0, 14, .inl (aN tx)))] H0) (htx : ∀ i, i < 14 → tx i < 128) (hsz : sz0 ≤ 14) (hk0 : k0 < sz0) : RO l yX5_lesserAt (wsq yX5_lesserAt cX5_lesserAt 4 (some .int)) (rmL 2) Γ H0 [.ref ta, .int (nI k0)] (lsA tx k0) := by
  refine ro_ofi (cc := cX5_lesserAt) (maxL := 4) (by decide +kernel) (Nat.le_of_ble_eq_true rfl) rfl ?_
  intro p ev R st mi args below meth cd Q ls C0 hR hret hh hS hl
  obtain ⟨hx, hb, hr, hml, hown, hts, hlk, hK, hnm⟩ := C0
  have hown : st.vm.findClass RX5 = some mi.cls := hown
  refine lv_aload_n hx hb dX5_lesserAt_0 rfl (lv_at hl 0 rfl) ?_
  refine lv_iload_n hx hb dX5_lesserAt_1 rfl (lv_at hl 1 rfl) ?_
  refine ro_fin (va_runV (As := [.int (nI k0)]) (rest := []) ⟨hx, hb, hml, hown, hts⟩ (c_X5_codeAt l Γ H0 ta tc sz0 tx k0 (hP.sub (ws' := [(ta, .inr (5, [.ref tc, .int (nI sz0)])), (tc, .inl (Γ.2 0, 14, .inl (aN tx)))]) [0, 1] rfl) (by first | omega | assumption) (by first | omega | assumption)) (kcwV 1 hts kv_X5_codeAt mw_200 (rm_le hR (Nat.le_of_ble_eq_true rfl) (Nat.le_of_ble_eq_true rfl))) (kPc_V hK (va_recv hK.1 hP (ci := 5) (q0 := 0) rfl rfl)) rfl rfl hl.1 rfl (lv_room (Nat.le_of_ble_eq_true rfl)) dX5_lesserAt_2 ⟨Nat.zero_le _, Nat.zero_le _⟩) hS (fun locs hS => ?_)
  refine lv_istore_n (lv' := [(2, .int (nI (tx k0))), (0, .ref ta), (1, .int (nI k0))]) hx hb dX5_lesserAt_5 rfl hl (by decide) rfl (fun ls hl => ?_)
  refine lv_iload_n hx hb dX5_lesserAt_6 rfl (lv_at hl 0 rfl) ?_
  refine lv_bipush (v := (nI 46)) hx hb dX5_lesserAt_7 (by decide) ?_
  have hc9 := htx k0 (by omega)
  refine nb_icmp_ne (tgt := 14) hx hb (by omega) (by omega) dX5_lesserAt_9 (by decide) (fun c_9 => ?_) (fun c_9 => ?_)
  · skip
    refine lv_iload_n hx hb dX5_lesserAt_14 rfl (lv_at hl 0 rfl) ?_
    refine lv_bipush (v := (nI 97)) hx hb dX5_lesserAt_15 (by decide) ?_
    refine lv_isub hx hb dX5_lesserAt_17 ?_
    refine tp_i (y := (nI (tx k0) - nI 97)) (rfl) ?_
    refine lv_istore_n (lv' := [(3, .int (nI (tx k0) - nI 97)), (2, .int (nI (tx k0))), (0, .ref ta), (1, .int (nI k0))]) hx hb dX5_lesserAt_18 rfl hl (by decide) rfl (fun ls hl => ?_)
    refine lv_iload_n hx hb dX5_lesserAt_19 rfl (lv_at hl 0 rfl) ?_
    refine lv_if_lt (tgt := 32) hx hb dX5_lesserAt_20 (by decide) (fun c_20 => ?_) (fun c_20 => ?_)
    · skip
      have hz9 := (ch_neg (by omega)).mp c_20
      refine lv_bipush (v := (-2)) hx hb dX5_lesserAt_32 (by decide) ?_
      exact hret hS (by rw [lsA_no c_9 (fun q9 => by omega)]) dX5_lesserAt_34
    · skip
      have hz9 : 97 ≤ tx k0 := Nat.not_lt.mp (fun q9 => c_20 ((ch_neg (by omega)).mpr q9))
      have hl : lv_has ls 4 [(3, .int (nI (tx k0 - 97))), (2, .int (nI (tx k0))), (0, .ref ta), (1, .int (nI k0))] := lv_cast hl (by rw [ni_sub hz9])
      refine lv_iload_n hx hb dX5_lesserAt_23 rfl (lv_at hl 0 rfl) ?_
      refine lv_iload_n hx hb dX5_lesserAt_24 rfl (lv_at hl 3 rfl) ?_
      refine nb_icmp_ge (tgt := 32) hx hb (by first | omega | assumption) (by first | omega | assumption) dX5_lesserAt_25 (by decide) (fun c_25 => ?_) (fun c_25 => ?_)
      · skip
        refine lv_bipush (v := (-2)) hx hb dX5_lesserAt_32 (by decide) ?_
        exact hret hS (by rw [lsA_no c_9 (fun q9 => by omega)]) dX5_lesserAt_34
      · skip
        refine lv_iload_n hx hb dX5_lesserAt_28 rfl (lv_at hl 0 rfl) ?_
        refine lv_goto (tgt := 34) hx hb dX5_lesserAt_29 (by decide) ?_
        exact hret hS (by rw [lsA_ok c_9 hz9 c_25]) dX5_lesserAt_34
  · skip
    refine lv_iconst (v := (-1)) hx hb dX5_lesserAt_12 (by decide) ?_
    exact hret hS (by rw [lsA_46 c_9]) dX5_lesserAt_13
set_option maxHeartbeats 8000000 in
set_option maxRecDepth 100000 in
theorem c_X5_firstWrong (l : Launch) (Γ : kG) (H0 : Heap) (ta : Nat) (tc : Nat) (sz0 : Nat) (tx : Nat → Nat) (hP : va_P Γ.1 vwCl [(ta, .inr (5, [.ref tc, .int (nI sz0)])), (tc, .inl (Γ.2 0, 14, .inl (aN tx)))] H0) (htx : ∀ i, i < 14 → tx i < 128) (hsz : sz0 ≤ 14) : RO l yX5_firstWrong (wsq yX5_firstWrong cX5_firstWrong 2 (some .int)) (rmL 3) Γ H0 [.ref ta] (nI (fst (wrg tx) sz0)) := by
  refine ro_ofi (cc := cX5_firstWrong) (maxL := 2) (by decide +kernel) (Nat.le_of_ble_eq_true rfl) rfl ?_
  intro p ev R st mi args below meth cd Q ls C0 hR hret hh hS hl
  obtain ⟨hx, hb, hr, hml, hown, hts, hlk, hK, hnm⟩ := C0
  have hown : st.vm.findClass RX5 = some mi.cls := hown
  refine lv_iconst (v := (nI 0)) hx hb dX5_firstWrong_0 (by decide) ?_
  refine lv_istore_n (lv' := [(1, .int (nI 0)), (0, .ref ta)]) hx hb dX5_firstWrong_1 rfl hl (by decide) rfl (fun ls hl => ?_)
  have LP2 : ∀ (fu : Nat) (k0 : Nat) (hk0 : k0 ≤ sz0) (hs0 : ∀ i, i < k0 → wrg tx i = false), (sz0 - k0) < fu → ∀ (locs : List Loc), va_S (fun _ => False) H0 H0 locs → ∀ (ls : Array Slot), lv_has ls 2 [(1, .int (nI k0)), (0, .ref ta)] → W p l ev R st mi args below meth cd H0 locs 0 0 Q (F0 mi 2 ls []) := by
    intro fu
    induction fu with
    | zero => intro k0 hk0 hs0 hfu; exact absurd hfu (Nat.not_lt_zero _)
    | succ fu ih2 =>
      intro k0 hk0 hs0 hfu locs hS ls hl
      refine lv_iload_n hx hb dX5_firstWrong_2 rfl (lv_at hl 0 rfl) ?_
      refine lv_aload_n hx hb dX5_firstWrong_3 rfl (lv_at hl 1 rfl) ?_
      refine va_get (D := Γ.1) (ci := 5) (v := .int (nI sz0)) (C := RX5) (T := TX5) (N := 2) hx hb hts hinX5 hown hK.1 hP 0 rfl rfl 1 (by decide) (hts _ mw_190) (fun _ h9 => h9) rfl dX5_firstWrong_4 ?_
      refine nb_icmp_ge (tgt := 28) hx hb (by first | omega | assumption) (by first | omega | assumption) dX5_firstWrong_7 (by decide) (fun c_7 => ?_) (fun c_7 => ?_)
      · skip
        obtain rfl : k0 = sz0 := by omega
        refine lv_aload_n hx hb dX5_firstWrong_28 rfl (lv_at hl 1 rfl) ?_
        refine va_get (D := Γ.1) (ci := 5) (v := .int (nI k0)) (C := RX5) (T := TX5) (N := 2) hx hb hts hinX5 hown hK.1 hP 0 rfl rfl 1 (by decide) (hts _ mw_190) (fun _ h9 => h9) rfl dX5_firstWrong_29 ?_
        exact hret hS (by rw [fst_all hs0]) dX5_firstWrong_32
      · skip
        refine lv_aload_n hx hb dX5_firstWrong_10 rfl (lv_at hl 1 rfl) ?_
        refine lv_iload_n hx hb dX5_firstWrong_11 rfl (lv_at hl 0 rfl) ?_
        refine ro_fin (va_runV (As := [.int (nI k0)]) (rest := []) ⟨hx, hb, hml, hown, hts⟩ (c_X5_lesserAt l Γ H0 ta tc sz0 tx k0 (hP.sub (ws' := [(ta, .inr (5, [.ref tc, .int (nI sz0)])), (tc, .inl (Γ.2 0, 14, .inl (aN tx)))]) [0, 1] rfl) (by first | omega | assumption) (by first | omega | assumption) (by first | omega | assumption)) (kcwV 1 hts kv_X5_lesserAt mw_204 (rm_le hR (Nat.le_of_ble_eq_true rfl) (Nat.le_of_ble_eq_true rfl))) (kPc_V hK (va_recv hK.1 hP (ci := 5) (q0 := 0) rfl rfl)) rfl rfl hl.1 rfl (lv_room (Nat.le_of_ble_eq_true rfl)) dX5_firstWrong_12 ⟨Nat.zero_le _, Nat.zero_le _⟩) hS (fun locs hS => ?_)
        refine lv_bipush (v := (-2)) hx hb dX5_firstWrong_15 (by decide) ?_
        refine lv_icmp_ne (tgt := 22) hx hb dX5_firstWrong_17 (by decide) (fun c_17 => ?_) (fun c_17 => ?_)
        · skip
          refine lv_iinc (v := (nI (k0 + 1))) (lv' := [(1, .int (nI (k0 + 1))), (0, .ref ta)]) hx hb dX5_firstWrong_22 hl (k := 0) rfl (nI_1 _) (by decide) rfl (fun ls hl => ?_)
          refine lv_goto (tgt := 2) hx hb dX5_firstWrong_25 (by decide) ?_
          exact ih2 (k0 + 1) (by first | omega | assumption) (lt_s hs0 (ts_f (fun q9 => c_17 ((lsA_iff (by omega)).mpr q9)))) (by omega) _ hS ls (lv_sub hl [0, 1] rfl)
        · skip
          refine lv_iload_n hx hb dX5_firstWrong_20 rfl (lv_at hl 0 rfl) ?_
          exact hret hS (by rw [fst_eq (by omega) ((lsA_iff (by omega)).mp c_17) hs0]) dX5_firstWrong_21
  exact LP2 ((sz0 - 0) + 1) 0 (by first | omega | assumption) (fun i9 h9 => absurd h9 (Nat.not_lt_zero _)) (Nat.lt_succ_self _) _ hS ls (lv_sub hl [0, 1] rfl)
