set_option maxHeartbeats 8000000 in
set_option maxRecDepth 100000 in
theorem c_X1_copyFrom (l : Launch) (Γ : kG) (a : Nat) (e : Nat) (g : Nat → Nat) (a2 : Nat) (e2 : Nat) (g2 : Nat → Nat)  : WRv l yX1_copyFrom (wsq yX1_copyFrom cX1_copyFrom 2 none) (rmL 2) Γ [.ref a, .ref a2] [(a, .inr (1, [.ref e])), (e, .inl (Γ.2 0, 14, .inl (aN g))), (a2, .inr (1, [.ref e2])), (e2, .inl (Γ.2 0, 14, .inl (aN g2)))] (fun u : Unit => [(a, .inr (1, [.ref e])), (e, .inl (Γ.2 0, 14, .inl (aN g2))), (a2, .inr (1, [.ref e2])), (e2, .inl (Γ.2 0, 14, .inl (aN g2)))]) (fun u : Unit => True) := by
  refine wr_ofv (cc := cX1_copyFrom) (maxL := 2) (by decide +kernel) (Nat.le_of_ble_eq_true rfl) rfl ?_
  intro p ev R st mi args below meth cd Q A ls C0 hR hret hP hD hS hl
  obtain ⟨hx, hb, hr, hml, hown, hts, hlk, hK, hnm⟩ := C0
  have hown : st.vm.findClass RX1 = some mi.cls := hown
  refine lv_aload_n hx hb dX1_copyFrom_0 rfl (lv_at hl 1 rfl) ?_
  refine va_get (D := Γ.1) (ci := 1) (v := .ref e2) (C := RX1) (T := TX1) (N := 1) hx hb hts hinX1 hown hK.1 hP 2 rfl rfl 0 (by decide) (hts _ mw_5) (fun _ h9 => h9) rfl dX1_copyFrom_1 ?_
  refine lv_iconst (v := (nI 0)) hx hb dX1_copyFrom_4 (by decide) ?_
  refine lv_aload_n hx hb dX1_copyFrom_5 rfl (lv_at hl 0 rfl) ?_
  refine va_get (D := Γ.1) (ci := 1) (v := .ref e) (C := RX1) (T := TX1) (N := 1) hx hb hts hinX1 hown hK.1 hP 0 rfl rfl 0 (by decide) (hts _ mw_5) (fun _ h9 => h9) rfl dX1_copyFrom_6 ?_
  refine lv_iconst (v := (nI 0)) hx hb dX1_copyFrom_9 (by decide) ?_
  refine lv_bipush (v := (nI 14)) hx hb dX1_copyFrom_10 (by decide) ?_
  refine va_copyi hx hb (hml.trans hl.1.symm) hown (hts _ mw_17) (hts _ mw_18) (hts _ mw_19) (hts _ mw_20) hK.1 hP hD hS 3 1 0 0 rfl rfl rfl rfl rfl (by decide) (by decide) (by decide) (by decide) (by decide) (fun _ _ => rfl) (by subst hR; exact Nat.le_of_ble_eq_true rfl) (by subst hR; exact Nat.le_of_ble_eq_true rfl) dX1_copyFrom_12 (fun H locs hP hD hS => ?_)
  have hP := va_P_arr (k := 1) hP rfl (fun i hi => cpy14 hi)
  have hP : va_P Γ.1 vwCl [(a, .inr (1, [.ref e])), (e, .inl (Γ.2 0, 14, .inl (aN g2))), (a2, .inr (1, [.ref e2])), (e2, .inl (Γ.2 0, 14, .inl (aN g2)))] H := hP
  have hD : va_D A [(a, .inr (1, [.ref e])), (e, .inl (Γ.2 0, 14, .inl (aN g2))), (a2, .inr (1, [.ref e2])), (e2, .inl (Γ.2 0, 14, .inl (aN g2)))] := va_D_fst (by rfl) hD
  exact hret () hP hS (trivial) dX1_copyFrom_15
set_option maxHeartbeats 8000000 in
set_option maxRecDepth 100000 in
theorem c_X0_copyFrom (l : Launch) (Γ : kG) (fa : Nat) (n0 : Nat) (th0 : Nat) (mv0 : Nat) (a : Nat) (e : Nat) (g : Nat → Nat) (fa2 : Nat) (n2 : Nat) (th2 : Nat) (mv2 : Nat) (a2 : Nat) (e2 : Nat) (g2 : Nat → Nat)  : WRv l yX0_copyFrom (wsq yX0_copyFrom cX0_copyFrom 2 none) (rmL 3) Γ [.ref fa, .ref fa2] [(fa, .inr (0, [.ref a, .int (nI n0), .int (nI th0), .int (nI mv0)])), (a, .inr (1, [.ref e])), (e, .inl (Γ.2 0, 14, .inl (aN g))), (fa2, .inr (0, [.ref a2, .int (nI n2), .int (nI th2), .int (nI mv2)])), (a2, .inr (1, [.ref e2])), (e2, .inl (Γ.2 0, 14, .inl (aN g2)))] (fun u : Unit => [(fa, .inr (0, [.ref a, .int (nI n2), .int (nI th2), .int (nI mv2)])), (a, .inr (1, [.ref e])), (e, .inl (Γ.2 0, 14, .inl (aN g2))), (fa2, .inr (0, [.ref a2, .int (nI n2), .int (nI th2), .int (nI mv2)])), (a2, .inr (1, [.ref e2])), (e2, .inl (Γ.2 0, 14, .inl (aN g2)))]) (fun u : Unit => True) := by
  refine wr_ofv (cc := cX0_copyFrom) (maxL := 2) (by decide +kernel) (Nat.le_of_ble_eq_true rfl) rfl ?_
  intro p ev R st mi args below meth cd Q A ls C0 hR hret hP hD hS hl
  obtain ⟨hx, hb, hr, hml, hown, hts, hlk, hK, hnm⟩ := C0
  have hown : st.vm.findClass RX0 = some mi.cls := hown
  refine lv_aload_n hx hb dX0_copyFrom_0 rfl (lv_at hl 0 rfl) ?_
  refine va_get (D := Γ.1) (ci := 0) (v := .ref a) (C := RX0) (T := TX0) (N := 4) hx hb hts hinX0 hown hK.1 hP 0 rfl rfl 0 (by decide) (hts _ mw_11) (fun _ h9 => h9) rfl dX0_copyFrom_1 ?_
  refine lv_aload_n hx hb dX0_copyFrom_4 rfl (lv_at hl 1 rfl) ?_
  refine va_get (D := Γ.1) (ci := 0) (v := .ref a2) (C := RX0) (T := TX0) (N := 4) hx hb hts hinX0 hown hK.1 hP 3 rfl rfl 0 (by decide) (hts _ mw_11) (fun _ h9 => h9) rfl dX0_copyFrom_5 ?_
  refine wr_finv (va_runVN (As := [.ref a2]) (rest := []) ⟨hx, hb, hml, hown, hts⟩ (c_X1_copyFrom l Γ a e g a2 e2 g2 ) (kcwVN 1 hts kv_X1_copyFrom (hK.nw _ (nwL_at 47 rfl)) (rm_le hR (Nat.le_of_ble_eq_true rfl) (Nat.le_of_ble_eq_true rfl))) (kPw_V hK (va_recv hK.1 hP (ci := 1) (q0 := 1) rfl rfl) (hP.sub (ws' := [(a, .inr (1, [.ref e])), (e, .inl (Γ.2 0, 14, .inl (aN g))), (a2, .inr (1, [.ref e2])), (e2, .inl (Γ.2 0, 14, .inl (aN g2)))]) [1, 2, 4, 5] rfl) (hD.sub (ws' := [(a, .inr (1, [.ref e])), (e, .inl (Γ.2 0, 14, .inl (aN g))), (a2, .inr (1, [.ref e2])), (e2, .inl (Γ.2 0, 14, .inl (aN g2)))]) [1, 2, 4, 5] (by decide) rfl)) rfl rfl hl.1 rfl (lv_room (Nat.le_of_ble_eq_true rfl)) dX0_copyFrom_8 ⟨Nat.zero_le _, Nat.zero_le _⟩) hP hD hS [1, 2, 4, 5] rfl (fun _ => rfl) (fun _ H locs hw hP hD hS => ?_)
  have hP : va_P Γ.1 vwCl [(fa, .inr (0, [.ref a, .int (nI n0), .int (nI th0), .int (nI mv0)])), (a, .inr (1, [.ref e])), (e, .inl (Γ.2 0, 14, .inl (aN g2))), (fa2, .inr (0, [.ref a2, .int (nI n2), .int (nI th2), .int (nI mv2)])), (a2, .inr (1, [.ref e2])), (e2, .inl (Γ.2 0, 14, .inl (aN g2)))] H := hP
  have hD : va_D A [(fa, .inr (0, [.ref a, .int (nI n0), .int (nI th0), .int (nI mv0)])), (a, .inr (1, [.ref e])), (e, .inl (Γ.2 0, 14, .inl (aN g2))), (fa2, .inr (0, [.ref a2, .int (nI n2), .int (nI th2), .int (nI mv2)])), (a2, .inr (1, [.ref e2])), (e2, .inl (Γ.2 0, 14, .inl (aN g2)))] := hD
  refine lv_aload_n hx hb dX0_copyFrom_11 rfl (lv_at hl 0 rfl) ?_
  refine lv_aload_n hx hb dX0_copyFrom_12 rfl (lv_at hl 1 rfl) ?_
  refine va_get (D := Γ.1) (ci := 0) (v := .int (nI n2)) (C := RX0) (T := TX0) (N := 4) hx hb hts hinX0 hown hK.1 hP 3 rfl rfl 1 (by decide) (hts _ mw_12) (fun _ h9 => h9) rfl dX0_copyFrom_13 ?_
  refine va_put (D := Γ.1) (ci := 0) (v := .int (nI n2)) (ty := .int) (C := RX0) (T := TX0) (N := 4) hx hb hts hinX0 tyX0 tyX0_ok nmX0 hown hK.1 hP hD hS 0 rfl rfl 1 (by decide) (hts _ mw_12) (fun _ h9 => h9) rfl (by decide +kernel) rfl rfl (Nat.le_of_ble_eq_true rfl) dX0_copyFrom_16 (fun H locs hP hD hS => ?_)
  have hP : va_P Γ.1 vwCl [(fa, .inr (0, [.ref a, .int (nI n2), .int (nI th0), .int (nI mv0)])), (a, .inr (1, [.ref e])), (e, .inl (Γ.2 0, 14, .inl (aN g2))), (fa2, .inr (0, [.ref a2, .int (nI n2), .int (nI th2), .int (nI mv2)])), (a2, .inr (1, [.ref e2])), (e2, .inl (Γ.2 0, 14, .inl (aN g2)))] H := hP
  have hD : va_D A [(fa, .inr (0, [.ref a, .int (nI n2), .int (nI th0), .int (nI mv0)])), (a, .inr (1, [.ref e])), (e, .inl (Γ.2 0, 14, .inl (aN g2))), (fa2, .inr (0, [.ref a2, .int (nI n2), .int (nI th2), .int (nI mv2)])), (a2, .inr (1, [.ref e2])), (e2, .inl (Γ.2 0, 14, .inl (aN g2)))] := hD
  refine lv_aload_n hx hb dX0_copyFrom_19 rfl (lv_at hl 0 rfl) ?_
  refine lv_aload_n hx hb dX0_copyFrom_20 rfl (lv_at hl 1 rfl) ?_
  refine va_get (D := Γ.1) (ci := 0) (v := .int (nI th2)) (C := RX0) (T := TX0) (N := 4) hx hb hts hinX0 hown hK.1 hP 3 rfl rfl 2 (by decide) (hts _ mw_13) (fun _ h9 => h9) rfl dX0_copyFrom_21 ?_
  refine va_put (D := Γ.1) (ci := 0) (v := .int (nI th2)) (ty := .int) (C := RX0) (T := TX0) (N := 4) hx hb hts hinX0 tyX0 tyX0_ok nmX0 hown hK.1 hP hD hS 0 rfl rfl 2 (by decide) (hts _ mw_13) (fun _ h9 => h9) rfl (by decide +kernel) rfl rfl (Nat.le_of_ble_eq_true rfl) dX0_copyFrom_24 (fun H locs hP hD hS => ?_)
  have hP : va_P Γ.1 vwCl [(fa, .inr (0, [.ref a, .int (nI n2), .int (nI th2), .int (nI mv0)])), (a, .inr (1, [.ref e])), (e, .inl (Γ.2 0, 14, .inl (aN g2))), (fa2, .inr (0, [.ref a2, .int (nI n2), .int (nI th2), .int (nI mv2)])), (a2, .inr (1, [.ref e2])), (e2, .inl (Γ.2 0, 14, .inl (aN g2)))] H := hP
  have hD : va_D A [(fa, .inr (0, [.ref a, .int (nI n2), .int (nI th2), .int (nI mv0)])), (a, .inr (1, [.ref e])), (e, .inl (Γ.2 0, 14, .inl (aN g2))), (fa2, .inr (0, [.ref a2, .int (nI n2), .int (nI th2), .int (nI mv2)])), (a2, .inr (1, [.ref e2])), (e2, .inl (Γ.2 0, 14, .inl (aN g2)))] := hD
  refine lv_aload_n hx hb dX0_copyFrom_27 rfl (lv_at hl 0 rfl) ?_
  refine lv_aload_n hx hb dX0_copyFrom_28 rfl (lv_at hl 1 rfl) ?_
  refine va_get (D := Γ.1) (ci := 0) (v := .int (nI mv2)) (C := RX0) (T := TX0) (N := 4) hx hb hts hinX0 hown hK.1 hP 3 rfl rfl 3 (by decide) (hts _ mw_14) (fun _ h9 => h9) rfl dX0_copyFrom_29 ?_
  refine va_put (D := Γ.1) (ci := 0) (v := .int (nI mv2)) (ty := .int) (C := RX0) (T := TX0) (N := 4) hx hb hts hinX0 tyX0 tyX0_ok nmX0 hown hK.1 hP hD hS 0 rfl rfl 3 (by decide) (hts _ mw_14) (fun _ h9 => h9) rfl (by decide +kernel) rfl rfl (Nat.le_of_ble_eq_true rfl) dX0_copyFrom_32 (fun H locs hP hD hS => ?_)
  have hP : va_P Γ.1 vwCl [(fa, .inr (0, [.ref a, .int (nI n2), .int (nI th2), .int (nI mv2)])), (a, .inr (1, [.ref e])), (e, .inl (Γ.2 0, 14, .inl (aN g2))), (fa2, .inr (0, [.ref a2, .int (nI n2), .int (nI th2), .int (nI mv2)])), (a2, .inr (1, [.ref e2])), (e2, .inl (Γ.2 0, 14, .inl (aN g2)))] H := hP
  have hD : va_D A [(fa, .inr (0, [.ref a, .int (nI n2), .int (nI th2), .int (nI mv2)])), (a, .inr (1, [.ref e])), (e, .inl (Γ.2 0, 14, .inl (aN g2))), (fa2, .inr (0, [.ref a2, .int (nI n2), .int (nI th2), .int (nI mv2)])), (a2, .inr (1, [.ref e2])), (e2, .inl (Γ.2 0, 14, .inl (aN g2)))] := hD
  exact hret () hP hS (trivial) dX0_copyFrom_35
set_option maxHeartbeats 8000000 in
set_option maxRecDepth 100000 in
theorem c_X0_wipe (l : Launch) (Γ : kG) (fa : Nat) (n0 : Nat) (th0 : Nat) (mv0 : Nat) (a : Nat) (e : Nat) (g : Nat → Nat)  : WRv l yX0_wipe (wsq yX0_wipe cX0_wipe 1 none) (rmL 3) Γ [.ref fa] [(fa, .inr (0, [.ref a, .int (nI n0), .int (nI th0), .int (nI mv0)])), (a, .inr (1, [.ref e])), (e, .inl (Γ.2 0, 14, .inl (aN g)))] (fun u : Unit => [(fa, .inr (0, [.ref a, .int (nI 0), .int (nI 0), .int (nI 0)])), (a, .inr (1, [.ref e])), (e, .inl (Γ.2 0, 14, .inl (aN (fun _ => 0))))]) (fun u : Unit => True) := by
  refine wr_ofv (cc := cX0_wipe) (maxL := 1) (by decide +kernel) (Nat.le_of_ble_eq_true rfl) rfl ?_
  intro p ev R st mi args below meth cd Q A ls C0 hR hret hP hD hS hl
  obtain ⟨hx, hb, hr, hml, hown, hts, hlk, hK, hnm⟩ := C0
  have hown : st.vm.findClass RX0 = some mi.cls := hown
  refine lv_aload_n hx hb dX0_wipe_0 rfl (lv_at hl 0 rfl) ?_
  refine va_get (D := Γ.1) (ci := 0) (v := .ref a) (C := RX0) (T := TX0) (N := 4) hx hb hts hinX0 hown hK.1 hP 0 rfl rfl 0 (by decide) (hts _ mw_11) (fun _ h9 => h9) rfl dX0_wipe_1 ?_
  refine wr_finv (va_runVN (As := []) (rest := []) ⟨hx, hb, hml, hown, hts⟩ (c_X1_wipe l Γ a e g ) (kcwVN 0 hts kv_X1_wipe (hK.nw _ (nwL_at 48 rfl)) (rm_le hR (Nat.le_of_ble_eq_true rfl) (Nat.le_of_ble_eq_true rfl))) (kPw_V hK (va_recv hK.1 hP (ci := 1) (q0 := 1) rfl rfl) (hP.sub (ws' := [(a, .inr (1, [.ref e])), (e, .inl (Γ.2 0, 14, .inl (aN g)))]) [1, 2] rfl) (hD.sub (ws' := [(a, .inr (1, [.ref e])), (e, .inl (Γ.2 0, 14, .inl (aN g)))]) [1, 2] (by decide) rfl)) rfl rfl hl.1 rfl (lv_room (Nat.le_of_ble_eq_true rfl)) dX0_wipe_4 ⟨Nat.zero_le _, Nat.zero_le _⟩) hP hD hS [1, 2] rfl (fun _ => rfl) (fun _ H locs hw hP hD hS => ?_)
  have hP : va_P Γ.1 vwCl [(fa, .inr (0, [.ref a, .int (nI n0), .int (nI th0), .int (nI mv0)])), (a, .inr (1, [.ref e])), (e, .inl (Γ.2 0, 14, .inl (aN (fun _ => 0))))] H := hP
  have hD : va_D A [(fa, .inr (0, [.ref a, .int (nI n0), .int (nI th0), .int (nI mv0)])), (a, .inr (1, [.ref e])), (e, .inl (Γ.2 0, 14, .inl (aN (fun _ => 0))))] := hD
  refine lv_aload_n hx hb dX0_wipe_7 rfl (lv_at hl 0 rfl) ?_
  refine lv_iconst (v := (nI 0)) hx hb dX0_wipe_8 (by decide) ?_
  refine va_put (D := Γ.1) (ci := 0) (v := .int (nI 0)) (ty := .int) (C := RX0) (T := TX0) (N := 4) hx hb hts hinX0 tyX0 tyX0_ok nmX0 hown hK.1 hP hD hS 0 rfl rfl 1 (by decide) (hts _ mw_12) (fun _ h9 => h9) rfl (by decide +kernel) rfl rfl (Nat.le_of_ble_eq_true rfl) dX0_wipe_9 (fun H locs hP hD hS => ?_)
  have hP : va_P Γ.1 vwCl [(fa, .inr (0, [.ref a, .int (nI 0), .int (nI th0), .int (nI mv0)])), (a, .inr (1, [.ref e])), (e, .inl (Γ.2 0, 14, .inl (aN (fun _ => 0))))] H := hP
  have hD : va_D A [(fa, .inr (0, [.ref a, .int (nI 0), .int (nI th0), .int (nI mv0)])), (a, .inr (1, [.ref e])), (e, .inl (Γ.2 0, 14, .inl (aN (fun _ => 0))))] := hD
  refine lv_aload_n hx hb dX0_wipe_12 rfl (lv_at hl 0 rfl) ?_
  refine lv_iconst (v := (nI 0)) hx hb dX0_wipe_13 (by decide) ?_
  refine va_put (D := Γ.1) (ci := 0) (v := .int (nI 0)) (ty := .int) (C := RX0) (T := TX0) (N := 4) hx hb hts hinX0 tyX0 tyX0_ok nmX0 hown hK.1 hP hD hS 0 rfl rfl 2 (by decide) (hts _ mw_13) (fun _ h9 => h9) rfl (by decide +kernel) rfl rfl (Nat.le_of_ble_eq_true rfl) dX0_wipe_14 (fun H locs hP hD hS => ?_)
  have hP : va_P Γ.1 vwCl [(fa, .inr (0, [.ref a, .int (nI 0), .int (nI 0), .int (nI mv0)])), (a, .inr (1, [.ref e])), (e, .inl (Γ.2 0, 14, .inl (aN (fun _ => 0))))] H := hP
  have hD : va_D A [(fa, .inr (0, [.ref a, .int (nI 0), .int (nI 0), .int (nI mv0)])), (a, .inr (1, [.ref e])), (e, .inl (Γ.2 0, 14, .inl (aN (fun _ => 0))))] := hD
  refine lv_aload_n hx hb dX0_wipe_17 rfl (lv_at hl 0 rfl) ?_
  refine lv_iconst (v := (nI 0)) hx hb dX0_wipe_18 (by decide) ?_
  refine va_put (D := Γ.1) (ci := 0) (v := .int (nI 0)) (ty := .int) (C := RX0) (T := TX0) (N := 4) hx hb hts hinX0 tyX0 tyX0_ok nmX0 hown hK.1 hP hD hS 0 rfl rfl 3 (by decide) (hts _ mw_14) (fun _ h9 => h9) rfl (by decide +kernel) rfl rfl (Nat.le_of_ble_eq_true rfl) dX0_wipe_19 (fun H locs hP hD hS => ?_)
  have hP : va_P Γ.1 vwCl [(fa, .inr (0, [.ref a, .int (nI 0), .int (nI 0), .int (nI 0)])), (a, .inr (1, [.ref e])), (e, .inl (Γ.2 0, 14, .inl (aN (fun _ => 0))))] H := hP
  have hD : va_D A [(fa, .inr (0, [.ref a, .int (nI 0), .int (nI 0), .int (nI 0)])), (a, .inr (1, [.ref e])), (e, .inl (Γ.2 0, 14, .inl (aN (fun _ => 0))))] := hD
  exact hret () hP hS (trivial) dX0_wipe_22
set_option maxHeartbeats 8000000 in
set_option maxRecDepth 100000 in
theorem c_X0_grow_none (l : Launch) (Γ : kG) (fa : Nat) (n0 : Nat) (th0 : Nat) (mv0 : Nat) (a : Nat) (e : Nat) (g : Nat → Nat) (hn0 : n0 < 14) : WRv l yX0_grow (wsq yX0_grow cX0_grow 2 none) (rmL 3) Γ [.ref fa, .int (-1)] [(fa, .inr (0, [.ref a, .int (nI n0), .int (nI th0), .int (nI mv0)])), (a, .inr (1, [.ref e])), (e, .inl (Γ.2 0, 14, .inl (aN g)))] (fun u : Unit => [(fa, .inr (0, [.ref a, .int (nI (n0 + 1)), .int (nI (th0 ||| 2 ^ n0)), .int (nI mv0)])), (a, .inr (1, [.ref e])), (e, .inl (Γ.2 0, 14, .inl (aN g)))]) (fun u : Unit => True) := by
  refine wr_ofv (cc := cX0_grow) (maxL := 2) (by decide +kernel) (Nat.le_of_ble_eq_true rfl) rfl ?_
  intro p ev R st mi args below meth cd Q A ls C0 hR hret hP hD hS hl
  obtain ⟨hx, hb, hr, hml, hown, hts, hlk, hK, hnm⟩ := C0
  have hown : st.vm.findClass RX0 = some mi.cls := hown
  refine lv_aload_n hx hb dX0_grow_0 rfl (lv_at hl 0 rfl) ?_
  refine va_get (D := Γ.1) (ci := 0) (v := .int (nI n0)) (C := RX0) (T := TX0) (N := 4) hx hb hts hinX0 hown hK.1 hP 0 rfl rfl 1 (by decide) (hts _ mw_12) (fun _ h9 => h9) rfl dX0_grow_1 ?_
  refine lv_bipush (v := (nI 14)) hx hb dX0_grow_4 (by decide) ?_
  refine nb_icmp_lt (tgt := 10) hx hb (by first | omega | assumption) (by first | omega | assumption) dX0_grow_6 (by decide) (fun c_6 => ?_) (fun c_6 => by exfalso; omega)
  refine lv_iload_n hx hb dX0_grow_10 rfl (lv_at hl 1 rfl) ?_
  refine lv_iconst (v := (-1)) hx hb dX0_grow_11 (by decide) ?_
  refine lv_icmp_eq (tgt := 27) hx hb dX0_grow_12 (by decide) (fun c_12 => ?_) (fun c_12 => by exfalso; exact c_12 rfl)
  refine lv_aload_n hx hb dX0_grow_27 rfl (lv_at hl 0 rfl) ?_
  refine lv_dup hx hb dX0_grow_28 rfl ?_
  refine va_get (D := Γ.1) (ci := 0) (v := .int (nI th0)) (C := RX0) (T := TX0) (N := 4) hx hb hts hinX0 hown hK.1 hP 0 rfl rfl 2 (by decide) (hts _ mw_13) (fun _ h9 => h9) rfl dX0_grow_29 ?_
  refine lv_aload_n hx hb dX0_grow_32 rfl (lv_at hl 0 rfl) ?_
  refine va_get (D := Γ.1) (ci := 0) (v := .int (nI n0)) (C := RX0) (T := TX0) (N := 4) hx hb hts hinX0 hown hK.1 hP 0 rfl rfl 1 (by decide) (hts _ mw_12) (fun _ h9 => h9) rfl dX0_grow_33 ?_
  refine ro_fin (va_runSN (As := [.int (nI n0)]) (rest := [.int (nI th0), .ref fa]) ⟨hx, hb, hml, hown, hts⟩ (c_X6_bit l Γ _ n0 (by first | omega | assumption)) (kcwSN 1 hts kv_X6_bit (hK.nw _ (nwL_at 50 rfl)) (rm_le hR (Nat.le_of_ble_eq_true rfl) (Nat.le_of_ble_eq_true rfl))) (kPc_S hK) rfl rfl hl.1 rfl (lv_room (Nat.le_of_ble_eq_true rfl)) dX0_grow_36 ⟨Nat.zero_le _, Nat.zero_le _⟩) hS (fun locs hS => ?_)
  refine lv_ior hx hb dX0_grow_39 ?_
  refine tp_i (y := (nI (th0 ||| (2 ^ n0)))) (ni_or _ _) ?_
  refine va_put (D := Γ.1) (ci := 0) (v := .int (nI (th0 ||| (2 ^ n0)))) (ty := .int) (C := RX0) (T := TX0) (N := 4) hx hb hts hinX0 tyX0 tyX0_ok nmX0 hown hK.1 hP hD hS 0 rfl rfl 2 (by decide) (hts _ mw_13) (fun _ h9 => h9) rfl (by decide +kernel) rfl rfl (Nat.le_of_ble_eq_true rfl) dX0_grow_40 (fun H locs hP hD hS => ?_)
  have hP : va_P Γ.1 vwCl [(fa, .inr (0, [.ref a, .int (nI n0), .int (nI (th0 ||| (2 ^ n0))), .int (nI mv0)])), (a, .inr (1, [.ref e])), (e, .inl (Γ.2 0, 14, .inl (aN g)))] H := hP
  have hD : va_D A [(fa, .inr (0, [.ref a, .int (nI n0), .int (nI (th0 ||| (2 ^ n0))), .int (nI mv0)])), (a, .inr (1, [.ref e])), (e, .inl (Γ.2 0, 14, .inl (aN g)))] := hD
  refine lv_aload_n hx hb dX0_grow_43 rfl (lv_at hl 0 rfl) ?_
  refine lv_dup hx hb dX0_grow_44 rfl ?_
  refine va_get (D := Γ.1) (ci := 0) (v := .int (nI n0)) (C := RX0) (T := TX0) (N := 4) hx hb hts hinX0 hown hK.1 hP 0 rfl rfl 1 (by decide) (hts _ mw_12) (fun _ h9 => h9) rfl dX0_grow_45 ?_
  refine lv_iconst (v := (nI 1)) hx hb dX0_grow_48 (by decide) ?_
  refine lv_iadd hx hb dX0_grow_49 ?_
  refine tp_i (y := (nI (n0 + 1))) (nI_add _ _) ?_
  refine va_put (D := Γ.1) (ci := 0) (v := .int (nI (n0 + 1))) (ty := .int) (C := RX0) (T := TX0) (N := 4) hx hb hts hinX0 tyX0 tyX0_ok nmX0 hown hK.1 hP hD hS 0 rfl rfl 1 (by decide) (hts _ mw_12) (fun _ h9 => h9) rfl (by decide +kernel) rfl rfl (Nat.le_of_ble_eq_true rfl) dX0_grow_50 (fun H locs hP hD hS => ?_)
  have hP : va_P Γ.1 vwCl [(fa, .inr (0, [.ref a, .int (nI (n0 + 1)), .int (nI (th0 ||| (2 ^ n0))), .int (nI mv0)])), (a, .inr (1, [.ref e])), (e, .inl (Γ.2 0, 14, .inl (aN g)))] H := hP
  have hD : va_D A [(fa, .inr (0, [.ref a, .int (nI (n0 + 1)), .int (nI (th0 ||| (2 ^ n0))), .int (nI mv0)])), (a, .inr (1, [.ref e])), (e, .inl (Γ.2 0, 14, .inl (aN g)))] := hD
  exact hret () hP hS (trivial) dX0_grow_53
set_option maxHeartbeats 8000000 in
set_option maxRecDepth 100000 in
theorem c_X0_grow_at (l : Launch) (Γ : kG) (fa : Nat) (n0 : Nat) (th0 : Nat) (mv0 : Nat) (a : Nat) (e : Nat) (g : Nat → Nat) (j0 : Nat) (hn0 : n0 < 14) (hj0 : j0 < 14) : WRv l yX0_grow (wsq yX0_grow cX0_grow 2 none) (rmL 3) Γ [.ref fa, .int (nI j0)] [(fa, .inr (0, [.ref a, .int (nI n0), .int (nI th0), .int (nI mv0)])), (a, .inr (1, [.ref e])), (e, .inl (Γ.2 0, 14, .inl (aN g)))] (fun u : Unit => [(fa, .inr (0, [.ref a, .int (nI (n0 + 1)), .int (nI (th0 ||| 2 ^ n0)), .int (nI mv0)])), (a, .inr (1, [.ref e])), (e, .inl (Γ.2 0, 14, .inl (aN (upN (upN g n0 (g n0 ||| 2 ^ j0)) j0 ((upN g n0 (g n0 ||| 2 ^ j0)) j0 ||| 2 ^ n0)))))]) (fun u : Unit => True) := by
  refine wr_ofv (cc := cX0_grow) (maxL := 2) (by decide +kernel) (Nat.le_of_ble_eq_true rfl) rfl ?_
  intro p ev R st mi args below meth cd Q A ls C0 hR hret hP hD hS hl
  obtain ⟨hx, hb, hr, hml, hown, hts, hlk, hK, hnm⟩ := C0
  have hown : st.vm.findClass RX0 = some mi.cls := hown
  refine lv_aload_n hx hb dX0_grow_0 rfl (lv_at hl 0 rfl) ?_
  refine va_get (D := Γ.1) (ci := 0) (v := .int (nI n0)) (C := RX0) (T := TX0) (N := 4) hx hb hts hinX0 hown hK.1 hP 0 rfl rfl 1 (by decide) (hts _ mw_12) (fun _ h9 => h9) rfl dX0_grow_1 ?_
  refine lv_bipush (v := (nI 14)) hx hb dX0_grow_4 (by decide) ?_
  refine nb_icmp_lt (tgt := 10) hx hb (by first | omega | assumption) (by first | omega | assumption) dX0_grow_6 (by decide) (fun c_6 => ?_) (fun c_6 => by exfalso; omega)
  refine lv_iload_n hx hb dX0_grow_10 rfl (lv_at hl 1 rfl) ?_
  refine lv_iconst (v := (-1)) hx hb dX0_grow_11 (by decide) ?_
  refine lv_icmp_eq (tgt := 27) hx hb dX0_grow_12 (by decide) (fun c_12 => by exfalso; exact nI_m1 (by omega) c_12) (fun c_12 => ?_)
  refine lv_aload_n hx hb dX0_grow_15 rfl (lv_at hl 0 rfl) ?_
  refine va_get (D := Γ.1) (ci := 0) (v := .ref a) (C := RX0) (T := TX0) (N := 4) hx hb hts hinX0 hown hK.1 hP 0 rfl rfl 0 (by decide) (hts _ mw_11) (fun _ h9 => h9) rfl dX0_grow_16 ?_
  refine lv_aload_n hx hb dX0_grow_19 rfl (lv_at hl 0 rfl) ?_
  refine va_get (D := Γ.1) (ci := 0) (v := .int (nI n0)) (C := RX0) (T := TX0) (N := 4) hx hb hts hinX0 hown hK.1 hP 0 rfl rfl 1 (by decide) (hts _ mw_12) (fun _ h9 => h9) rfl dX0_grow_20 ?_
  refine lv_iload_n hx hb dX0_grow_23 rfl (lv_at hl 1 rfl) ?_
  refine wr_finv (va_runVN (As := [.int (nI n0), .int (nI j0)]) (rest := []) ⟨hx, hb, hml, hown, hts⟩ (c_X1_link l Γ a e g n0 j0 (by first | omega | assumption) (by first | omega | assumption)) (kcwVN 2 hts kv_X1_link (hK.nw _ (nwL_at 49 rfl)) (rm_le hR (Nat.le_of_ble_eq_true rfl) (Nat.le_of_ble_eq_true rfl))) (kPw_V hK (va_recv hK.1 hP (ci := 1) (q0 := 1) rfl rfl) (hP.sub (ws' := [(a, .inr (1, [.ref e])), (e, .inl (Γ.2 0, 14, .inl (aN g)))]) [1, 2] rfl) (hD.sub (ws' := [(a, .inr (1, [.ref e])), (e, .inl (Γ.2 0, 14, .inl (aN g)))]) [1, 2] (by decide) rfl)) rfl rfl hl.1 rfl (lv_room (Nat.le_of_ble_eq_true rfl)) dX0_grow_24 ⟨Nat.zero_le _, Nat.zero_le _⟩) hP hD hS [1, 2] rfl (fun _ => rfl) (fun _ H locs hw hP hD hS => ?_)
  have hP : va_P Γ.1 vwCl [(fa, .inr (0, [.ref a, .int (nI n0), .int (nI th0), .int (nI mv0)])), (a, .inr (1, [.ref e])), (e, .inl (Γ.2 0, 14, .inl (aN (upN (upN g n0 (g n0 ||| 2 ^ j0)) j0 ((upN g n0 (g n0 ||| 2 ^ j0)) j0 ||| 2 ^ n0)))))] H := hP
  have hD : va_D A [(fa, .inr (0, [.ref a, .int (nI n0), .int (nI th0), .int (nI mv0)])), (a, .inr (1, [.ref e])), (e, .inl (Γ.2 0, 14, .inl (aN (upN (upN g n0 (g n0 ||| 2 ^ j0)) j0 ((upN g n0 (g n0 ||| 2 ^ j0)) j0 ||| 2 ^ n0)))))] := hD
  refine lv_aload_n hx hb dX0_grow_27 rfl (lv_at hl 0 rfl) ?_
  refine lv_dup hx hb dX0_grow_28 rfl ?_
  refine va_get (D := Γ.1) (ci := 0) (v := .int (nI th0)) (C := RX0) (T := TX0) (N := 4) hx hb hts hinX0 hown hK.1 hP 0 rfl rfl 2 (by decide) (hts _ mw_13) (fun _ h9 => h9) rfl dX0_grow_29 ?_
  refine lv_aload_n hx hb dX0_grow_32 rfl (lv_at hl 0 rfl) ?_
  refine va_get (D := Γ.1) (ci := 0) (v := .int (nI n0)) (C := RX0) (T := TX0) (N := 4) hx hb hts hinX0 hown hK.1 hP 0 rfl rfl 1 (by decide) (hts _ mw_12) (fun _ h9 => h9) rfl dX0_grow_33 ?_
  refine ro_fin (va_runSN (As := [.int (nI n0)]) (rest := [.int (nI th0), .ref fa]) ⟨hx, hb, hml, hown, hts⟩ (c_X6_bit l Γ _ n0 (by first | omega | assumption)) (kcwSN 1 hts kv_X6_bit (hK.nw _ (nwL_at 50 rfl)) (rm_le hR (Nat.le_of_ble_eq_true rfl) (Nat.le_of_ble_eq_true rfl))) (kPc_S hK) rfl rfl hl.1 rfl (lv_room (Nat.le_of_ble_eq_true rfl)) dX0_grow_36 ⟨Nat.zero_le _, Nat.zero_le _⟩) hS (fun locs hS => ?_)
  refine lv_ior hx hb dX0_grow_39 ?_
  refine tp_i (y := (nI (th0 ||| (2 ^ n0)))) (ni_or _ _) ?_
  refine va_put (D := Γ.1) (ci := 0) (v := .int (nI (th0 ||| (2 ^ n0)))) (ty := .int) (C := RX0) (T := TX0) (N := 4) hx hb hts hinX0 tyX0 tyX0_ok nmX0 hown hK.1 hP hD hS 0 rfl rfl 2 (by decide) (hts _ mw_13) (fun _ h9 => h9) rfl (by decide +kernel) rfl rfl (Nat.le_of_ble_eq_true rfl) dX0_grow_40 (fun H locs hP hD hS => ?_)
  have hP : va_P Γ.1 vwCl [(fa, .inr (0, [.ref a, .int (nI n0), .int (nI (th0 ||| (2 ^ n0))), .int (nI mv0)])), (a, .inr (1, [.ref e])), (e, .inl (Γ.2 0, 14, .inl (aN (upN (upN g n0 (g n0 ||| 2 ^ j0)) j0 ((upN g n0 (g n0 ||| 2 ^ j0)) j0 ||| 2 ^ n0)))))] H := hP
  have hD : va_D A [(fa, .inr (0, [.ref a, .int (nI n0), .int (nI (th0 ||| (2 ^ n0))), .int (nI mv0)])), (a, .inr (1, [.ref e])), (e, .inl (Γ.2 0, 14, .inl (aN (upN (upN g n0 (g n0 ||| 2 ^ j0)) j0 ((upN g n0 (g n0 ||| 2 ^ j0)) j0 ||| 2 ^ n0)))))] := hD
  refine lv_aload_n hx hb dX0_grow_43 rfl (lv_at hl 0 rfl) ?_
  refine lv_dup hx hb dX0_grow_44 rfl ?_
  refine va_get (D := Γ.1) (ci := 0) (v := .int (nI n0)) (C := RX0) (T := TX0) (N := 4) hx hb hts hinX0 hown hK.1 hP 0 rfl rfl 1 (by decide) (hts _ mw_12) (fun _ h9 => h9) rfl dX0_grow_45 ?_
  refine lv_iconst (v := (nI 1)) hx hb dX0_grow_48 (by decide) ?_
  refine lv_iadd hx hb dX0_grow_49 ?_
  refine tp_i (y := (nI (n0 + 1))) (nI_add _ _) ?_
  refine va_put (D := Γ.1) (ci := 0) (v := .int (nI (n0 + 1))) (ty := .int) (C := RX0) (T := TX0) (N := 4) hx hb hts hinX0 tyX0 tyX0_ok nmX0 hown hK.1 hP hD hS 0 rfl rfl 1 (by decide) (hts _ mw_12) (fun _ h9 => h9) rfl (by decide +kernel) rfl rfl (Nat.le_of_ble_eq_true rfl) dX0_grow_50 (fun H locs hP hD hS => ?_)
  have hP : va_P Γ.1 vwCl [(fa, .inr (0, [.ref a, .int (nI (n0 + 1)), .int (nI (th0 ||| (2 ^ n0))), .int (nI mv0)])), (a, .inr (1, [.ref e])), (e, .inl (Γ.2 0, 14, .inl (aN (upN (upN g n0 (g n0 ||| 2 ^ j0)) j0 ((upN g n0 (g n0 ||| 2 ^ j0)) j0 ||| 2 ^ n0)))))] H := hP
  have hD : va_D A [(fa, .inr (0, [.ref a, .int (nI (n0 + 1)), .int (nI (th0 ||| (2 ^ n0))), .int (nI mv0)])), (a, .inr (1, [.ref e])), (e, .inl (Γ.2 0, 14, .inl (aN (upN (upN g n0 (g n0 ||| 2 ^ j0)) j0 ((upN g n0 (g n0 ||| 2 ^ j0)) j0 ||| 2 ^ n0)))))] := hD
  exact hret () hP hS (trivial) dX0_grow_53
set_option maxHeartbeats 8000000 in
set_option maxRecDepth 100000 in
theorem c_X0_isThere (l : Launch) (Γ : kG) (H0 : Heap) (fa : Nat) (n0 : Nat) (th0 : Nat) (mv0 : Nat) (a : Nat) (e : Nat) (g : Nat → Nat) (v0 : Nat) (hP : va_P Γ.1 vwCl [(fa, .inr (0, [.ref a, .int (nI n0), .int (nI th0), .int (nI mv0)])), (a, .inr (1, [.ref e])), (e, .inl (Γ.2 0, 14, .inl (aN g)))] H0) (hth : th0 < 16384) (hv0 : v0 < 14) : RO l yX0_isThere (wsq yX0_isThere cX0_isThere 2 (some .boolean)) (rmL 2) Γ H0 [.ref fa, .int (nI v0)] (bI (th0.testBit v0)) := by
  refine ro_ofz (cc := cX0_isThere) (maxL := 2) (by decide +kernel) (Nat.le_of_ble_eq_true rfl) rfl ?_
  intro p ev R st mi args below meth cd Q ls C0 hR hret hh hS hl
  obtain ⟨hx, hb, hr, hml, hown, hts, hlk, hK, hnm⟩ := C0
  have hown : st.vm.findClass RX0 = some mi.cls := hown
  refine lv_aload_n hx hb dX0_isThere_0 rfl (lv_at hl 0 rfl) ?_
  refine va_get (D := Γ.1) (ci := 0) (v := .int (nI th0)) (C := RX0) (T := TX0) (N := 4) hx hb hts hinX0 hown hK.1 hP 0 rfl rfl 2 (by decide) (hts _ mw_13) (fun _ h9 => h9) rfl dX0_isThere_1 ?_
  refine lv_iload_n hx hb dX0_isThere_4 rfl (lv_at hl 1 rfl) ?_
  refine ro_fin (va_runSN (As := [.int (nI th0), .int (nI v0)]) (rest := []) ⟨hx, hb, hml, hown, hts⟩ (c_X6_has l Γ H0 th0 v0 (by first | omega | assumption) (by first | omega | assumption)) (kcwSN 2 hts kv_X6_has (hK.nw _ (nwL_at 51 rfl)) (rm_le hR (Nat.le_of_ble_eq_true rfl) (Nat.le_of_ble_eq_true rfl))) (kPc_S hK) rfl rfl hl.1 rfl (lv_room (Nat.le_of_ble_eq_true rfl)) dX0_isThere_5 ⟨Nat.zero_le _, Nat.zero_le _⟩) hS (fun locs hS => ?_)
  exact hret hS (rfl) dX0_isThere_8
set_option maxHeartbeats 8000000 in
set_option maxRecDepth 100000 in
theorem c_X0_leftAfter (l : Launch) (Γ : kG) (H0 : Heap) (fa : Nat) (n0 : Nat) (th0 : Nat) (mv0 : Nat) (a : Nat) (e : Nat) (g : Nat → Nat) (v0 : Nat) (hP : va_P Γ.1 vwCl [(fa, .inr (0, [.ref a, .int (nI n0), .int (nI th0), .int (nI mv0)])), (a, .inr (1, [.ref e])), (e, .inl (Γ.2 0, 14, .inl (aN g)))] H0) (hv0 : v0 < 14) : RO l yX0_leftAfter (wsq yX0_leftAfter cX0_leftAfter 2 (some .int)) (rmL 2) Γ H0 [.ref fa, .int (nI v0)] (nI (lft g th0 v0)) := by
  refine ro_ofi (cc := cX0_leftAfter) (maxL := 2) (by decide +kernel) (Nat.le_of_ble_eq_true rfl) rfl ?_
  intro p ev R st mi args below meth cd Q ls C0 hR hret hh hS hl
  obtain ⟨hx, hb, hr, hml, hown, hts, hlk, hK, hnm⟩ := C0
  have hown : st.vm.findClass RX0 = some mi.cls := hown
  refine lv_aload_n hx hb dX0_leftAfter_0 rfl (lv_at hl 0 rfl) ?_
  refine va_get (D := Γ.1) (ci := 0) (v := .int (nI th0)) (C := RX0) (T := TX0) (N := 4) hx hb hts hinX0 hown hK.1 hP 0 rfl rfl 2 (by decide) (hts _ mw_13) (fun _ h9 => h9) rfl dX0_leftAfter_1 ?_
  refine lv_aload_n hx hb dX0_leftAfter_4 rfl (lv_at hl 0 rfl) ?_
  refine va_get (D := Γ.1) (ci := 0) (v := .ref a) (C := RX0) (T := TX0) (N := 4) hx hb hts hinX0 hown hK.1 hP 0 rfl rfl 0 (by decide) (hts _ mw_11) (fun _ h9 => h9) rfl dX0_leftAfter_5 ?_
  refine lv_iload_n hx hb dX0_leftAfter_8 rfl (lv_at hl 1 rfl) ?_
  refine ro_fin (va_runVN (As := [.int (nI v0)]) (rest := [.int (nI th0)]) ⟨hx, hb, hml, hown, hts⟩ (c_X1_takenWith l Γ H0 a e g v0 (hP.sub (ws' := [(a, .inr (1, [.ref e])), (e, .inl (Γ.2 0, 14, .inl (aN g)))]) [1, 2] rfl) (by first | omega | assumption)) (kcwVN 1 hts kv_X1_takenWith (hK.nw _ (nwL_at 52 rfl)) (rm_le hR (Nat.le_of_ble_eq_true rfl) (Nat.le_of_ble_eq_true rfl))) (kPc_V hK (va_recv hK.1 hP (ci := 1) (q0 := 1) rfl rfl)) rfl rfl hl.1 rfl (lv_room (Nat.le_of_ble_eq_true rfl)) dX0_leftAfter_9 ⟨Nat.zero_le _, Nat.zero_le _⟩) hS (fun locs hS => ?_)
  refine lv_iconst (v := (-1)) hx hb dX0_leftAfter_12 (by decide) ?_
  refine lv_ixor hx hb dX0_leftAfter_13 ?_
  refine lv_iand hx hb dX0_leftAfter_14 ?_
  refine tp_i (y := (nI (sd th0 (g v0 ||| 2 ^ v0)))) (ni_sd _ _) ?_
  exact hret hS (by rw [lft, Nat.or_comm]) dX0_leftAfter_15
set_option maxHeartbeats 8000000 in
set_option maxRecDepth 100000 in
theorem c_X0_choose (l : Launch) (Γ : kG) (fa : Nat) (n0 : Nat) (th0 : Nat) (mv0 : Nat) (a : Nat) (e : Nat) (g : Nat → Nat) (v0 : Nat) (hth : th0 < 16384) (hv0 : v0 < 14) : WRi l yX0_choose (wsq yX0_choose cX0_choose 4 (some .int)) (rmL 3) Γ [.ref fa, .int (nI v0)] [(fa, .inr (0, [.ref a, .int (nI n0), .int (nI th0), .int (nI mv0)])), (a, .inr (1, [.ref e])), (e, .inl (Γ.2 0, 14, .inl (aN g)))] (fun u : Unit => [(fa, .inr (0, [.ref a, .int (nI n0), .int (nI (lft g th0 v0)), .int (nI (mv0 + 1))])), (a, .inr (1, [.ref e])), (e, .inl (Γ.2 0, 14, .inl (aN g)))]) (fun (r : Int32) (u : Unit) => r = (nI (pc th0 - pc (lft g th0 v0)))) := by
  refine wr_ofi (cc := cX0_choose) (maxL := 4) (by decide +kernel) (Nat.le_of_ble_eq_true rfl) rfl ?_
  intro p ev R st mi args below meth cd Q A ls C0 hR hret hP hD hS hl
  obtain ⟨hx, hb, hr, hml, hown, hts, hlk, hK, hnm⟩ := C0
  have hown : st.vm.findClass RX0 = some mi.cls := hown
  refine lv_aload_n hx hb dX0_choose_0 rfl (lv_at hl 0 rfl) ?_
  refine lv_iload_n hx hb dX0_choose_1 rfl (lv_at hl 1 rfl) ?_
  refine ro_fin (va_runV (As := [.int (nI v0)]) (rest := []) ⟨hx, hb, hml, hown, hts⟩ (c_X0_leftAfter l Γ _ fa n0 th0 mv0 a e g v0 (hP.sub (ws' := [(fa, .inr (0, [.ref a, .int (nI n0), .int (nI th0), .int (nI mv0)])), (a, .inr (1, [.ref e])), (e, .inl (Γ.2 0, 14, .inl (aN g)))]) [0, 1, 2] rfl) (by first | omega | assumption)) (kcwV 1 hts kv_X0_leftAfter mw_56 (rm_le hR (Nat.le_of_ble_eq_true rfl) (Nat.le_of_ble_eq_true rfl))) (kPc_V hK (va_recv hK.1 hP (ci := 0) (q0 := 0) rfl rfl)) rfl rfl hl.1 rfl (lv_room (Nat.le_of_ble_eq_true rfl)) dX0_choose_2 ⟨Nat.zero_le _, Nat.zero_le _⟩) hS (fun locs hS => ?_)
  refine lv_istore_n (lv' := [(2, .int (nI (lft g th0 v0))), (0, .ref fa), (1, .int (nI v0))]) hx hb dX0_choose_5 rfl hl (by decide) rfl (fun ls hl => ?_)
  refine lv_aload_n hx hb dX0_choose_6 rfl (lv_at hl 1 rfl) ?_
  refine va_get (D := Γ.1) (ci := 0) (v := .int (nI th0)) (C := RX0) (T := TX0) (N := 4) hx hb hts hinX0 hown hK.1 hP 0 rfl rfl 2 (by decide) (hts _ mw_13) (fun _ h9 => h9) rfl dX0_choose_7 ?_
  refine ro_fin (va_runS (As := [.int (nI th0)]) (rest := []) ⟨hx, hb, hml, hown, hts⟩ (c_J6_bitCount_0f7a4 l Γ _ th0 (by first | omega | assumption)) (kcwS 1 hts kv_J6_bitCount_0f7a4 mw_60 (rm_le hR (Nat.le_of_ble_eq_true rfl) (Nat.le_of_ble_eq_true rfl))) (kPc_S hK) rfl rfl hl.1 rfl (lv_room (Nat.le_of_ble_eq_true rfl)) dX0_choose_10 ⟨Nat.zero_le _, Nat.zero_le _⟩) hS (fun locs hS => ?_)
  refine lv_iload_n hx hb dX0_choose_13 rfl (lv_at hl 0 rfl) ?_
  refine ro_fin (va_runS (As := [.int (nI (lft g th0 v0))]) (rest := [.int (nI (pc th0))]) ⟨hx, hb, hml, hown, hts⟩ (c_J6_bitCount_0f7a4 l Γ _ (lft g th0 v0) (lft_lt _ hth)) (kcwS 1 hts kv_J6_bitCount_0f7a4 mw_60 (rm_le hR (Nat.le_of_ble_eq_true rfl) (Nat.le_of_ble_eq_true rfl))) (kPc_S hK) rfl rfl hl.1 rfl (lv_room (Nat.le_of_ble_eq_true rfl)) dX0_choose_14 ⟨Nat.zero_le _, Nat.zero_le _⟩) hS (fun locs hS => ?_)
  refine lv_isub hx hb dX0_choose_17 ?_
  refine tp_i (y := (nI ((pc th0) - (pc (lft g th0 v0))))) (ni_sub (pc_mono (fun _ h9 => lft_sub h9))) ?_
  refine lv_istore_n (lv' := [(3, .int (nI ((pc th0) - (pc (lft g th0 v0))))), (2, .int (nI (lft g th0 v0))), (0, .ref fa), (1, .int (nI v0))]) hx hb dX0_choose_18 rfl hl (by decide) rfl (fun ls hl => ?_)
  refine lv_aload_n hx hb dX0_choose_19 rfl (lv_at hl 2 rfl) ?_
  refine lv_iload_n hx hb dX0_choose_20 rfl (lv_at hl 1 rfl) ?_
  refine va_put (D := Γ.1) (ci := 0) (v := .int (nI (lft g th0 v0))) (ty := .int) (C := RX0) (T := TX0) (N := 4) hx hb hts hinX0 tyX0 tyX0_ok nmX0 hown hK.1 hP hD hS 0 rfl rfl 2 (by decide) (hts _ mw_13) (fun _ h9 => h9) rfl (by decide +kernel) rfl rfl (Nat.le_of_ble_eq_true rfl) dX0_choose_21 (fun H locs hP hD hS => ?_)
  have hP : va_P Γ.1 vwCl [(fa, .inr (0, [.ref a, .int (nI n0), .int (nI (lft g th0 v0)), .int (nI mv0)])), (a, .inr (1, [.ref e])), (e, .inl (Γ.2 0, 14, .inl (aN g)))] H := hP
  have hD : va_D A [(fa, .inr (0, [.ref a, .int (nI n0), .int (nI (lft g th0 v0)), .int (nI mv0)])), (a, .inr (1, [.ref e])), (e, .inl (Γ.2 0, 14, .inl (aN g)))] := hD
  refine lv_aload_n hx hb dX0_choose_24 rfl (lv_at hl 2 rfl) ?_
  refine lv_dup hx hb dX0_choose_25 rfl ?_
  refine va_get (D := Γ.1) (ci := 0) (v := .int (nI mv0)) (C := RX0) (T := TX0) (N := 4) hx hb hts hinX0 hown hK.1 hP 0 rfl rfl 3 (by decide) (hts _ mw_14) (fun _ h9 => h9) rfl dX0_choose_26 ?_
  refine lv_iconst (v := (nI 1)) hx hb dX0_choose_29 (by decide) ?_
  refine lv_iadd hx hb dX0_choose_30 ?_
  refine tp_i (y := (nI (mv0 + 1))) (nI_add _ _) ?_
  refine va_put (D := Γ.1) (ci := 0) (v := .int (nI (mv0 + 1))) (ty := .int) (C := RX0) (T := TX0) (N := 4) hx hb hts hinX0 tyX0 tyX0_ok nmX0 hown hK.1 hP hD hS 0 rfl rfl 3 (by decide) (hts _ mw_14) (fun _ h9 => h9) rfl (by decide +kernel) rfl rfl (Nat.le_of_ble_eq_true rfl) dX0_choose_31 (fun H locs hP hD hS => ?_)
  have hP : va_P Γ.1 vwCl [(fa, .inr (0, [.ref a, .int (nI n0), .int (nI (lft g th0 v0)), .int (nI (mv0 + 1))])), (a, .inr (1, [.ref e])), (e, .inl (Γ.2 0, 14, .inl (aN g)))] H := hP
  have hD : va_D A [(fa, .inr (0, [.ref a, .int (nI n0), .int (nI (lft g th0 v0)), .int (nI (mv0 + 1))])), (a, .inr (1, [.ref e])), (e, .inl (Γ.2 0, 14, .inl (aN g)))] := hD
  refine lv_iload_n hx hb dX0_choose_34 rfl (lv_at hl 0 rfl) ?_
  exact hret () hP hS (rfl) dX0_choose_35
set_option maxHeartbeats 8000000 in
set_option maxRecDepth 100000 in
theorem c_X0_startAgain (l : Launch) (Γ : kG) (fa : Nat) (n0 : Nat) (th0 : Nat) (mv0 : Nat) (a : Nat) (e : Nat) (g : Nat → Nat) (hn0 : n0 ≤ 14) : WRv l yX0_startAgain (wsq yX0_startAgain cX0_startAgain 1 none) (rmL 1) Γ [.ref fa] [(fa, .inr (0, [.ref a, .int (nI n0), .int (nI th0), .int (nI mv0)])), (a, .inr (1, [.ref e])), (e, .inl (Γ.2 0, 14, .inl (aN g)))] (fun u : Unit => [(fa, .inr (0, [.ref a, .int (nI n0), .int (nI (2 ^ n0 - 1)), .int (nI 0)])), (a, .inr (1, [.ref e])), (e, .inl (Γ.2 0, 14, .inl (aN g)))]) (fun u : Unit => True) := by
  refine wr_ofv (cc := cX0_startAgain) (maxL := 1) (by decide +kernel) (Nat.le_of_ble_eq_true rfl) rfl ?_
  intro p ev R st mi args below meth cd Q A ls C0 hR hret hP hD hS hl
  obtain ⟨hx, hb, hr, hml, hown, hts, hlk, hK, hnm⟩ := C0
  have hown : st.vm.findClass RX0 = some mi.cls := hown
  refine lv_aload_n hx hb dX0_startAgain_0 rfl (lv_at hl 0 rfl) ?_
  refine lv_iconst (v := (nI 1)) hx hb dX0_startAgain_1 (by decide) ?_
  refine lv_aload_n hx hb dX0_startAgain_2 rfl (lv_at hl 0 rfl) ?_
  refine va_get (D := Γ.1) (ci := 0) (v := .int (nI n0)) (C := RX0) (T := TX0) (N := 4) hx hb hts hinX0 hown hK.1 hP 0 rfl rfl 1 (by decide) (hts _ mw_12) (fun _ h9 => h9) rfl dX0_startAgain_3 ?_
  refine lv_ishl hx hb dX0_startAgain_6 ?_
  refine tp_i (y := (nI (2 ^ n0))) (ni_shl1 (by omega)) ?_
  refine lv_iconst (v := (nI 1)) hx hb dX0_startAgain_7 (by decide) ?_
  refine lv_isub hx hb dX0_startAgain_8 ?_
  refine tp_i (y := (nI ((2 ^ n0) - 1))) (ni_sub (Nat.one_le_two_pow)) ?_
  refine va_put (D := Γ.1) (ci := 0) (v := .int (nI ((2 ^ n0) - 1))) (ty := .int) (C := RX0) (T := TX0) (N := 4) hx hb hts hinX0 tyX0 tyX0_ok nmX0 hown hK.1 hP hD hS 0 rfl rfl 2 (by decide) (hts _ mw_13) (fun _ h9 => h9) rfl (by decide +kernel) rfl rfl (Nat.le_of_ble_eq_true rfl) dX0_startAgain_9 (fun H locs hP hD hS => ?_)
  have hP : va_P Γ.1 vwCl [(fa, .inr (0, [.ref a, .int (nI n0), .int (nI ((2 ^ n0) - 1)), .int (nI mv0)])), (a, .inr (1, [.ref e])), (e, .inl (Γ.2 0, 14, .inl (aN g)))] H := hP
  have hD : va_D A [(fa, .inr (0, [.ref a, .int (nI n0), .int (nI ((2 ^ n0) - 1)), .int (nI mv0)])), (a, .inr (1, [.ref e])), (e, .inl (Γ.2 0, 14, .inl (aN g)))] := hD
  refine lv_aload_n hx hb dX0_startAgain_12 rfl (lv_at hl 0 rfl) ?_
  refine lv_iconst (v := (nI 0)) hx hb dX0_startAgain_13 (by decide) ?_
  refine va_put (D := Γ.1) (ci := 0) (v := .int (nI 0)) (ty := .int) (C := RX0) (T := TX0) (N := 4) hx hb hts hinX0 tyX0 tyX0_ok nmX0 hown hK.1 hP hD hS 0 rfl rfl 3 (by decide) (hts _ mw_14) (fun _ h9 => h9) rfl (by decide +kernel) rfl rfl (Nat.le_of_ble_eq_true rfl) dX0_startAgain_14 (fun H locs hP hD hS => ?_)
  have hP : va_P Γ.1 vwCl [(fa, .inr (0, [.ref a, .int (nI n0), .int (nI ((2 ^ n0) - 1)), .int (nI 0)])), (a, .inr (1, [.ref e])), (e, .inl (Γ.2 0, 14, .inl (aN g)))] H := hP
  have hD : va_D A [(fa, .inr (0, [.ref a, .int (nI n0), .int (nI ((2 ^ n0) - 1)), .int (nI 0)])), (a, .inr (1, [.ref e])), (e, .inl (Γ.2 0, 14, .inl (aN g)))] := hD
  exact hret () hP hS (trivial) dX0_startAgain_17
set_option maxHeartbeats 8000000 in
set_option maxRecDepth 100000 in
theorem c_X0_hasEdge (l : Launch) (Γ : kG) (H0 : Heap) (fa : Nat) (n0 : Nat) (th0 : Nat) (mv0 : Nat) (a : Nat) (e : Nat) (g : Nat → Nat) (i0 : Nat) (j0 : Nat) (hP : va_P Γ.1 vwCl [(fa, .inr (0, [.ref a, .int (nI n0), .int (nI th0), .int (nI mv0)])), (a, .inr (1, [.ref e])), (e, .inl (Γ.2 0, 14, .inl (aN g)))] H0) (hg : ∀ i, i < 14 → g i < 16384) (hth : th0 < 16384) (hi0 : i0 < 14) (hj0 : j0 < 14) : RO l yX0_hasEdge (wsq yX0_hasEdge cX0_hasEdge 3 (some .boolean)) (rmL 3) Γ H0 [.ref fa, .int (nI i0), .int (nI j0)] (bI (th0.testBit i0 && th0.testBit j0 && (g i0).testBit j0)) := by
  refine ro_ofz (cc := cX0_hasEdge) (maxL := 3) (by decide +kernel) (Nat.le_of_ble_eq_true rfl) rfl ?_
  intro p ev R st mi args below meth cd Q ls C0 hR hret hh hS hl
  obtain ⟨hx, hb, hr, hml, hown, hts, hlk, hK, hnm⟩ := C0
  have hown : st.vm.findClass RX0 = some mi.cls := hown
  refine lv_aload_n hx hb dX0_hasEdge_0 rfl (lv_at hl 0 rfl) ?_
  refine lv_iload_n hx hb dX0_hasEdge_1 rfl (lv_at hl 1 rfl) ?_
  refine ro_fin (va_runV (As := [.int (nI i0)]) (rest := []) ⟨hx, hb, hml, hown, hts⟩ (c_X0_isThere l Γ H0 fa n0 th0 mv0 a e g i0 (hP.sub (ws' := [(fa, .inr (0, [.ref a, .int (nI n0), .int (nI th0), .int (nI mv0)])), (a, .inr (1, [.ref e])), (e, .inl (Γ.2 0, 14, .inl (aN g)))]) [0, 1, 2] rfl) (by first | omega | assumption) (by first | omega | assumption)) (kcwV 1 hts kv_X0_isThere mw_68 (rm_le hR (Nat.le_of_ble_eq_true rfl) (Nat.le_of_ble_eq_true rfl))) (kPc_V hK (va_recv hK.1 hP (ci := 0) (q0 := 0) rfl rfl)) rfl rfl hl.1 rfl (lv_room (Nat.le_of_ble_eq_true rfl)) dX0_hasEdge_2 ⟨Nat.zero_le _, Nat.zero_le _⟩) hS (fun locs hS => ?_)
  refine nb_ifb_eq (tgt := 35) hx hb dX0_hasEdge_5 (by decide) (fun c_5 => ?_) (fun c_5 => ?_)
  · skip
    refine lv_iconst (v := (nI 0)) hx hb dX0_hasEdge_35 (by decide) ?_
    exact hret hS (by first | (rw [c_5, c_13, c_28]; rfl) | (rw [c_5, c_13]; rfl) | (rw [c_5]; rfl)) dX0_hasEdge_36
  · skip
    refine lv_aload_n hx hb dX0_hasEdge_8 rfl (lv_at hl 0 rfl) ?_
    refine lv_iload_n hx hb dX0_hasEdge_9 rfl (lv_at hl 2 rfl) ?_
    refine ro_fin (va_runV (As := [.int (nI j0)]) (rest := []) ⟨hx, hb, hml, hown, hts⟩ (c_X0_isThere l Γ H0 fa n0 th0 mv0 a e g j0 (hP.sub (ws' := [(fa, .inr (0, [.ref a, .int (nI n0), .int (nI th0), .int (nI mv0)])), (a, .inr (1, [.ref e])), (e, .inl (Γ.2 0, 14, .inl (aN g)))]) [0, 1, 2] rfl) (by first | omega | assumption) (by first | omega | assumption)) (kcwV 1 hts kv_X0_isThere mw_68 (rm_le hR (Nat.le_of_ble_eq_true rfl) (Nat.le_of_ble_eq_true rfl))) (kPc_V hK (va_recv hK.1 hP (ci := 0) (q0 := 0) rfl rfl)) rfl rfl hl.1 rfl (lv_room (Nat.le_of_ble_eq_true rfl)) dX0_hasEdge_10 ⟨Nat.zero_le _, Nat.zero_le _⟩) hS (fun locs hS => ?_)
    refine nb_ifb_eq (tgt := 35) hx hb dX0_hasEdge_13 (by decide) (fun c_13 => ?_) (fun c_13 => ?_)
    · skip
      refine lv_iconst (v := (nI 0)) hx hb dX0_hasEdge_35 (by decide) ?_
      exact hret hS (by first | (rw [c_5, c_13, c_28]; rfl) | (rw [c_5, c_13]; rfl) | (rw [c_5]; rfl)) dX0_hasEdge_36
    · skip
      refine lv_aload_n hx hb dX0_hasEdge_16 rfl (lv_at hl 0 rfl) ?_
      refine va_get (D := Γ.1) (ci := 0) (v := .ref a) (C := RX0) (T := TX0) (N := 4) hx hb hts hinX0 hown hK.1 hP 0 rfl rfl 0 (by decide) (hts _ mw_11) (fun _ h9 => h9) rfl dX0_hasEdge_17 ?_
      refine lv_iload_n hx hb dX0_hasEdge_20 rfl (lv_at hl 1 rfl) ?_
      refine ro_fin (va_runVN (As := [.int (nI i0)]) (rest := []) ⟨hx, hb, hml, hown, hts⟩ (c_X1_around l Γ H0 a e g i0 (hP.sub (ws' := [(a, .inr (1, [.ref e])), (e, .inl (Γ.2 0, 14, .inl (aN g)))]) [1, 2] rfl) (by first | omega | assumption)) (kcwVN 1 hts kv_X1_around (hK.nw _ (nwL_at 53 rfl)) (rm_le hR (Nat.le_of_ble_eq_true rfl) (Nat.le_of_ble_eq_true rfl))) (kPc_V hK (va_recv hK.1 hP (ci := 1) (q0 := 1) rfl rfl)) rfl rfl hl.1 rfl (lv_room (Nat.le_of_ble_eq_true rfl)) dX0_hasEdge_21 ⟨Nat.zero_le _, Nat.zero_le _⟩) hS (fun locs hS => ?_)
      refine lv_iload_n hx hb dX0_hasEdge_24 rfl (lv_at hl 2 rfl) ?_
      refine ro_fin (va_runSN (As := [.int (nI (g i0)), .int (nI j0)]) (rest := []) ⟨hx, hb, hml, hown, hts⟩ (c_X6_has l Γ H0 (g i0) j0 (hg _ hi0) (by first | omega | assumption)) (kcwSN 2 hts kv_X6_has (hK.nw _ (nwL_at 51 rfl)) (rm_le hR (Nat.le_of_ble_eq_true rfl) (Nat.le_of_ble_eq_true rfl))) (kPc_S hK) rfl rfl hl.1 rfl (lv_room (Nat.le_of_ble_eq_true rfl)) dX0_hasEdge_25 ⟨Nat.zero_le _, Nat.zero_le _⟩) hS (fun locs hS => ?_)
      refine nb_ifb_eq (tgt := 35) hx hb dX0_hasEdge_28 (by decide) (fun c_28 => ?_) (fun c_28 => ?_)
      · skip
        refine lv_iconst (v := (nI 0)) hx hb dX0_hasEdge_35 (by decide) ?_
        exact hret hS (by first | (rw [c_5, c_13, c_28]; rfl) | (rw [c_5, c_13]; rfl) | (rw [c_5]; rfl)) dX0_hasEdge_36
      · skip
        refine lv_iconst (v := (nI 1)) hx hb dX0_hasEdge_31 (by decide) ?_
        refine lv_goto (tgt := 36) hx hb dX0_hasEdge_32 (by decide) ?_
        exact hret hS (by first | (rw [c_5, c_13, c_28]; rfl) | (rw [c_5, c_13]; rfl) | (rw [c_5]; rfl)) dX0_hasEdge_36
set_option maxHeartbeats 8000000 in
set_option maxRecDepth 100000 in
theorem c_X0_canBeJoined (l : Launch) (Γ : kG) (H0 : Heap) (fa : Nat) (n0 : Nat) (th0 : Nat) (mv0 : Nat) (a : Nat) (e : Nat) (g : Nat → Nat) (i0 : Nat) (j0 : Nat) (hP : va_P Γ.1 vwCl [(fa, .inr (0, [.ref a, .int (nI n0), .int (nI th0), .int (nI mv0)])), (a, .inr (1, [.ref e])), (e, .inl (Γ.2 0, 14, .inl (aN g)))] H0) (hg : ∀ i, i < 14 → g i < 16384) (hn0 : n0 ≤ 14) (hth : th0 < 16384) (hi0 : i0 < n0) (hj0 : j0 < n0) : RO l yX0_canBeJoined (wsq yX0_canBeJoined cX0_canBeJoined 3 (some .boolean)) (rmL 4) Γ H0 [.ref fa, .int (nI i0), .int (nI j0)] (bI (th0.testBit i0 && th0.testBit j0 && !(comp g (2 ^ n0 - 1) i0).testBit j0)) := by
  refine ro_ofz (cc := cX0_canBeJoined) (maxL := 3) (by decide +kernel) (Nat.le_of_ble_eq_true rfl) rfl ?_
  intro p ev R st mi args below meth cd Q ls C0 hR hret hh hS hl
  obtain ⟨hx, hb, hr, hml, hown, hts, hlk, hK, hnm⟩ := C0
  have hown : st.vm.findClass RX0 = some mi.cls := hown
  refine lv_aload_n hx hb dX0_canBeJoined_0 rfl (lv_at hl 0 rfl) ?_
  refine lv_iload_n hx hb dX0_canBeJoined_1 rfl (lv_at hl 1 rfl) ?_
  refine ro_fin (va_runV (As := [.int (nI i0)]) (rest := []) ⟨hx, hb, hml, hown, hts⟩ (c_X0_isThere l Γ H0 fa n0 th0 mv0 a e g i0 (hP.sub (ws' := [(fa, .inr (0, [.ref a, .int (nI n0), .int (nI th0), .int (nI mv0)])), (a, .inr (1, [.ref e])), (e, .inl (Γ.2 0, 14, .inl (aN g)))]) [0, 1, 2] rfl) (by first | omega | assumption) (by first | omega | assumption)) (kcwV 1 hts kv_X0_isThere mw_68 (rm_le hR (Nat.le_of_ble_eq_true rfl) (Nat.le_of_ble_eq_true rfl))) (kPc_V hK (va_recv hK.1 hP (ci := 0) (q0 := 0) rfl rfl)) rfl rfl hl.1 rfl (lv_room (Nat.le_of_ble_eq_true rfl)) dX0_canBeJoined_2 ⟨Nat.zero_le _, Nat.zero_le _⟩) hS (fun locs hS => ?_)
  refine nb_ifb_eq (tgt := 43) hx hb dX0_canBeJoined_5 (by decide) (fun c_5 => ?_) (fun c_5 => ?_)
  · skip
    refine lv_iconst (v := (nI 0)) hx hb dX0_canBeJoined_43 (by decide) ?_
    exact hret hS (by first | (rw [c_5, c_13, c_36]; rfl) | (rw [c_5, c_13]; rfl) | (rw [c_5]; rfl)) dX0_canBeJoined_44
  · skip
    refine lv_aload_n hx hb dX0_canBeJoined_8 rfl (lv_at hl 0 rfl) ?_
    refine lv_iload_n hx hb dX0_canBeJoined_9 rfl (lv_at hl 2 rfl) ?_
    refine ro_fin (va_runV (As := [.int (nI j0)]) (rest := []) ⟨hx, hb, hml, hown, hts⟩ (c_X0_isThere l Γ H0 fa n0 th0 mv0 a e g j0 (hP.sub (ws' := [(fa, .inr (0, [.ref a, .int (nI n0), .int (nI th0), .int (nI mv0)])), (a, .inr (1, [.ref e])), (e, .inl (Γ.2 0, 14, .inl (aN g)))]) [0, 1, 2] rfl) (by first | omega | assumption) (by first | omega | assumption)) (kcwV 1 hts kv_X0_isThere mw_68 (rm_le hR (Nat.le_of_ble_eq_true rfl) (Nat.le_of_ble_eq_true rfl))) (kPc_V hK (va_recv hK.1 hP (ci := 0) (q0 := 0) rfl rfl)) rfl rfl hl.1 rfl (lv_room (Nat.le_of_ble_eq_true rfl)) dX0_canBeJoined_10 ⟨Nat.zero_le _, Nat.zero_le _⟩) hS (fun locs hS => ?_)
    refine nb_ifb_eq (tgt := 43) hx hb dX0_canBeJoined_13 (by decide) (fun c_13 => ?_) (fun c_13 => ?_)
    · skip
      refine lv_iconst (v := (nI 0)) hx hb dX0_canBeJoined_43 (by decide) ?_
      exact hret hS (by first | (rw [c_5, c_13, c_36]; rfl) | (rw [c_5, c_13]; rfl) | (rw [c_5]; rfl)) dX0_canBeJoined_44
    · skip
      refine lv_aload_n hx hb dX0_canBeJoined_16 rfl (lv_at hl 0 rfl) ?_
      refine va_get (D := Γ.1) (ci := 0) (v := .ref a) (C := RX0) (T := TX0) (N := 4) hx hb hts hinX0 hown hK.1 hP 0 rfl rfl 0 (by decide) (hts _ mw_11) (fun _ h9 => h9) rfl dX0_canBeJoined_17 ?_
      refine lv_iload_n hx hb dX0_canBeJoined_20 rfl (lv_at hl 1 rfl) ?_
      refine lv_iconst (v := (nI 1)) hx hb dX0_canBeJoined_21 (by decide) ?_
      refine lv_aload_n hx hb dX0_canBeJoined_22 rfl (lv_at hl 0 rfl) ?_
      refine va_get (D := Γ.1) (ci := 0) (v := .int (nI n0)) (C := RX0) (T := TX0) (N := 4) hx hb hts hinX0 hown hK.1 hP 0 rfl rfl 1 (by decide) (hts _ mw_12) (fun _ h9 => h9) rfl dX0_canBeJoined_23 ?_
      refine lv_ishl hx hb dX0_canBeJoined_26 ?_
      refine tp_i (y := (nI (2 ^ n0))) (ni_shl1 (by omega)) ?_
      refine lv_iconst (v := (nI 1)) hx hb dX0_canBeJoined_27 (by decide) ?_
      refine lv_isub hx hb dX0_canBeJoined_28 ?_
      refine tp_i (y := (nI ((2 ^ n0) - 1))) (ni_sub (Nat.one_le_two_pow)) ?_
      refine ro_fin (va_runVN (As := [.int (nI i0), .int (nI ((2 ^ n0) - 1))]) (rest := []) ⟨hx, hb, hml, hown, hts⟩ (c_X1_reach l Γ H0 a e g i0 ((2 ^ n0) - 1) (hP.sub (ws' := [(a, .inr (1, [.ref e])), (e, .inl (Γ.2 0, 14, .inl (aN g)))]) [1, 2] rfl) (by first | omega | assumption) (by omega) (full_lt hn0) (by rw [full_bit]; exact decide_eq_true hi0)) (kcwVN 2 hts kv_X1_reach (hK.nw _ (nwL_at 54 rfl)) (rm_le hR (Nat.le_of_ble_eq_true rfl) (Nat.le_of_ble_eq_true rfl))) (kPc_V hK (va_recv hK.1 hP (ci := 1) (q0 := 1) rfl rfl)) rfl rfl hl.1 rfl (lv_room (Nat.le_of_ble_eq_true rfl)) dX0_canBeJoined_29 ⟨Nat.zero_le _, Nat.zero_le _⟩) hS (fun locs hS => ?_)
      refine lv_iload_n hx hb dX0_canBeJoined_32 rfl (lv_at hl 2 rfl) ?_
      refine ro_fin (va_runSN (As := [.int (nI (comp g ((2 ^ n0) - 1) i0)), .int (nI j0)]) (rest := []) ⟨hx, hb, hml, hown, hts⟩ (c_X6_has l Γ H0 (comp g ((2 ^ n0) - 1) i0) j0 (comp_lt _ _ _) (by first | omega | assumption)) (kcwSN 2 hts kv_X6_has (hK.nw _ (nwL_at 51 rfl)) (rm_le hR (Nat.le_of_ble_eq_true rfl) (Nat.le_of_ble_eq_true rfl))) (kPc_S hK) rfl rfl hl.1 rfl (lv_room (Nat.le_of_ble_eq_true rfl)) dX0_canBeJoined_33 ⟨Nat.zero_le _, Nat.zero_le _⟩) hS (fun locs hS => ?_)
      refine nb_ifb_ne (tgt := 43) hx hb dX0_canBeJoined_36 (by decide) (fun c_36 => ?_) (fun c_36 => ?_)
      · skip
        refine lv_iconst (v := (nI 0)) hx hb dX0_canBeJoined_43 (by decide) ?_
        exact hret hS (by first | (rw [c_5, c_13, c_36]; rfl) | (rw [c_5, c_13]; rfl) | (rw [c_5]; rfl)) dX0_canBeJoined_44
      · skip
        refine lv_iconst (v := (nI 1)) hx hb dX0_canBeJoined_39 (by decide) ?_
        refine lv_goto (tgt := 44) hx hb dX0_canBeJoined_40 (by decide) ?_
        exact hret hS (by first | (rw [c_5, c_13, c_36]; rfl) | (rw [c_5, c_13]; rfl) | (rw [c_5]; rfl)) dX0_canBeJoined_44
set_option maxHeartbeats 8000000 in
set_option maxRecDepth 100000 in
theorem c_X0_treeAt (l : Launch) (Γ : kG) (H0 : Heap) (fa : Nat) (n0 : Nat) (th0 : Nat) (mv0 : Nat) (a : Nat) (e : Nat) (g : Nat → Nat) (k0 : Nat) (hP : va_P Γ.1 vwCl [(fa, .inr (0, [.ref a, .int (nI n0), .int (nI th0), .int (nI mv0)])), (a, .inr (1, [.ref e])), (e, .inl (Γ.2 0, 14, .inl (aN g)))] H0) (hg : ∀ i, i < 14 → g i < 16384) (hth : th0 < 16384) (hk0 : k0 < 2147483648) : RO l yX0_treeAt (wsq yX0_treeAt cX0_treeAt 5 (some .int)) (rmL 4) Γ H0 [.ref fa, .int (nI k0)] (nI (trA g th0 k0)) := by
  refine ro_ofi (cc := cX0_treeAt) (maxL := 5) (by decide +kernel) (Nat.le_of_ble_eq_true rfl) rfl ?_
  intro p ev R st mi args below meth cd Q ls C0 hR hret hh hS hl
  obtain ⟨hx, hb, hr, hml, hown, hts, hlk, hK, hnm⟩ := C0
  have hown : st.vm.findClass RX0 = some mi.cls := hown
  refine lv_aload_n hx hb dX0_treeAt_0 rfl (lv_at hl 0 rfl) ?_
  refine va_get (D := Γ.1) (ci := 0) (v := .int (nI th0)) (C := RX0) (T := TX0) (N := 4) hx hb hts hinX0 hown hK.1 hP 0 rfl rfl 2 (by decide) (hts _ mw_13) (fun _ h9 => h9) rfl dX0_treeAt_1 ?_
  refine lv_istore_n (lv' := [(2, .int (nI th0)), (0, .ref fa), (1, .int (nI k0))]) hx hb dX0_treeAt_4 rfl hl (by decide) rfl (fun ls hl => ?_)
  refine lv_iconst (v := (nI 0)) hx hb dX0_treeAt_5 (by decide) ?_
  refine lv_istore_n (lv' := [(3, .int (nI 0)), (2, .int (nI th0)), (0, .ref fa), (1, .int (nI k0))]) hx hb dX0_treeAt_6 rfl hl (by decide) rfl (fun ls hl => ?_)
  have LP7 : ∀ (fu : Nat) (t0 : Nat) (ht0 : t0 ≤ 14) (hk1 : t0 ≤ k0), (14 - t0) < fu → ∀ (locs : List Loc), va_S (fun _ => False) H0 H0 locs → ∀ (ls : Array Slot), lv_has ls 5 [(3, .int (nI t0)), (2, .int (nI (trL g th0 t0))), (0, .ref fa), (1, .int (nI k0))] → W p l ev R st mi args below meth cd H0 locs 0 0 Q (F0 mi 7 ls []) := by
    intro fu
    induction fu with
    | zero => intro t0 ht0 hk1 hfu; exact absurd hfu (Nat.not_lt_zero _)
    | succ fu ih7 =>
      intro t0 ht0 hk1 hfu locs hS ls hl
      refine lv_iload_n hx hb dX0_treeAt_7 rfl (lv_at hl 0 rfl) ?_
      refine lv_bipush (v := (nI 14)) hx hb dX0_treeAt_8 (by decide) ?_
      refine nb_icmp_ge (tgt := 55) hx hb (by first | omega | assumption) (by first | omega | assumption) dX0_treeAt_10 (by decide) (fun c_10 => ?_) (fun c_10 => ?_)
      · skip
        obtain rfl : t0 = 14 := by omega
        have hz0 : trL g th0 14 = 0 := trL_14 g hth
        refine lv_iconst (v := (nI 0)) hx hb dX0_treeAt_55 (by decide) ?_
        exact hret hS (by rw [trA_up hz0 (by omega)]) dX0_treeAt_56
      · skip
        refine lv_iload_n hx hb dX0_treeAt_13 rfl (lv_at hl 1 rfl) ?_
        refine nb_if_eq (tgt := 55) hx hb (Nat.lt_trans (trL_lt g hth _) (by decide)) dX0_treeAt_14 (by decide) (fun c_14 => ?_) (fun c_14 => ?_)
        · skip
          have hz0 := c_14
          refine lv_iconst (v := (nI 0)) hx hb dX0_treeAt_55 (by decide) ?_
          exact hret hS (by rw [trA_up hz0 (by omega)]) dX0_treeAt_56
        · skip
          obtain ⟨hl0, hl1, hl2⟩ := low_spec (trL_lt g hth t0) c_14
          refine lv_aload_n hx hb dX0_treeAt_17 rfl (lv_at hl 2 rfl) ?_
          refine va_get (D := Γ.1) (ci := 0) (v := .ref a) (C := RX0) (T := TX0) (N := 4) hx hb hts hinX0 hown hK.1 hP 0 rfl rfl 0 (by decide) (hts _ mw_11) (fun _ h9 => h9) rfl dX0_treeAt_18 ?_
          refine lv_iload_n hx hb dX0_treeAt_21 rfl (lv_at hl 1 rfl) ?_
          refine ro_fin (va_runS (As := [.int (nI (trL g th0 t0))]) (rest := [.ref a]) ⟨hx, hb, hml, hown, hts⟩ (c_J6_numberOfTrailingZeros_0f7a4 l Γ H0 (nI (trL g th0 t0)) (low (trL g th0 t0)) (by omega) (ntz_low (trL_lt g hth t0) c_14)) (kcwS 1 hts kv_J6_numberOfTrailingZeros_0f7a4 mw_80 (rm_le hR (Nat.le_of_ble_eq_true rfl) (Nat.le_of_ble_eq_true rfl))) (kPc_S hK) rfl rfl hl.1 rfl (lv_room (Nat.le_of_ble_eq_true rfl)) dX0_treeAt_22 ⟨Nat.zero_le _, Nat.zero_le _⟩) hS (fun locs hS => ?_)
          refine lv_aload_n hx hb dX0_treeAt_25 rfl (lv_at hl 2 rfl) ?_
          refine va_get (D := Γ.1) (ci := 0) (v := .int (nI th0)) (C := RX0) (T := TX0) (N := 4) hx hb hts hinX0 hown hK.1 hP 0 rfl rfl 2 (by decide) (hts _ mw_13) (fun _ h9 => h9) rfl dX0_treeAt_26 ?_
          refine ro_fin (va_runVN (As := [.int (nI (low (trL g th0 t0))), .int (nI th0)]) (rest := []) ⟨hx, hb, hml, hown, hts⟩ (c_X1_reach l Γ H0 a e g (low (trL g th0 t0)) th0 (hP.sub (ws' := [(a, .inr (1, [.ref e])), (e, .inl (Γ.2 0, 14, .inl (aN g)))]) [1, 2] rfl) (by first | omega | assumption) (hl0) (by first | omega | assumption) (trL_in hl1)) (kcwVN 2 hts kv_X1_reach (hK.nw _ (nwL_at 54 rfl)) (rm_le hR (Nat.le_of_ble_eq_true rfl) (Nat.le_of_ble_eq_true rfl))) (kPc_V hK (va_recv hK.1 hP (ci := 1) (q0 := 1) rfl rfl)) rfl rfl hl.1 rfl (lv_room (Nat.le_of_ble_eq_true rfl)) dX0_treeAt_29 ⟨Nat.zero_le _, Nat.zero_le _⟩) hS (fun locs hS => ?_)
          refine lv_istore (lv' := [(4, .int (nI (comp g th0 (low (trL g th0 t0))))), (3, .int (nI t0)), (2, .int (nI (trL g th0 t0))), (0, .ref fa), (1, .int (nI k0))]) hx hb dX0_treeAt_32 hl (by decide) rfl (fun ls hl => ?_)
          refine lv_iload_n hx hb dX0_treeAt_34 rfl (lv_at hl 1 rfl) ?_
          refine lv_iload_n hx hb dX0_treeAt_35 rfl (lv_at hl 4 rfl) ?_
          refine nb_icmp_ne (tgt := 42) hx hb (by first | omega | assumption) (by first | omega | assumption) dX0_treeAt_36 (by decide) (fun c_36 => ?_) (fun c_36 => ?_)
          · skip
            refine lv_iload_n hx hb dX0_treeAt_42 rfl (lv_at hl 2 rfl) ?_
            refine lv_iload hx hb dX0_treeAt_43 (lv_at hl 0 rfl) ?_
            refine lv_iconst (v := (-1)) hx hb dX0_treeAt_45 (by decide) ?_
            refine lv_ixor hx hb dX0_treeAt_46 ?_
            refine lv_iand hx hb dX0_treeAt_47 ?_
            refine tp_i (y := (nI (sd (trL g th0 t0) (comp g th0 (low (trL g th0 t0)))))) (ni_sd _ _) ?_
            refine tp_i (y := (nI (trL g th0 (t0 + 1)))) (by rw [trL]) ?_
            refine lv_istore_n (lv' := [(2, .int (nI (trL g th0 (t0 + 1)))), (4, .int (nI (comp g th0 (low (trL g th0 t0))))), (3, .int (nI t0)), (0, .ref fa), (1, .int (nI k0))]) hx hb dX0_treeAt_48 rfl hl (by decide) rfl (fun ls hl => ?_)
            refine lv_iinc (v := (nI (t0 + 1))) (lv' := [(3, .int (nI (t0 + 1))), (2, .int (nI (trL g th0 (t0 + 1)))), (4, .int (nI (comp g th0 (low (trL g th0 t0))))), (0, .ref fa), (1, .int (nI k0))]) hx hb dX0_treeAt_49 hl (k := 2) rfl (nI_1 _) (by decide) rfl (fun ls hl => ?_)
            refine lv_goto (tgt := 7) hx hb dX0_treeAt_52 (by decide) ?_
            exact ih7 (t0 + 1) (by first | omega | assumption) (by first | omega | assumption) (by omega) _ hS ls (lv_sub hl [0, 1, 3, 4] rfl)
          · skip
            refine lv_iload hx hb dX0_treeAt_39 (lv_at hl 0 rfl) ?_
            exact hret hS (by rw [trA_is (by rw [← c_36]; exact c_14), ← c_36]) dX0_treeAt_41
  exact LP7 ((14 - 0) + 1) 0 (by first | omega | assumption) (by first | omega | assumption) (Nat.lt_succ_self _) _ hS ls (lv_sub hl [0, 1, 2, 3] rfl)
set_option maxHeartbeats 8000000 in
set_option maxRecDepth 100000 in
theorem c_X0_treeAt_neg (l : Launch) (Γ : kG) (H0 : Heap) (fa : Nat) (n0 : Nat) (th0 : Nat) (mv0 : Nat) (a : Nat) (e : Nat) (g : Nat → Nat) (x0 : Int32) (hP : va_P Γ.1 vwCl [(fa, .inr (0, [.ref a, .int (nI n0), .int (nI th0), .int (nI mv0)])), (a, .inr (1, [.ref e])), (e, .inl (Γ.2 0, 14, .inl (aN g)))] H0) (hg : ∀ i, i < 14 → g i < 16384) (hth : th0 < 16384) (hx0 : x0 < 0) : RO l yX0_treeAt (wsq yX0_treeAt cX0_treeAt 5 (some .int)) (rmL 4) Γ H0 [.ref fa, .int x0] (nI 0) := by
  refine ro_ofi (cc := cX0_treeAt) (maxL := 5) (by decide +kernel) (Nat.le_of_ble_eq_true rfl) rfl ?_
  intro p ev R st mi args below meth cd Q ls C0 hR hret hh hS hl
  obtain ⟨hx, hb, hr, hml, hown, hts, hlk, hK, hnm⟩ := C0
  have hown : st.vm.findClass RX0 = some mi.cls := hown
  refine lv_aload_n hx hb dX0_treeAt_0 rfl (lv_at hl 0 rfl) ?_
  refine va_get (D := Γ.1) (ci := 0) (v := .int (nI th0)) (C := RX0) (T := TX0) (N := 4) hx hb hts hinX0 hown hK.1 hP 0 rfl rfl 2 (by decide) (hts _ mw_13) (fun _ h9 => h9) rfl dX0_treeAt_1 ?_
  refine lv_istore_n (lv' := [(2, .int (nI th0)), (0, .ref fa), (1, .int x0)]) hx hb dX0_treeAt_4 rfl hl (by decide) rfl (fun ls hl => ?_)
  refine lv_iconst (v := (nI 0)) hx hb dX0_treeAt_5 (by decide) ?_
  refine lv_istore_n (lv' := [(3, .int (nI 0)), (2, .int (nI th0)), (0, .ref fa), (1, .int x0)]) hx hb dX0_treeAt_6 rfl hl (by decide) rfl (fun ls hl => ?_)
  have LP7 : ∀ (fu : Nat) (t0 : Nat) (ht0 : t0 ≤ 14), (14 - t0) < fu → ∀ (locs : List Loc), va_S (fun _ => False) H0 H0 locs → ∀ (ls : Array Slot), lv_has ls 5 [(3, .int (nI t0)), (2, .int (nI (trL g th0 t0))), (0, .ref fa), (1, .int x0)] → W p l ev R st mi args below meth cd H0 locs 0 0 Q (F0 mi 7 ls []) := by
    intro fu
    induction fu with
    | zero => intro t0 ht0 hfu; exact absurd hfu (Nat.not_lt_zero _)
    | succ fu ih7 =>
      intro t0 ht0 hfu locs hS ls hl
      refine lv_iload_n hx hb dX0_treeAt_7 rfl (lv_at hl 0 rfl) ?_
      refine lv_bipush (v := (nI 14)) hx hb dX0_treeAt_8 (by decide) ?_
      refine nb_icmp_ge (tgt := 55) hx hb (by first | omega | assumption) (by first | omega | assumption) dX0_treeAt_10 (by decide) (fun c_10 => ?_) (fun c_10 => ?_)
      · skip
        obtain rfl : t0 = 14 := by omega
        have hz0 : trL g th0 14 = 0 := trL_14 g hth
        refine lv_iconst (v := (nI 0)) hx hb dX0_treeAt_55 (by decide) ?_
        exact hret hS (rfl) dX0_treeAt_56
      · skip
        refine lv_iload_n hx hb dX0_treeAt_13 rfl (lv_at hl 1 rfl) ?_
        refine nb_if_eq (tgt := 55) hx hb (Nat.lt_trans (trL_lt g hth _) (by decide)) dX0_treeAt_14 (by decide) (fun c_14 => ?_) (fun c_14 => ?_)
        · skip
          have hz0 := c_14
          refine lv_iconst (v := (nI 0)) hx hb dX0_treeAt_55 (by decide) ?_
          exact hret hS (rfl) dX0_treeAt_56
        · skip
          obtain ⟨hl0, hl1, hl2⟩ := low_spec (trL_lt g hth t0) c_14
          refine lv_aload_n hx hb dX0_treeAt_17 rfl (lv_at hl 2 rfl) ?_
          refine va_get (D := Γ.1) (ci := 0) (v := .ref a) (C := RX0) (T := TX0) (N := 4) hx hb hts hinX0 hown hK.1 hP 0 rfl rfl 0 (by decide) (hts _ mw_11) (fun _ h9 => h9) rfl dX0_treeAt_18 ?_
          refine lv_iload_n hx hb dX0_treeAt_21 rfl (lv_at hl 1 rfl) ?_
          refine ro_fin (va_runS (As := [.int (nI (trL g th0 t0))]) (rest := [.ref a]) ⟨hx, hb, hml, hown, hts⟩ (c_J6_numberOfTrailingZeros_0f7a4 l Γ H0 (nI (trL g th0 t0)) (low (trL g th0 t0)) (by omega) (ntz_low (trL_lt g hth t0) c_14)) (kcwS 1 hts kv_J6_numberOfTrailingZeros_0f7a4 mw_80 (rm_le hR (Nat.le_of_ble_eq_true rfl) (Nat.le_of_ble_eq_true rfl))) (kPc_S hK) rfl rfl hl.1 rfl (lv_room (Nat.le_of_ble_eq_true rfl)) dX0_treeAt_22 ⟨Nat.zero_le _, Nat.zero_le _⟩) hS (fun locs hS => ?_)
          refine lv_aload_n hx hb dX0_treeAt_25 rfl (lv_at hl 2 rfl) ?_
          refine va_get (D := Γ.1) (ci := 0) (v := .int (nI th0)) (C := RX0) (T := TX0) (N := 4) hx hb hts hinX0 hown hK.1 hP 0 rfl rfl 2 (by decide) (hts _ mw_13) (fun _ h9 => h9) rfl dX0_treeAt_26 ?_
          refine ro_fin (va_runVN (As := [.int (nI (low (trL g th0 t0))), .int (nI th0)]) (rest := []) ⟨hx, hb, hml, hown, hts⟩ (c_X1_reach l Γ H0 a e g (low (trL g th0 t0)) th0 (hP.sub (ws' := [(a, .inr (1, [.ref e])), (e, .inl (Γ.2 0, 14, .inl (aN g)))]) [1, 2] rfl) (by first | omega | assumption) (hl0) (by first | omega | assumption) (trL_in hl1)) (kcwVN 2 hts kv_X1_reach (hK.nw _ (nwL_at 54 rfl)) (rm_le hR (Nat.le_of_ble_eq_true rfl) (Nat.le_of_ble_eq_true rfl))) (kPc_V hK (va_recv hK.1 hP (ci := 1) (q0 := 1) rfl rfl)) rfl rfl hl.1 rfl (lv_room (Nat.le_of_ble_eq_true rfl)) dX0_treeAt_29 ⟨Nat.zero_le _, Nat.zero_le _⟩) hS (fun locs hS => ?_)
          refine lv_istore (lv' := [(4, .int (nI (comp g th0 (low (trL g th0 t0))))), (3, .int (nI t0)), (2, .int (nI (trL g th0 t0))), (0, .ref fa), (1, .int x0)]) hx hb dX0_treeAt_32 hl (by decide) rfl (fun ls hl => ?_)
          refine lv_iload_n hx hb dX0_treeAt_34 rfl (lv_at hl 1 rfl) ?_
          refine lv_iload_n hx hb dX0_treeAt_35 rfl (lv_at hl 4 rfl) ?_
          refine lv_icmp_ne (tgt := 42) hx hb dX0_treeAt_36 (by decide) (fun c_36 => ?_) (fun c_36 => by exfalso; exact nI_pos (show t0 < 2147483648 by omega) (by rw [c_36]; exact hx0))
          refine lv_iload_n hx hb dX0_treeAt_42 rfl (lv_at hl 2 rfl) ?_
          refine lv_iload hx hb dX0_treeAt_43 (lv_at hl 0 rfl) ?_
          refine lv_iconst (v := (-1)) hx hb dX0_treeAt_45 (by decide) ?_
          refine lv_ixor hx hb dX0_treeAt_46 ?_
          refine lv_iand hx hb dX0_treeAt_47 ?_
          refine tp_i (y := (nI (sd (trL g th0 t0) (comp g th0 (low (trL g th0 t0)))))) (ni_sd _ _) ?_
          refine tp_i (y := (nI (trL g th0 (t0 + 1)))) (by rw [trL]) ?_
          refine lv_istore_n (lv' := [(2, .int (nI (trL g th0 (t0 + 1)))), (4, .int (nI (comp g th0 (low (trL g th0 t0))))), (3, .int (nI t0)), (0, .ref fa), (1, .int x0)]) hx hb dX0_treeAt_48 rfl hl (by decide) rfl (fun ls hl => ?_)
          refine lv_iinc (v := (nI (t0 + 1))) (lv' := [(3, .int (nI (t0 + 1))), (2, .int (nI (trL g th0 (t0 + 1)))), (4, .int (nI (comp g th0 (low (trL g th0 t0))))), (0, .ref fa), (1, .int x0)]) hx hb dX0_treeAt_49 hl (k := 2) rfl (nI_1 _) (by decide) rfl (fun ls hl => ?_)
          refine lv_goto (tgt := 7) hx hb dX0_treeAt_52 (by decide) ?_
          exact ih7 (t0 + 1) (by first | omega | assumption) (by omega) _ hS ls (lv_sub hl [0, 1, 3, 4] rfl)
  exact LP7 ((14 - 0) + 1) 0 (by first | omega | assumption) (Nat.lt_succ_self _) _ hS ls (lv_sub hl [0, 1, 2, 3] rfl)
set_option maxHeartbeats 8000000 in
set_option maxRecDepth 100000 in
theorem c_X0_treeCount (l : Launch) (Γ : kG) (H0 : Heap) (fa : Nat) (n0 : Nat) (th0 : Nat) (mv0 : Nat) (a : Nat) (e : Nat) (g : Nat → Nat) (hP : va_P Γ.1 vwCl [(fa, .inr (0, [.ref a, .int (nI n0), .int (nI th0), .int (nI mv0)])), (a, .inr (1, [.ref e])), (e, .inl (Γ.2 0, 14, .inl (aN g)))] H0) (hg : ∀ i, i < 14 → g i < 16384) (hth : th0 < 16384) : RO l yX0_treeCount (wsq yX0_treeCount cX0_treeCount 2 (some .int)) (rmL 5) Γ H0 [.ref fa] (nI (trC g th0)) := by
  refine ro_ofi (cc := cX0_treeCount) (maxL := 2) (by decide +kernel) (Nat.le_of_ble_eq_true rfl) rfl ?_
  intro p ev R st mi args below meth cd Q ls C0 hR hret hh hS hl
  obtain ⟨hx, hb, hr, hml, hown, hts, hlk, hK, hnm⟩ := C0
  have hown : st.vm.findClass RX0 = some mi.cls := hown
  refine lv_iconst (v := (nI 0)) hx hb dX0_treeCount_0 (by decide) ?_
  refine lv_istore_n (lv' := [(1, .int (nI 0)), (0, .ref fa)]) hx hb dX0_treeCount_1 rfl hl (by decide) rfl (fun ls hl => ?_)
  have LP2 : ∀ (fu : Nat) (k0 : Nat) (hk0 : k0 ≤ 14) (hs0 : ∀ i, i < k0 → trL g th0 i ≠ 0), (14 - k0) < fu → ∀ (locs : List Loc), va_S (fun _ => False) H0 H0 locs → ∀ (ls : Array Slot), lv_has ls 2 [(1, .int (nI k0)), (0, .ref fa)] → W p l ev R st mi args below meth cd H0 locs 0 0 Q (F0 mi 2 ls []) := by
    intro fu
    induction fu with
    | zero => intro k0 hk0 hs0 hfu; exact absurd hfu (Nat.not_lt_zero _)
    | succ fu ih2 =>
      intro k0 hk0 hs0 hfu locs hS ls hl
      refine lv_iload_n hx hb dX0_treeCount_2 rfl (lv_at hl 0 rfl) ?_
      refine lv_bipush (v := (nI 14)) hx hb dX0_treeCount_3 (by decide) ?_
      refine nb_icmp_ge (tgt := 24) hx hb (by first | omega | assumption) (by first | omega | assumption) dX0_treeCount_5 (by decide) (fun c_5 => ?_) (fun c_5 => ?_)
      · skip
        obtain rfl : k0 = 14 := by omega
        refine lv_bipush (v := (nI 14)) hx hb dX0_treeCount_24 (by decide) ?_
        exact hret hS (by rw [trC_eq hth (trL_14 g hth) hs0]) dX0_treeCount_26
      · skip
        refine lv_aload_n hx hb dX0_treeCount_8 rfl (lv_at hl 1 rfl) ?_
        refine lv_iload_n hx hb dX0_treeCount_9 rfl (lv_at hl 0 rfl) ?_
        refine ro_fin (va_runV (As := [.int (nI k0)]) (rest := []) ⟨hx, hb, hml, hown, hts⟩ (c_X0_treeAt l Γ H0 fa n0 th0 mv0 a e g k0 (hP.sub (ws' := [(fa, .inr (0, [.ref a, .int (nI n0), .int (nI th0), .int (nI mv0)])), (a, .inr (1, [.ref e])), (e, .inl (Γ.2 0, 14, .inl (aN g)))]) [0, 1, 2] rfl) (by first | omega | assumption) (by first | omega | assumption) (by first | omega | assumption)) (kcwV 1 hts kv_X0_treeAt mw_81 (rm_le hR (Nat.le_of_ble_eq_true rfl) (Nat.le_of_ble_eq_true rfl))) (kPc_V hK (va_recv hK.1 hP (ci := 0) (q0 := 0) rfl rfl)) rfl rfl hl.1 rfl (lv_room (Nat.le_of_ble_eq_true rfl)) dX0_treeCount_10 ⟨Nat.zero_le _, Nat.zero_le _⟩) hS (fun locs hS => ?_)
        refine nb_if_ne (tgt := 18) hx hb (Nat.lt_trans (trA_lt _ _ _) (by decide)) dX0_treeCount_13 (by decide) (fun c_13 => ?_) (fun c_13 => ?_)
        · skip
          refine lv_iinc (v := (nI (k0 + 1))) (lv' := [(1, .int (nI (k0 + 1))), (0, .ref fa)]) hx hb dX0_treeCount_18 hl (k := 0) rfl (nI_1 _) (by decide) rfl (fun ls hl => ?_)
          refine lv_goto (tgt := 2) hx hb dX0_treeCount_21 (by decide) ?_
          exact ih2 (k0 + 1) (by first | omega | assumption) (lt_s hs0 (fun q9 => c_13 ((trA_0 hth).mpr q9))) (by omega) _ hS ls (lv_sub hl [0, 1] rfl)
        · skip
          refine lv_iload_n hx hb dX0_treeCount_16 rfl (lv_at hl 0 rfl) ?_
          exact hret hS (by rw [trC_eq hth ((trA_0 hth).mp c_13) hs0]) dX0_treeCount_17
  exact LP2 ((14 - 0) + 1) 0 (by first | omega | assumption) (fun i9 h9 => absurd h9 (Nat.not_lt_zero _)) (Nat.lt_succ_self _) _ hS ls (lv_sub hl [0, 1] rfl)
set_option maxHeartbeats 8000000 in
set_option maxRecDepth 100000 in
theorem c_X0_treeNumber (l : Launch) (Γ : kG) (H0 : Heap) (fa : Nat) (n0 : Nat) (th0 : Nat) (mv0 : Nat) (a : Nat) (e : Nat) (g : Nat → Nat) (v0 : Nat) (hP : va_P Γ.1 vwCl [(fa, .inr (0, [.ref a, .int (nI n0), .int (nI th0), .int (nI mv0)])), (a, .inr (1, [.ref e])), (e, .inl (Γ.2 0, 14, .inl (aN g)))] H0) (hg : ∀ i, i < 14 → g i < 16384) (hth : th0 < 16384) (hv0 : v0 < 14) (hv1 : th0.testBit v0 = true) : RO l yX0_treeNumber (wsq yX0_treeNumber cX0_treeNumber 3 (some .int)) (rmL 5) Γ H0 [.ref fa, .int (nI v0)] (nI (trN g th0 v0)) := by
  refine ro_ofi (cc := cX0_treeNumber) (maxL := 3) (by decide +kernel) (Nat.le_of_ble_eq_true rfl) rfl ?_
  intro p ev R st mi args below meth cd Q ls C0 hR hret hh hS hl
  obtain ⟨hx, hb, hr, hml, hown, hts, hlk, hK, hnm⟩ := C0
  have hown : st.vm.findClass RX0 = some mi.cls := hown
  refine lv_iconst (v := (nI 0)) hx hb dX0_treeNumber_0 (by decide) ?_
  refine lv_istore_n (lv' := [(2, .int (nI 0)), (0, .ref fa), (1, .int (nI v0))]) hx hb dX0_treeNumber_1 rfl hl (by decide) rfl (fun ls hl => ?_)
  have LP2 : ∀ (fu : Nat) (k0 : Nat) (hk0 : k0 ≤ 14) (hs0 : ∀ i, i < k0 → (trA g th0 i).testBit v0 = false), (14 - k0) < fu → ∀ (locs : List Loc), va_S (fun _ => False) H0 H0 locs → ∀ (ls : Array Slot), lv_has ls 3 [(2, .int (nI k0)), (0, .ref fa), (1, .int (nI v0))] → W p l ev R st mi args below meth cd H0 locs 0 0 Q (F0 mi 2 ls []) := by
    intro fu
    induction fu with
    | zero => intro k0 hk0 hs0 hfu; exact absurd hfu (Nat.not_lt_zero _)
    | succ fu ih2 =>
      intro k0 hk0 hs0 hfu locs hS ls hl
      refine lv_iload_n hx hb dX0_treeNumber_2 rfl (lv_at hl 0 rfl) ?_
      refine lv_bipush (v := (nI 14)) hx hb dX0_treeNumber_3 (by decide) ?_
      refine nb_icmp_ge (tgt := 28) hx hb (by first | omega | assumption) (by first | omega | assumption) dX0_treeNumber_5 (by decide) (fun c_5 => ?_) (fun c_5 => ?_)
      · skip
        exfalso
        obtain ⟨j9, h9, h8⟩ := tr_cover (g := g) hth hv1
        rw [hs0 j9 (by omega)] at h8
        cases h8
      · skip
        refine lv_aload_n hx hb dX0_treeNumber_8 rfl (lv_at hl 1 rfl) ?_
        refine lv_iload_n hx hb dX0_treeNumber_9 rfl (lv_at hl 0 rfl) ?_
        refine ro_fin (va_runV (As := [.int (nI k0)]) (rest := []) ⟨hx, hb, hml, hown, hts⟩ (c_X0_treeAt l Γ H0 fa n0 th0 mv0 a e g k0 (hP.sub (ws' := [(fa, .inr (0, [.ref a, .int (nI n0), .int (nI th0), .int (nI mv0)])), (a, .inr (1, [.ref e])), (e, .inl (Γ.2 0, 14, .inl (aN g)))]) [0, 1, 2] rfl) (by first | omega | assumption) (by first | omega | assumption) (by first | omega | assumption)) (kcwV 1 hts kv_X0_treeAt mw_81 (rm_le hR (Nat.le_of_ble_eq_true rfl) (Nat.le_of_ble_eq_true rfl))) (kPc_V hK (va_recv hK.1 hP (ci := 0) (q0 := 0) rfl rfl)) rfl rfl hl.1 rfl (lv_room (Nat.le_of_ble_eq_true rfl)) dX0_treeNumber_10 ⟨Nat.zero_le _, Nat.zero_le _⟩) hS (fun locs hS => ?_)
        refine lv_iload_n hx hb dX0_treeNumber_13 rfl (lv_at hl 2 rfl) ?_
        refine ro_fin (va_runSN (As := [.int (nI (trA g th0 k0)), .int (nI v0)]) (rest := []) ⟨hx, hb, hml, hown, hts⟩ (c_X6_has l Γ H0 (trA g th0 k0) v0 (trA_lt _ _ _) (by first | omega | assumption)) (kcwSN 2 hts kv_X6_has (hK.nw _ (nwL_at 51 rfl)) (rm_le hR (Nat.le_of_ble_eq_true rfl) (Nat.le_of_ble_eq_true rfl))) (kPc_S hK) rfl rfl hl.1 rfl (lv_room (Nat.le_of_ble_eq_true rfl)) dX0_treeNumber_14 ⟨Nat.zero_le _, Nat.zero_le _⟩) hS (fun locs hS => ?_)
        refine nb_ifb_eq (tgt := 22) hx hb dX0_treeNumber_17 (by decide) (fun c_17 => ?_) (fun c_17 => ?_)
        · skip
          refine lv_iinc (v := (nI (k0 + 1))) (lv' := [(2, .int (nI (k0 + 1))), (0, .ref fa), (1, .int (nI v0))]) hx hb dX0_treeNumber_22 hl (k := 0) rfl (nI_1 _) (by decide) rfl (fun ls hl => ?_)
          refine lv_goto (tgt := 2) hx hb dX0_treeNumber_25 (by decide) ?_
          exact ih2 (k0 + 1) (by first | omega | assumption) (lt_s hs0 c_17) (by omega) _ hS ls (lv_sub hl [0, 1, 2] rfl)
        · skip
          refine lv_iload_n hx hb dX0_treeNumber_20 rfl (lv_at hl 0 rfl) ?_
          exact hret hS (by rw [trN_eq (by omega) c_17 hs0]) dX0_treeNumber_21
  exact LP2 ((14 - 0) + 1) 0 (by first | omega | assumption) (fun i9 h9 => absurd h9 (Nat.not_lt_zero _)) (Nat.lt_succ_self _) _ hS ls (lv_sub hl [0, 1, 2] rfl)
set_option maxHeartbeats 8000000 in
set_option maxRecDepth 100000 in
theorem c_X0_lesserNeighbours (l : Launch) (Γ : kG) (H0 : Heap) (fa : Nat) (n0 : Nat) (th0 : Nat) (mv0 : Nat) (a : Nat) (e : Nat) (g : Nat → Nat) (v0 : Nat) (hP : va_P Γ.1 vwCl [(fa, .inr (0, [.ref a, .int (nI n0), .int (nI th0), .int (nI mv0)])), (a, .inr (1, [.ref e])), (e, .inl (Γ.2 0, 14, .inl (aN g)))] H0) (hv0 : v0 < 14) : RO l yX0_lesserNeighbours (wsq yX0_lesserNeighbours cX0_lesserNeighbours 2 (some .int)) (rmL 2) Γ H0 [.ref fa, .int (nI v0)] (nI (g v0 &&& (2 ^ v0 - 1))) := by
  refine ro_ofi (cc := cX0_lesserNeighbours) (maxL := 2) (by decide +kernel) (Nat.le_of_ble_eq_true rfl) rfl ?_
  intro p ev R st mi args below meth cd Q ls C0 hR hret hh hS hl
  obtain ⟨hx, hb, hr, hml, hown, hts, hlk, hK, hnm⟩ := C0
  have hown : st.vm.findClass RX0 = some mi.cls := hown
  refine lv_aload_n hx hb dX0_lesserNeighbours_0 rfl (lv_at hl 0 rfl) ?_
  refine va_get (D := Γ.1) (ci := 0) (v := .ref a) (C := RX0) (T := TX0) (N := 4) hx hb hts hinX0 hown hK.1 hP 0 rfl rfl 0 (by decide) (hts _ mw_11) (fun _ h9 => h9) rfl dX0_lesserNeighbours_1 ?_
  refine lv_iload_n hx hb dX0_lesserNeighbours_4 rfl (lv_at hl 1 rfl) ?_
  refine ro_fin (va_runVN (As := [.int (nI v0)]) (rest := []) ⟨hx, hb, hml, hown, hts⟩ (c_X1_around l Γ H0 a e g v0 (hP.sub (ws' := [(a, .inr (1, [.ref e])), (e, .inl (Γ.2 0, 14, .inl (aN g)))]) [1, 2] rfl) (by first | omega | assumption)) (kcwVN 1 hts kv_X1_around (hK.nw _ (nwL_at 53 rfl)) (rm_le hR (Nat.le_of_ble_eq_true rfl) (Nat.le_of_ble_eq_true rfl))) (kPc_V hK (va_recv hK.1 hP (ci := 1) (q0 := 1) rfl rfl)) rfl rfl hl.1 rfl (lv_room (Nat.le_of_ble_eq_true rfl)) dX0_lesserNeighbours_5 ⟨Nat.zero_le _, Nat.zero_le _⟩) hS (fun locs hS => ?_)
  refine lv_iload_n hx hb dX0_lesserNeighbours_8 rfl (lv_at hl 1 rfl) ?_
  refine ro_fin (va_runSN (As := [.int (nI v0)]) (rest := [.int (nI (g v0))]) ⟨hx, hb, hml, hown, hts⟩ (c_X6_bit l Γ H0 v0 (by first | omega | assumption)) (kcwSN 1 hts kv_X6_bit (hK.nw _ (nwL_at 50 rfl)) (rm_le hR (Nat.le_of_ble_eq_true rfl) (Nat.le_of_ble_eq_true rfl))) (kPc_S hK) rfl rfl hl.1 rfl (lv_room (Nat.le_of_ble_eq_true rfl)) dX0_lesserNeighbours_9 ⟨Nat.zero_le _, Nat.zero_le _⟩) hS (fun locs hS => ?_)
  refine lv_iconst (v := (nI 1)) hx hb dX0_lesserNeighbours_12 (by decide) ?_
  refine lv_isub hx hb dX0_lesserNeighbours_13 ?_
  refine tp_i (y := (nI ((2 ^ v0) - 1))) (ni_sub (Nat.one_le_two_pow)) ?_
  refine lv_iand hx hb dX0_lesserNeighbours_14 ?_
  refine tp_i (y := (nI ((g v0) &&& ((2 ^ v0) - 1)))) (ni_and _ _) ?_
  exact hret hS (rfl) dX0_lesserNeighbours_15
set_option maxHeartbeats 8000000 in
set_option maxRecDepth 100000 in
theorem c_X0_lesserNeighbour (l : Launch) (Γ : kG) (H0 : Heap) (fa : Nat) (n0 : Nat) (th0 : Nat) (mv0 : Nat) (a : Nat) (e : Nat) (g : Nat → Nat) (v0 : Nat) (hP : va_P Γ.1 vwCl [(fa, .inr (0, [.ref a, .int (nI n0), .int (nI th0), .int (nI mv0)])), (a, .inr (1, [.ref e])), (e, .inl (Γ.2 0, 14, .inl (aN g)))] H0) (hg : ∀ i, i < 14 → g i < 16384) (hv0 : v0 < 14) : RO l yX0_lesserNeighbour (wsq yX0_lesserNeighbour cX0_lesserNeighbour 3 (some .int)) (rmL 3) Γ H0 [.ref fa, .int (nI v0)] (oI (lsr g v0)) := by
  refine ro_ofi (cc := cX0_lesserNeighbour) (maxL := 3) (by decide +kernel) (Nat.le_of_ble_eq_true rfl) rfl ?_
  intro p ev R st mi args below meth cd Q ls C0 hR hret hh hS hl
  obtain ⟨hx, hb, hr, hml, hown, hts, hlk, hK, hnm⟩ := C0
  have hown : st.vm.findClass RX0 = some mi.cls := hown
  refine lv_aload_n hx hb dX0_lesserNeighbour_0 rfl (lv_at hl 0 rfl) ?_
  refine lv_iload_n hx hb dX0_lesserNeighbour_1 rfl (lv_at hl 1 rfl) ?_
  refine ro_fin (va_runV (As := [.int (nI v0)]) (rest := []) ⟨hx, hb, hml, hown, hts⟩ (c_X0_lesserNeighbours l Γ H0 fa n0 th0 mv0 a e g v0 (hP.sub (ws' := [(fa, .inr (0, [.ref a, .int (nI n0), .int (nI th0), .int (nI mv0)])), (a, .inr (1, [.ref e])), (e, .inl (Γ.2 0, 14, .inl (aN g)))]) [0, 1, 2] rfl) (by first | omega | assumption)) (kcwV 1 hts kv_X0_lesserNeighbours mw_88 (rm_le hR (Nat.le_of_ble_eq_true rfl) (Nat.le_of_ble_eq_true rfl))) (kPc_V hK (va_recv hK.1 hP (ci := 0) (q0 := 0) rfl rfl)) rfl rfl hl.1 rfl (lv_room (Nat.le_of_ble_eq_true rfl)) dX0_lesserNeighbour_2 ⟨Nat.zero_le _, Nat.zero_le _⟩) hS (fun locs hS => ?_)
  refine lv_istore_n (lv' := [(2, .int (nI (g v0 &&& (2 ^ v0 - 1)))), (0, .ref fa), (1, .int (nI v0))]) hx hb dX0_lesserNeighbour_5 rfl hl (by decide) rfl (fun ls hl => ?_)
  refine lv_iload_n hx hb dX0_lesserNeighbour_6 rfl (lv_at hl 0 rfl) ?_
  refine nb_if_ne (tgt := 14) hx hb (Nat.lt_trans (and_lt _ (hg _ hv0)) (by decide)) dX0_lesserNeighbour_7 (by decide) (fun c_7 => ?_) (fun c_7 => ?_)
  · skip
    refine lv_iload_n hx hb dX0_lesserNeighbour_14 rfl (lv_at hl 0 rfl) ?_
    refine ro_fin (va_runS (As := [.int (nI (g v0 &&& (2 ^ v0 - 1)))]) (rest := []) ⟨hx, hb, hml, hown, hts⟩ (c_J6_numberOfTrailingZeros_0f7a4 l Γ H0 (nI (g v0 &&& (2 ^ v0 - 1))) (low (g v0 &&& (2 ^ v0 - 1))) (Nat.lt_trans (low_spec (and_lt _ (hg _ hv0)) c_7).1 (by decide)) (ntz_low (and_lt _ (hg _ hv0)) c_7)) (kcwS 1 hts kv_J6_numberOfTrailingZeros_0f7a4 mw_80 (rm_le hR (Nat.le_of_ble_eq_true rfl) (Nat.le_of_ble_eq_true rfl))) (kPc_S hK) rfl rfl hl.1 rfl (lv_room (Nat.le_of_ble_eq_true rfl)) dX0_lesserNeighbour_15 ⟨Nat.zero_le _, Nat.zero_le _⟩) hS (fun locs hS => ?_)
    exact hret hS (by rw [lsr, if_neg c_7]; rfl) dX0_lesserNeighbour_18
  · skip
    refine lv_iconst (v := (-1)) hx hb dX0_lesserNeighbour_10 (by decide) ?_
    refine lv_goto (tgt := 18) hx hb dX0_lesserNeighbour_11 (by decide) ?_
    exact hret hS (by rw [lsr, if_pos c_7]; rfl) dX0_lesserNeighbour_18
set_option maxHeartbeats 8000000 in
set_option maxRecDepth 100000 in
theorem c_X0_canBeWritten (l : Launch) (Γ : kG) (H0 : Heap) (fa : Nat) (n0 : Nat) (th0 : Nat) (mv0 : Nat) (a : Nat) (e : Nat) (g : Nat → Nat) (hP : va_P Γ.1 vwCl [(fa, .inr (0, [.ref a, .int (nI n0), .int (nI th0), .int (nI mv0)])), (a, .inr (1, [.ref e])), (e, .inl (Γ.2 0, 14, .inl (aN g)))] H0) (hg : ∀ i, i < 14 → g i < 16384) (hn0 : n0 ≤ 14) : RO l yX0_canBeWritten (wsq yX0_canBeWritten cX0_canBeWritten 2 (some .boolean)) (rmL 3) Γ H0 [.ref fa] (bI (wrt g n0)) := by
  refine ro_ofz (cc := cX0_canBeWritten) (maxL := 2) (by decide +kernel) (Nat.le_of_ble_eq_true rfl) rfl ?_
  intro p ev R st mi args below meth cd Q ls C0 hR hret hh hS hl
  obtain ⟨hx, hb, hr, hml, hown, hts, hlk, hK, hnm⟩ := C0
  have hown : st.vm.findClass RX0 = some mi.cls := hown
  refine lv_iconst (v := (nI 0)) hx hb dX0_canBeWritten_0 (by decide) ?_
  refine lv_istore_n (lv' := [(1, .int (nI 0)), (0, .ref fa)]) hx hb dX0_canBeWritten_1 rfl hl (by decide) rfl (fun ls hl => ?_)
  have LP2 : ∀ (fu : Nat) (k0 : Nat) (hk0 : k0 ≤ n0) (hs0 : wrt g k0 = true), (n0 - k0) < fu → ∀ (locs : List Loc), va_S (fun _ => False) H0 H0 locs → ∀ (ls : Array Slot), lv_has ls 2 [(1, .int (nI k0)), (0, .ref fa)] → W p l ev R st mi args below meth cd H0 locs 0 0 Q (F0 mi 2 ls []) := by
    intro fu
    induction fu with
    | zero => intro k0 hk0 hs0 hfu; exact absurd hfu (Nat.not_lt_zero _)
    | succ fu ih2 =>
      intro k0 hk0 hs0 hfu locs hS ls hl
      refine lv_iload_n hx hb dX0_canBeWritten_2 rfl (lv_at hl 0 rfl) ?_
      refine lv_aload_n hx hb dX0_canBeWritten_3 rfl (lv_at hl 1 rfl) ?_
      refine va_get (D := Γ.1) (ci := 0) (v := .int (nI n0)) (C := RX0) (T := TX0) (N := 4) hx hb hts hinX0 hown hK.1 hP 0 rfl rfl 1 (by decide) (hts _ mw_12) (fun _ h9 => h9) rfl dX0_canBeWritten_4 ?_
      refine nb_icmp_ge (tgt := 30) hx hb (by first | omega | assumption) (by first | omega | assumption) dX0_canBeWritten_7 (by decide) (fun c_7 => ?_) (fun c_7 => ?_)
      · skip
        obtain rfl : k0 = n0 := by omega
        refine lv_iconst (v := (nI 1)) hx hb dX0_canBeWritten_30 (by decide) ?_
        exact hret hS (by rw [hs0]; rfl) dX0_canBeWritten_31
      · skip
        refine lv_aload_n hx hb dX0_canBeWritten_10 rfl (lv_at hl 1 rfl) ?_
        refine lv_iload_n hx hb dX0_canBeWritten_11 rfl (lv_at hl 0 rfl) ?_
        refine ro_fin (va_runV (As := [.int (nI k0)]) (rest := []) ⟨hx, hb, hml, hown, hts⟩ (c_X0_lesserNeighbours l Γ H0 fa n0 th0 mv0 a e g k0 (hP.sub (ws' := [(fa, .inr (0, [.ref a, .int (nI n0), .int (nI th0), .int (nI mv0)])), (a, .inr (1, [.ref e])), (e, .inl (Γ.2 0, 14, .inl (aN g)))]) [0, 1, 2] rfl) (by first | omega | assumption)) (kcwV 1 hts kv_X0_lesserNeighbours mw_88 (rm_le hR (Nat.le_of_ble_eq_true rfl) (Nat.le_of_ble_eq_true rfl))) (kPc_V hK (va_recv hK.1 hP (ci := 0) (q0 := 0) rfl rfl)) rfl rfl hl.1 rfl (lv_room (Nat.le_of_ble_eq_true rfl)) dX0_canBeWritten_12 ⟨Nat.zero_le _, Nat.zero_le _⟩) hS (fun locs hS => ?_)
        refine ro_fin (va_runS (As := [.int (nI (g k0 &&& (2 ^ k0 - 1)))]) (rest := []) ⟨hx, hb, hml, hown, hts⟩ (c_J6_bitCount_0f7a4 l Γ H0 (g k0 &&& (2 ^ k0 - 1)) (and_lt _ (hg _ (by omega)))) (kcwS 1 hts kv_J6_bitCount_0f7a4 mw_60 (rm_le hR (Nat.le_of_ble_eq_true rfl) (Nat.le_of_ble_eq_true rfl))) (kPc_S hK) rfl rfl hl.1 rfl (lv_room (Nat.le_of_ble_eq_true rfl)) dX0_canBeWritten_15 ⟨Nat.zero_le _, Nat.zero_le _⟩) hS (fun locs hS => ?_)
        refine lv_iconst (v := (nI 1)) hx hb dX0_canBeWritten_18 (by decide) ?_
        refine nb_icmp_le (tgt := 24) hx hb (Nat.lt_of_le_of_lt (pc_le _) (by decide)) (by omega) dX0_canBeWritten_19 (by decide) (fun c_19 => ?_) (fun c_19 => ?_)
        · skip
          refine lv_iinc (v := (nI (k0 + 1))) (lv' := [(1, .int (nI (k0 + 1))), (0, .ref fa)]) hx hb dX0_canBeWritten_24 hl (k := 0) rfl (nI_1 _) (by decide) rfl (fun ls hl => ?_)
          refine lv_goto (tgt := 2) hx hb dX0_canBeWritten_27 (by decide) ?_
          exact ih2 (k0 + 1) (by first | omega | assumption) (by rw [wrt, hs0, decide_eq_true c_19]; rfl) (by omega) _ hS ls (lv_sub hl [0, 1] rfl)
        · skip
          refine lv_iconst (v := (nI 0)) hx hb dX0_canBeWritten_22 (by decide) ?_
          exact hret hS (by rw [wrt_no (by omega) c_19]; rfl) dX0_canBeWritten_23
  exact LP2 ((n0 - 0) + 1) 0 (by first | omega | assumption) (rfl) (Nat.lt_succ_self _) _ hS ls (lv_sub hl [0, 1] rfl)
