set_option maxHeartbeats 8000000 in
set_option maxRecDepth 100000 in
theorem c_X1_init (l : Launch) (Γ : kG) (sz : Nat) (a : Nat)  : WRn l yX1_init (wsq yX1_init cX1_init 1 none) (rmX 2 1 14) 1 14 Γ sz [.ref a] [(a, .inr (1, [.null]))] (fun u : Nat => [(a, .inr (1, [.ref u])), (u, .inl (Γ.2 0, 14, .inl (aN (fun _ => 0))))]) := by
  refine wr_ofn (cc := cX1_init) (maxL := 1) (by decide +kernel) (Nat.le_of_ble_eq_true rfl) rfl ?_
  intro p ev R st mi args below meth cd Q A ls C0 hR hO hA hret hP hD hS hl
  obtain ⟨hx, hb, hr, hml, hown, hts, hlk, hK, hnm⟩ := C0
  have hown : st.vm.findClass RX1 = some mi.cls := hown
  have hin : meth.name = "<init>" := hnm
  refine lv_aload_n hx hb dX1_init_0 rfl (lv_at hl 0 rfl) ?_
  refine W.objInit hx hb hown (hts _ mw_1) (hts _ mw_2) (hts _ mw_3) rfl (by rw [hml]; exact hl.1) rfl dX1_init_1 (by subst hR; exact Nat.le_of_ble_eq_true rfl) (by subst hR; exact Nat.le_of_ble_eq_true rfl) ?_
  refine W.eq (g2 := F0 mi 4 ls []) rfl ?_
  refine lv_aload_n hx hb dX1_init_4 rfl (lv_at hl 0 rfl) ?_
  refine lv_bipush (v := (nI 14)) hx hb dX1_init_5 (by decide) ?_
  refine kn_newa (atype := .int) 0 rfl hx hb (hts _ mw_4) rfl hK hP hD hS hA (N' := 14) (a0 := (14, .inl (aN (fun _ => 0)))) (fun _ => rfl) (by decide) (by decide) (by subst hR; exact Nat.le_of_ble_eq_true rfl) (by subst hR; exact Nat.le_of_ble_eq_true rfl) dX1_init_7 (fun q1 H hP hD hS => ?_)
  have hP : va_P Γ.1 vwCl [(a, .inr (1, [.null])), (q1, .inl (Γ.2 0, 14, .inl (aN (fun _ => 0))))] H := hP
  have hD : va_D A [(a, .inr (1, [.null])), (q1, .inl (Γ.2 0, 14, .inl (aN (fun _ => 0))))] := hD
  refine W.widen (k := 1) (n := 14) (Nat.le_of_ble_eq_true rfl) (Nat.le_of_ble_eq_true rfl) ?_
  refine va_putF (D := Γ.1) (ci := 1) (v := .ref q1) (ty := .array .int) (C := RX1) (T := TX1) (N := 1) hx hb hts hinX1 tyX1 tyX1_ok nmX1 hown hK.1 hP hD hS 0 rfl rfl 0 (by decide) (hts _ mw_5) (fun _ h9 => h9) rfl hin rfl (by decide +kernel) rfl rfl (Nat.le_of_ble_eq_true rfl) dX1_init_9 (fun H locs hP hD hS => ?_)
  have hP : va_P Γ.1 vwCl [(a, .inr (1, [.ref q1])), (q1, .inl (Γ.2 0, 14, .inl (aN (fun _ => 0))))] H := hP
  have hD : va_D A [(a, .inr (1, [.ref q1])), (q1, .inl (Γ.2 0, 14, .inl (aN (fun _ => 0))))] := hD
  have hP := hP.sub (ws' := [(a, .inr (1, [.ref q1])), (q1, .inl (Γ.2 0, 14, .inl (aN (fun _ => 0))))]) [0, 1] rfl
  have hD := hD.sub (ws' := [(a, .inr (1, [.ref q1])), (q1, .inl (Γ.2 0, 14, .inl (aN (fun _ => 0))))]) [0, 1] (by decide +kernel) rfl
  exact hret q1 hP hD hS dX1_init_12
set_option maxHeartbeats 8000000 in
set_option maxRecDepth 100000 in
theorem c_X4_init (l : Launch) (Γ : kG) (sz : Nat) (sa : Nat)  : WRn l yX4_init (wsq yX4_init cX4_init 1 none) (rmX 2 1 14) 1 14 Γ sz [.ref sa] [(sa, .inr (4, [.null]))] (fun u : Nat => [(sa, .inr (4, [.ref u])), (u, .inl (Γ.2 0, 14, .inl (aN (fun _ => 0))))]) := by
  refine wr_ofn (cc := cX4_init) (maxL := 1) (by decide +kernel) (Nat.le_of_ble_eq_true rfl) rfl ?_
  intro p ev R st mi args below meth cd Q A ls C0 hR hO hA hret hP hD hS hl
  obtain ⟨hx, hb, hr, hml, hown, hts, hlk, hK, hnm⟩ := C0
  have hown : st.vm.findClass RX4 = some mi.cls := hown
  have hin : meth.name = "<init>" := hnm
  refine lv_aload_n hx hb dX4_init_0 rfl (lv_at hl 0 rfl) ?_
  refine W.objInit hx hb hown (hts _ mw_171) (hts _ mw_2) (hts _ mw_3) rfl (by rw [hml]; exact hl.1) rfl dX4_init_1 (by subst hR; exact Nat.le_of_ble_eq_true rfl) (by subst hR; exact Nat.le_of_ble_eq_true rfl) ?_
  refine W.eq (g2 := F0 mi 4 ls []) rfl ?_
  refine lv_aload_n hx hb dX4_init_4 rfl (lv_at hl 0 rfl) ?_
  refine lv_bipush (v := (nI 14)) hx hb dX4_init_5 (by decide) ?_
  refine kn_newa (atype := .int) 0 rfl hx hb (hts _ mw_4) rfl hK hP hD hS hA (N' := 14) (a0 := (14, .inl (aN (fun _ => 0)))) (fun _ => rfl) (by decide) (by decide) (by subst hR; exact Nat.le_of_ble_eq_true rfl) (by subst hR; exact Nat.le_of_ble_eq_true rfl) dX4_init_7 (fun q1 H hP hD hS => ?_)
  have hP : va_P Γ.1 vwCl [(sa, .inr (4, [.null])), (q1, .inl (Γ.2 0, 14, .inl (aN (fun _ => 0))))] H := hP
  have hD : va_D A [(sa, .inr (4, [.null])), (q1, .inl (Γ.2 0, 14, .inl (aN (fun _ => 0))))] := hD
  refine W.widen (k := 1) (n := 14) (Nat.le_of_ble_eq_true rfl) (Nat.le_of_ble_eq_true rfl) ?_
  refine va_putF (D := Γ.1) (ci := 4) (v := .ref q1) (ty := .array .int) (C := RX4) (T := TX4) (N := 1) hx hb hts hinX4 tyX4 tyX4_ok nmX4 hown hK.1 hP hD hS 0 rfl rfl 0 (by decide) (hts _ mw_172) (fun _ h9 => h9) rfl hin rfl (by decide +kernel) rfl rfl (Nat.le_of_ble_eq_true rfl) dX4_init_9 (fun H locs hP hD hS => ?_)
  have hP : va_P Γ.1 vwCl [(sa, .inr (4, [.ref q1])), (q1, .inl (Γ.2 0, 14, .inl (aN (fun _ => 0))))] H := hP
  have hD : va_D A [(sa, .inr (4, [.ref q1])), (q1, .inl (Γ.2 0, 14, .inl (aN (fun _ => 0))))] := hD
  have hP := hP.sub (ws' := [(sa, .inr (4, [.ref q1])), (q1, .inl (Γ.2 0, 14, .inl (aN (fun _ => 0))))]) [0, 1] rfl
  have hD := hD.sub (ws' := [(sa, .inr (4, [.ref q1])), (q1, .inl (Γ.2 0, 14, .inl (aN (fun _ => 0))))]) [0, 1] (by decide +kernel) rfl
  exact hret q1 hP hD hS dX4_init_12
set_option maxHeartbeats 8000000 in
set_option maxRecDepth 100000 in
theorem c_X5_init (l : Launch) (Γ : kG) (sz : Nat) (ta : Nat)  : WRn l yX5_init (wsq yX5_init cX5_init 1 none) (rmX 2 1 14) 1 14 Γ sz [.ref ta] [(ta, .inr (5, [.null, .int (nI 0)]))] (fun u : Nat => [(ta, .inr (5, [.ref u, .int (nI 0)])), (u, .inl (Γ.2 0, 14, .inl (aN (fun _ => 0))))]) := by
  refine wr_ofn (cc := cX5_init) (maxL := 1) (by decide +kernel) (Nat.le_of_ble_eq_true rfl) rfl ?_
  intro p ev R st mi args below meth cd Q A ls C0 hR hO hA hret hP hD hS hl
  obtain ⟨hx, hb, hr, hml, hown, hts, hlk, hK, hnm⟩ := C0
  have hown : st.vm.findClass RX5 = some mi.cls := hown
  have hin : meth.name = "<init>" := hnm
  refine lv_aload_n hx hb dX5_init_0 rfl (lv_at hl 0 rfl) ?_
  refine W.objInit hx hb hown (hts _ mw_188) (hts _ mw_2) (hts _ mw_3) rfl (by rw [hml]; exact hl.1) rfl dX5_init_1 (by subst hR; exact Nat.le_of_ble_eq_true rfl) (by subst hR; exact Nat.le_of_ble_eq_true rfl) ?_
  refine W.eq (g2 := F0 mi 4 ls []) rfl ?_
  refine lv_aload_n hx hb dX5_init_4 rfl (lv_at hl 0 rfl) ?_
  refine lv_bipush (v := (nI 14)) hx hb dX5_init_5 (by decide) ?_
  refine kn_newa (atype := .int) 0 rfl hx hb (hts _ mw_4) rfl hK hP hD hS hA (N' := 14) (a0 := (14, .inl (aN (fun _ => 0)))) (fun _ => rfl) (by decide) (by decide) (by subst hR; exact Nat.le_of_ble_eq_true rfl) (by subst hR; exact Nat.le_of_ble_eq_true rfl) dX5_init_7 (fun q1 H hP hD hS => ?_)
  have hP : va_P Γ.1 vwCl [(ta, .inr (5, [.null, .int (nI 0)])), (q1, .inl (Γ.2 0, 14, .inl (aN (fun _ => 0))))] H := hP
  have hD : va_D A [(ta, .inr (5, [.null, .int (nI 0)])), (q1, .inl (Γ.2 0, 14, .inl (aN (fun _ => 0))))] := hD
  refine W.widen (k := 1) (n := 14) (Nat.le_of_ble_eq_true rfl) (Nat.le_of_ble_eq_true rfl) ?_
  refine va_putF (D := Γ.1) (ci := 5) (v := .ref q1) (ty := .array .int) (C := RX5) (T := TX5) (N := 2) hx hb hts hinX5 tyX5 tyX5_ok nmX5 hown hK.1 hP hD hS 0 rfl rfl 0 (by decide) (hts _ mw_189) (fun _ h9 => h9) rfl hin rfl (by decide +kernel) rfl rfl (Nat.le_of_ble_eq_true rfl) dX5_init_9 (fun H locs hP hD hS => ?_)
  have hP : va_P Γ.1 vwCl [(ta, .inr (5, [.ref q1, .int (nI 0)])), (q1, .inl (Γ.2 0, 14, .inl (aN (fun _ => 0))))] H := hP
  have hD : va_D A [(ta, .inr (5, [.ref q1, .int (nI 0)])), (q1, .inl (Γ.2 0, 14, .inl (aN (fun _ => 0))))] := hD
  refine lv_aload_n hx hb dX5_init_12 rfl (lv_at hl 0 rfl) ?_
  refine lv_iconst (v := (nI 0)) hx hb dX5_init_13 (by decide) ?_
  refine va_put (D := Γ.1) (ci := 5) (v := .int (nI 0)) (ty := .int) (C := RX5) (T := TX5) (N := 2) hx hb hts hinX5 tyX5 tyX5_ok nmX5 hown hK.1 hP hD hS 0 rfl rfl 1 (by decide) (hts _ mw_190) (fun _ h9 => h9) rfl (by decide +kernel) rfl rfl (Nat.le_of_ble_eq_true rfl) dX5_init_14 (fun H locs hP hD hS => ?_)
  have hP : va_P Γ.1 vwCl [(ta, .inr (5, [.ref q1, .int (nI 0)])), (q1, .inl (Γ.2 0, 14, .inl (aN (fun _ => 0))))] H := hP
  have hD : va_D A [(ta, .inr (5, [.ref q1, .int (nI 0)])), (q1, .inl (Γ.2 0, 14, .inl (aN (fun _ => 0))))] := hD
  have hP := hP.sub (ws' := [(ta, .inr (5, [.ref q1, .int (nI 0)])), (q1, .inl (Γ.2 0, 14, .inl (aN (fun _ => 0))))]) [0, 1] rfl
  have hD := hD.sub (ws' := [(ta, .inr (5, [.ref q1, .int (nI 0)])), (q1, .inl (Γ.2 0, 14, .inl (aN (fun _ => 0))))]) [0, 1] (by decide +kernel) rfl
  exact hret q1 hP hD hS dX5_init_17
set_option maxHeartbeats 8000000 in
set_option maxRecDepth 100000 in
theorem c_X0_init (l : Launch) (Γ : kG) (sz : Nat) (fa : Nat)  : WRn l yX0_init (wsq yX0_init cX0_init 1 none) (rmX 3 2 15) 2 15 Γ sz [.ref fa] [(fa, .inr (0, [.null, .int (nI 0), .int (nI 0), .int (nI 0)]))] (fun u : Nat × Nat => [(fa, .inr (0, [.ref u.1, .int (nI 0), .int (nI 0), .int (nI 0)])), (u.1, .inr (1, [.ref u.2])), (u.2, .inl (Γ.2 0, 14, .inl (aN (fun _ => 0))))]) := by
  refine wr_ofn (cc := cX0_init) (maxL := 1) (by decide +kernel) (Nat.le_of_ble_eq_true rfl) rfl ?_
  intro p ev R st mi args below meth cd Q A ls C0 hR hO hA hret hP hD hS hl
  obtain ⟨hx, hb, hr, hml, hown, hts, hlk, hK, hnm⟩ := C0
  have hown : st.vm.findClass RX0 = some mi.cls := hown
  have hin : meth.name = "<init>" := hnm
  refine lv_aload_n hx hb dX0_init_0 rfl (lv_at hl 0 rfl) ?_
  refine W.objInit hx hb hown (hts _ mw_7) (hts _ mw_2) (hts _ mw_3) rfl (by rw [hml]; exact hl.1) rfl dX0_init_1 (by subst hR; exact Nat.le_of_ble_eq_true rfl) (by subst hR; exact Nat.le_of_ble_eq_true rfl) ?_
  refine W.eq (g2 := F0 mi 4 ls []) rfl ?_
  refine lv_aload_n hx hb dX0_init_4 rfl (lv_at hl 0 rfl) ?_
  refine va_new (ci := 1) (fs := [.null]) (C := RX1) (T := TX1) (N := 1) hx hb hts hinX1 tyX1 tyX1_ok hown (hts _ mw_8) (hts _ mw_9) (hts _ mw_10) hK.1 hP hD hS hA rfl (fun j9 h9 => by rcases (show j9 = 0 by omega) with rfl <;> rfl) (by subst hR; exact Nat.le_of_ble_eq_true rfl) (by subst hR; exact Nat.le_of_ble_eq_true rfl) dX0_init_5 (fun q1 H hP hD hS => ?_)
  have hP : va_P Γ.1 vwCl [(fa, .inr (0, [.null, .int (nI 0), .int (nI 0), .int (nI 0)])), (q1, .inr (1, [.null]))] H := hP
  have hD : va_D A [(fa, .inr (0, [.null, .int (nI 0), .int (nI 0), .int (nI 0)])), (q1, .inr (1, [.null]))] := hD
  refine W.widen (k := 1) (n := 1) (Nat.le_of_ble_eq_true rfl) (Nat.le_of_ble_eq_true rfl) ?_
  refine lv_dup hx hb dX0_init_8 rfl ?_
  refine wr_finn (wr := [(fa, .inr (0, [.null, .int (nI 0), .int (nI 0), .int (nI 0)]))]) (va_runIN (As := []) (rest := [.ref q1, .ref fa]) ⟨hx, hb, hml, hown, hts⟩ (c_X1_init l Γ H.size q1) (kcwIN 0 hts kv_X1_init (hK.nw _ (nwL_at 46 rfl)) (rm_le hR (Nat.le_of_ble_eq_true rfl) (Nat.le_of_ble_eq_true rfl))) (kPn_S hK hO (hP.sub (ws' := [(q1, .inr (1, [.null]))]) [1] rfl) (hD.sub (ws' := [(q1, .inr (1, [.null]))]) [1] (by decide) rfl)) rfl rfl hl.1 rfl (lv_room (Nat.le_of_ble_eq_true rfl)) dX0_init_9 ⟨by subst hR; exact Nat.le_of_ble_eq_true rfl, by subst hR; exact Nat.le_of_ble_eq_true rfl⟩) hP hD hS hA [1] [0] rfl rfl (by decide +kernel) (by decide +kernel) (fun u H locs hP hD hS => ?_)
  obtain ⟨q2, rfl⟩ : ∃ z, z = u := ⟨_, rfl⟩
  have hP : va_P Γ.1 vwCl [(fa, .inr (0, [.null, .int (nI 0), .int (nI 0), .int (nI 0)])), (q1, .inr (1, [.ref q2])), (q2, .inl (Γ.2 0, 14, .inl (aN (fun _ => 0))))] H := hP
  have hD : va_D A [(fa, .inr (0, [.null, .int (nI 0), .int (nI 0), .int (nI 0)])), (q1, .inr (1, [.ref q2])), (q2, .inl (Γ.2 0, 14, .inl (aN (fun _ => 0))))] := hD
  refine W.widen (k := 2) (n := 15) (Nat.le_of_ble_eq_true rfl) (Nat.le_of_ble_eq_true rfl) ?_
  refine va_putF (D := Γ.1) (ci := 0) (v := .ref q1) (ty := .object "TreeKayles$Graph") (C := RX0) (T := TX0) (N := 4) hx hb hts hinX0 tyX0 tyX0_ok nmX0 hown hK.1 hP hD hS 0 rfl rfl 0 (by decide) (hts _ mw_11) (fun _ h9 => h9) rfl hin rfl (by decide +kernel) rfl rfl (Nat.le_of_ble_eq_true rfl) dX0_init_12 (fun H locs hP hD hS => ?_)
  have hP : va_P Γ.1 vwCl [(fa, .inr (0, [.ref q1, .int (nI 0), .int (nI 0), .int (nI 0)])), (q1, .inr (1, [.ref q2])), (q2, .inl (Γ.2 0, 14, .inl (aN (fun _ => 0))))] H := hP
  have hD : va_D A [(fa, .inr (0, [.ref q1, .int (nI 0), .int (nI 0), .int (nI 0)])), (q1, .inr (1, [.ref q2])), (q2, .inl (Γ.2 0, 14, .inl (aN (fun _ => 0))))] := hD
  refine lv_aload_n hx hb dX0_init_15 rfl (lv_at hl 0 rfl) ?_
  refine lv_iconst (v := (nI 0)) hx hb dX0_init_16 (by decide) ?_
  refine va_put (D := Γ.1) (ci := 0) (v := .int (nI 0)) (ty := .int) (C := RX0) (T := TX0) (N := 4) hx hb hts hinX0 tyX0 tyX0_ok nmX0 hown hK.1 hP hD hS 0 rfl rfl 1 (by decide) (hts _ mw_12) (fun _ h9 => h9) rfl (by decide +kernel) rfl rfl (Nat.le_of_ble_eq_true rfl) dX0_init_17 (fun H locs hP hD hS => ?_)
  have hP : va_P Γ.1 vwCl [(fa, .inr (0, [.ref q1, .int (nI 0), .int (nI 0), .int (nI 0)])), (q1, .inr (1, [.ref q2])), (q2, .inl (Γ.2 0, 14, .inl (aN (fun _ => 0))))] H := hP
  have hD : va_D A [(fa, .inr (0, [.ref q1, .int (nI 0), .int (nI 0), .int (nI 0)])), (q1, .inr (1, [.ref q2])), (q2, .inl (Γ.2 0, 14, .inl (aN (fun _ => 0))))] := hD
  refine lv_aload_n hx hb dX0_init_20 rfl (lv_at hl 0 rfl) ?_
  refine lv_iconst (v := (nI 0)) hx hb dX0_init_21 (by decide) ?_
  refine va_put (D := Γ.1) (ci := 0) (v := .int (nI 0)) (ty := .int) (C := RX0) (T := TX0) (N := 4) hx hb hts hinX0 tyX0 tyX0_ok nmX0 hown hK.1 hP hD hS 0 rfl rfl 2 (by decide) (hts _ mw_13) (fun _ h9 => h9) rfl (by decide +kernel) rfl rfl (Nat.le_of_ble_eq_true rfl) dX0_init_22 (fun H locs hP hD hS => ?_)
  have hP : va_P Γ.1 vwCl [(fa, .inr (0, [.ref q1, .int (nI 0), .int (nI 0), .int (nI 0)])), (q1, .inr (1, [.ref q2])), (q2, .inl (Γ.2 0, 14, .inl (aN (fun _ => 0))))] H := hP
  have hD : va_D A [(fa, .inr (0, [.ref q1, .int (nI 0), .int (nI 0), .int (nI 0)])), (q1, .inr (1, [.ref q2])), (q2, .inl (Γ.2 0, 14, .inl (aN (fun _ => 0))))] := hD
  refine lv_aload_n hx hb dX0_init_25 rfl (lv_at hl 0 rfl) ?_
  refine lv_iconst (v := (nI 0)) hx hb dX0_init_26 (by decide) ?_
  refine va_put (D := Γ.1) (ci := 0) (v := .int (nI 0)) (ty := .int) (C := RX0) (T := TX0) (N := 4) hx hb hts hinX0 tyX0 tyX0_ok nmX0 hown hK.1 hP hD hS 0 rfl rfl 3 (by decide) (hts _ mw_14) (fun _ h9 => h9) rfl (by decide +kernel) rfl rfl (Nat.le_of_ble_eq_true rfl) dX0_init_27 (fun H locs hP hD hS => ?_)
  have hP : va_P Γ.1 vwCl [(fa, .inr (0, [.ref q1, .int (nI 0), .int (nI 0), .int (nI 0)])), (q1, .inr (1, [.ref q2])), (q2, .inl (Γ.2 0, 14, .inl (aN (fun _ => 0))))] H := hP
  have hD : va_D A [(fa, .inr (0, [.ref q1, .int (nI 0), .int (nI 0), .int (nI 0)])), (q1, .inr (1, [.ref q2])), (q2, .inl (Γ.2 0, 14, .inl (aN (fun _ => 0))))] := hD
  have hP := hP.sub (ws' := [(fa, .inr (0, [.ref q1, .int (nI 0), .int (nI 0), .int (nI 0)])), (q1, .inr (1, [.ref q2])), (q2, .inl (Γ.2 0, 14, .inl (aN (fun _ => 0))))]) [0, 1, 2] rfl
  have hD := hD.sub (ws' := [(fa, .inr (0, [.ref q1, .int (nI 0), .int (nI 0), .int (nI 0)])), (q1, .inr (1, [.ref q2])), (q2, .inl (Γ.2 0, 14, .inl (aN (fun _ => 0))))]) [0, 1, 2] (by decide +kernel) rfl
  exact hret (q1, q2) hP hD hS dX0_init_30
set_option maxHeartbeats 8000000 in
set_option maxRecDepth 100000 in
theorem c_X3_init (l : Launch) (Γ : kG) (sz : Nat) (oa : Nat)  : WRn l yX3_init (wsq yX3_init cX3_init 1 none) (rmX 3 3 16399) 3 16399 Γ sz [.ref oa] [(oa, .inr (3, [.null, .null]))] (fun u : Nat × Nat × Nat => [(oa, .inr (3, [.ref u.1, .ref u.2.2])), (u.1, .inr (1, [.ref u.2.1])), (u.2.1, .inl (Γ.2 0, 14, .inl (aN (fun _ => 0)))), (u.2.2, .inl (Γ.2 0, 16384, .inl (aN (fun _ => 0))))]) := by
  refine wr_ofn (cc := cX3_init) (maxL := 1) (by decide +kernel) (Nat.le_of_ble_eq_true rfl) rfl ?_
  intro p ev R st mi args below meth cd Q A ls C0 hR hO hA hret hP hD hS hl
  obtain ⟨hx, hb, hr, hml, hown, hts, hlk, hK, hnm⟩ := C0
  have hown : st.vm.findClass RX3 = some mi.cls := hown
  have hin : meth.name = "<init>" := hnm
  refine lv_aload_n hx hb dX3_init_0 rfl (lv_at hl 0 rfl) ?_
  refine W.objInit hx hb hown (hts _ mw_126) (hts _ mw_2) (hts _ mw_3) rfl (by rw [hml]; exact hl.1) rfl dX3_init_1 (by subst hR; exact Nat.le_of_ble_eq_true rfl) (by subst hR; exact Nat.le_of_ble_eq_true rfl) ?_
  refine W.eq (g2 := F0 mi 4 ls []) rfl ?_
  refine lv_aload_n hx hb dX3_init_4 rfl (lv_at hl 0 rfl) ?_
  refine va_new (ci := 1) (fs := [.null]) (C := RX1) (T := TX1) (N := 1) hx hb hts hinX1 tyX1 tyX1_ok hown (hts _ mw_127) (hts _ mw_9) (hts _ mw_10) hK.1 hP hD hS hA rfl (fun j9 h9 => by rcases (show j9 = 0 by omega) with rfl <;> rfl) (by subst hR; exact Nat.le_of_ble_eq_true rfl) (by subst hR; exact Nat.le_of_ble_eq_true rfl) dX3_init_5 (fun q1 H hP hD hS => ?_)
  have hP : va_P Γ.1 vwCl [(oa, .inr (3, [.null, .null])), (q1, .inr (1, [.null]))] H := hP
  have hD : va_D A [(oa, .inr (3, [.null, .null])), (q1, .inr (1, [.null]))] := hD
  refine W.widen (k := 1) (n := 1) (Nat.le_of_ble_eq_true rfl) (Nat.le_of_ble_eq_true rfl) ?_
  refine lv_dup hx hb dX3_init_8 rfl ?_
  refine wr_finn (wr := [(oa, .inr (3, [.null, .null]))]) (va_runIN (As := []) (rest := [.ref q1, .ref oa]) ⟨hx, hb, hml, hown, hts⟩ (c_X1_init l Γ H.size q1) (kcwIN 0 hts kv_X1_init (hK.nw _ (nwL_at 59 rfl)) (rm_le hR (Nat.le_of_ble_eq_true rfl) (Nat.le_of_ble_eq_true rfl))) (kPn_S hK hO (hP.sub (ws' := [(q1, .inr (1, [.null]))]) [1] rfl) (hD.sub (ws' := [(q1, .inr (1, [.null]))]) [1] (by decide) rfl)) rfl rfl hl.1 rfl (lv_room (Nat.le_of_ble_eq_true rfl)) dX3_init_9 ⟨by subst hR; exact Nat.le_of_ble_eq_true rfl, by subst hR; exact Nat.le_of_ble_eq_true rfl⟩) hP hD hS hA [1] [0] rfl rfl (by decide +kernel) (by decide +kernel) (fun u H locs hP hD hS => ?_)
  obtain ⟨q2, rfl⟩ : ∃ z, z = u := ⟨_, rfl⟩
  have hP : va_P Γ.1 vwCl [(oa, .inr (3, [.null, .null])), (q1, .inr (1, [.ref q2])), (q2, .inl (Γ.2 0, 14, .inl (aN (fun _ => 0))))] H := hP
  have hD : va_D A [(oa, .inr (3, [.null, .null])), (q1, .inr (1, [.ref q2])), (q2, .inl (Γ.2 0, 14, .inl (aN (fun _ => 0))))] := hD
  refine W.widen (k := 2) (n := 15) (Nat.le_of_ble_eq_true rfl) (Nat.le_of_ble_eq_true rfl) ?_
  refine va_putF (D := Γ.1) (ci := 3) (v := .ref q1) (ty := .object "TreeKayles$Graph") (C := RX3) (T := TX3) (N := 2) hx hb hts hinX3 tyX3 tyX3_ok nmX3 hown hK.1 hP hD hS 0 rfl rfl 0 (by decide) (hts _ mw_128) (fun _ h9 => h9) rfl hin rfl (by decide +kernel) rfl rfl (Nat.le_of_ble_eq_true rfl) dX3_init_12 (fun H locs hP hD hS => ?_)
  have hP : va_P Γ.1 vwCl [(oa, .inr (3, [.ref q1, .null])), (q1, .inr (1, [.ref q2])), (q2, .inl (Γ.2 0, 14, .inl (aN (fun _ => 0))))] H := hP
  have hD : va_D A [(oa, .inr (3, [.ref q1, .null])), (q1, .inr (1, [.ref q2])), (q2, .inl (Γ.2 0, 14, .inl (aN (fun _ => 0))))] := hD
  refine lv_aload_n hx hb dX3_init_15 rfl (lv_at hl 0 rfl) ?_
  refine lv_sipush (v := (nI 16384)) hx hb dX3_init_16 (by decide) ?_
  refine kn_newa (atype := .int) 0 rfl hx hb (hts _ mw_4) rfl hK hP hD hS hA (N' := 16384) (a0 := (16384, .inl (aN (fun _ => 0)))) (fun _ => rfl) (by decide) (by decide) (by subst hR; exact Nat.le_of_ble_eq_true rfl) (by subst hR; exact Nat.le_of_ble_eq_true rfl) dX3_init_19 (fun q3 H hP hD hS => ?_)
  have hP : va_P Γ.1 vwCl [(oa, .inr (3, [.ref q1, .null])), (q1, .inr (1, [.ref q2])), (q2, .inl (Γ.2 0, 14, .inl (aN (fun _ => 0)))), (q3, .inl (Γ.2 0, 16384, .inl (aN (fun _ => 0))))] H := hP
  have hD : va_D A [(oa, .inr (3, [.ref q1, .null])), (q1, .inr (1, [.ref q2])), (q2, .inl (Γ.2 0, 14, .inl (aN (fun _ => 0)))), (q3, .inl (Γ.2 0, 16384, .inl (aN (fun _ => 0))))] := hD
  refine W.widen (k := 3) (n := 16399) (Nat.le_of_ble_eq_true rfl) (Nat.le_of_ble_eq_true rfl) ?_
  refine va_putF (D := Γ.1) (ci := 3) (v := .ref q3) (ty := .array .int) (C := RX3) (T := TX3) (N := 2) hx hb hts hinX3 tyX3 tyX3_ok nmX3 hown hK.1 hP hD hS 0 rfl rfl 1 (by decide) (hts _ mw_129) (fun _ h9 => h9) rfl hin rfl (by decide +kernel) rfl rfl (Nat.le_of_ble_eq_true rfl) dX3_init_21 (fun H locs hP hD hS => ?_)
  have hP : va_P Γ.1 vwCl [(oa, .inr (3, [.ref q1, .ref q3])), (q1, .inr (1, [.ref q2])), (q2, .inl (Γ.2 0, 14, .inl (aN (fun _ => 0)))), (q3, .inl (Γ.2 0, 16384, .inl (aN (fun _ => 0))))] H := hP
  have hD : va_D A [(oa, .inr (3, [.ref q1, .ref q3])), (q1, .inr (1, [.ref q2])), (q2, .inl (Γ.2 0, 14, .inl (aN (fun _ => 0)))), (q3, .inl (Γ.2 0, 16384, .inl (aN (fun _ => 0))))] := hD
  have hP := hP.sub (ws' := [(oa, .inr (3, [.ref q1, .ref q3])), (q1, .inr (1, [.ref q2])), (q2, .inl (Γ.2 0, 14, .inl (aN (fun _ => 0)))), (q3, .inl (Γ.2 0, 16384, .inl (aN (fun _ => 0))))]) [0, 1, 2, 3] rfl
  have hD := hD.sub (ws' := [(oa, .inr (3, [.ref q1, .ref q3])), (q1, .inr (1, [.ref q2])), (q2, .inl (Γ.2 0, 14, .inl (aN (fun _ => 0)))), (q3, .inl (Γ.2 0, 16384, .inl (aN (fun _ => 0))))]) [0, 1, 2, 3] (by decide +kernel) rfl
  exact hret (q1, q2, q3) hP hD hS dX3_init_24
