set_option maxHeartbeats 8000000 in
set_option maxRecDepth 100000 in
theorem c_X6_requireNode_a (l : Launch) (Γ : kG) (xa : Nat) (xs : Nat) (xk : Nat) (ha : Nat) (ta : Nat) (sa : Nat) (oa : Nat) (pa : Nat) (ja : Nat) (fa : Nat) (n0 : Nat) (th0 : Nat) (mv0 : Nat) (a : Nat) (e : Nat) (g : Nat → Nat) (v0 : Nat) (hv0 : v0 < n0) (hn0 : n0 ≤ 14) : WRv l yX6_requireNode (wsq yX6_requireNode cX6_requireNode 2 none) (rmL 1) Γ [.ref xa, .int (nI v0)] [(xa, .inr (6, [.ref fa, .ref xs, .ref xk, .ref ha, .ref ta, .ref sa, .ref oa, .ref pa, .ref ja])), (fa, .inr (0, [.ref a, .int (nI n0), .int (nI th0), .int (nI mv0)])), (a, .inr (1, [.ref e])), (e, .inl (Γ.2 0, 14, .inl (aN g)))] (fun u : Unit => [(xa, .inr (6, [.ref fa, .ref xs, .ref xk, .ref ha, .ref ta, .ref sa, .ref oa, .ref pa, .ref ja])), (fa, .inr (0, [.ref a, .int (nI n0), .int (nI th0), .int (nI mv0)])), (a, .inr (1, [.ref e])), (e, .inl (Γ.2 0, 14, .inl (aN g)))]) (fun u : Unit => True) := by
  refine wr_ofv (cc := cX6_requireNode) (maxL := 2) (by decide +kernel) (Nat.le_of_ble_eq_true rfl) rfl ?_
  intro p ev R st mi args below meth cd Q A ls C0 hR hret hP hD hS hl
  obtain ⟨hx, hb, hr, hml, hown, hts, hlk, hK, hnm⟩ := C0
  have hown : st.vm.findClass RX6 = some mi.cls := hown
  refine lv_iload_n hx hb dX6_requireNode_0 rfl (lv_at hl 1 rfl) ?_
  refine nb_if_lt (tgt := 15) hx hb (by first | omega | assumption) dX6_requireNode_1 (by decide) ?_
  refine lv_iload_n hx hb dX6_requireNode_4 rfl (lv_at hl 1 rfl) ?_
  refine lv_aload_n hx hb dX6_requireNode_5 rfl (lv_at hl 0 rfl) ?_
  refine va_get (D := Γ.1) (ci := 6) (v := .ref fa) (C := RX6) (T := TX6) (N := 9) hx hb hts hinX6 hown hK.1 hP 0 rfl rfl 0 (by decide) (hts _ mw_209) (fun _ h9 => h9) rfl dX6_requireNode_6 ?_
  refine va_getN (host := "TreeKayles") (D := Γ.1) (ci := 0) (v := .int (nI n0)) (C := RX0) (T := TX0) (N := 4) hx hb hts hinX0 hown hK.1 hP 1 rfl rfl 1 (by decide) (va_Nw.use rfl (hK.nw _ (nwL_at 4 rfl))) (fun _ h9 => h9) rfl dX6_requireNode_9 ?_
  refine nb_icmp_lt (tgt := 26) hx hb (by omega) (by omega) dX6_requireNode_12 (by decide) (fun c_12 => ?_) (fun c_12 => by exfalso; omega)
  exact hret () hP hS (trivial) dX6_requireNode_26
set_option maxHeartbeats 8000000 in
set_option maxRecDepth 100000 in
theorem c_X6_requireThere_a (l : Launch) (Γ : kG) (xa : Nat) (xs : Nat) (xk : Nat) (ha : Nat) (ta : Nat) (sa : Nat) (oa : Nat) (pa : Nat) (ja : Nat) (fa : Nat) (n0 : Nat) (th0 : Nat) (mv0 : Nat) (a : Nat) (e : Nat) (g : Nat → Nat) (v0 : Nat) (hn0 : n0 ≤ 14) (hth : th0 < 2 ^ n0) (hv0 : v0 < n0) (hb0 : th0.testBit v0 = true) : WRv l yX6_requireThere (wsq yX6_requireThere cX6_requireThere 2 none) (rmL 3) Γ [.ref xa, .int (nI v0)] [(xa, .inr (6, [.ref fa, .ref xs, .ref xk, .ref ha, .ref ta, .ref sa, .ref oa, .ref pa, .ref ja])), (fa, .inr (0, [.ref a, .int (nI n0), .int (nI th0), .int (nI mv0)])), (a, .inr (1, [.ref e])), (e, .inl (Γ.2 0, 14, .inl (aN g)))] (fun u : Unit => [(xa, .inr (6, [.ref fa, .ref xs, .ref xk, .ref ha, .ref ta, .ref sa, .ref oa, .ref pa, .ref ja])), (fa, .inr (0, [.ref a, .int (nI n0), .int (nI th0), .int (nI mv0)])), (a, .inr (1, [.ref e])), (e, .inl (Γ.2 0, 14, .inl (aN g)))]) (fun u : Unit => True) := by
  refine wr_ofv (cc := cX6_requireThere) (maxL := 2) (by decide +kernel) (Nat.le_of_ble_eq_true rfl) rfl ?_
  intro p ev R st mi args below meth cd Q A ls C0 hR hret hP hD hS hl
  obtain ⟨hx, hb, hr, hml, hown, hts, hlk, hK, hnm⟩ := C0
  have hown : st.vm.findClass RX6 = some mi.cls := hown
  have hw14 := w14 hth hn0
  refine lv_aload_n hx hb dX6_requireThere_0 rfl (lv_at hl 0 rfl) ?_
  refine va_get (D := Γ.1) (ci := 6) (v := .ref fa) (C := RX6) (T := TX6) (N := 9) hx hb hts hinX6 hown hK.1 hP 0 rfl rfl 0 (by decide) (hts _ mw_209) (fun _ h9 => h9) rfl dX6_requireThere_1 ?_
  refine lv_iload_n hx hb dX6_requireThere_4 rfl (lv_at hl 1 rfl) ?_
  refine ro_fin (va_runVN (As := [.int (nI v0)]) (rest := []) ⟨hx, hb, hml, hown, hts⟩ (c_X0_isThere l Γ _ fa n0 th0 mv0 a e g v0 (hP.sub (ws' := [(fa, .inr (0, [.ref a, .int (nI n0), .int (nI th0), .int (nI mv0)])), (a, .inr (1, [.ref e])), (e, .inl (Γ.2 0, 14, .inl (aN g)))]) [1, 2, 3] rfl) (hw14) (by omega)) (kcwVN 1 hts kv_X0_isThere (hK.nw _ (nwL_at 21 rfl)) (rm_le hR (Nat.le_of_ble_eq_true rfl) (Nat.le_of_ble_eq_true rfl))) (kPc_V hK (va_recv hK.1 hP (ci := 0) (q0 := 1) rfl rfl)) rfl rfl hl.1 rfl (lv_room (Nat.le_of_ble_eq_true rfl)) dX6_requireThere_5 ⟨Nat.zero_le _, Nat.zero_le _⟩) hS (fun locs hS => ?_)
  refine tp_i (y := (bI true)) (by rw [hb0]) ?_
  refine nb_ifb_ne (tgt := 22) hx hb dX6_requireThere_8 (by decide) (fun c_8 => ?_) (fun c_8 => by exfalso; exact absurd c_8 (by decide))
  exact hret () hP hS (trivial) dX6_requireThere_22
set_option maxHeartbeats 8000000 in
set_option maxRecDepth 100000 in
theorem c_X6_requireSlot_a (l : Launch) (Γ : kG) (s0 : Nat) (hs0 : s0 < 2) : WRv l yX6_requireSlot (wsq yX6_requireSlot cX6_requireSlot 1 none) (rmL 1) Γ [.int (nI s0)] [] (fun u : Unit => []) (fun u : Unit => True) := by
  refine wr_ofv (cc := cX6_requireSlot) (maxL := 1) (by decide +kernel) (Nat.le_of_ble_eq_true rfl) rfl ?_
  intro p ev R st mi args below meth cd Q A ls C0 hR hret hP hD hS hl
  obtain ⟨hx, hb, hr, hml, hown, hts, hlk, hK, hnm⟩ := C0
  have hown : st.vm.findClass RX6 = some mi.cls := hown
  refine lv_iload_n hx hb dX6_requireSlot_0 rfl (lv_at hl 0 rfl) ?_
  refine nb_if_lt (tgt := 9) hx hb (by first | omega | assumption) dX6_requireSlot_1 (by decide) ?_
  refine lv_iload_n hx hb dX6_requireSlot_4 rfl (lv_at hl 0 rfl) ?_
  refine lv_iconst (v := (nI 2)) hx hb dX6_requireSlot_5 (by decide) ?_
  refine nb_icmp_lt (tgt := 20) hx hb (by first | omega | assumption) (by first | omega | assumption) dX6_requireSlot_6 (by decide) (fun c_6 => ?_) (fun c_6 => by exfalso; omega)
  exact hret () hP hS (trivial) dX6_requireSlot_20
set_option maxHeartbeats 8000000 in
set_option maxRecDepth 100000 in
theorem c_X6_requireBelow_a (l : Launch) (Γ : kG) (w0 : Nat) (b0 : Nat) (hw0 : w0 < b0) (hb0 : b0 < 2147483648) : WRv l yX6_requireBelow (wsq yX6_requireBelow cX6_requireBelow 2 none) (rmL 1) Γ [.int (nI w0), .int (nI b0)] [] (fun u : Unit => []) (fun u : Unit => True) := by
  refine wr_ofv (cc := cX6_requireBelow) (maxL := 2) (by decide +kernel) (Nat.le_of_ble_eq_true rfl) rfl ?_
  intro p ev R st mi args below meth cd Q A ls C0 hR hret hP hD hS hl
  obtain ⟨hx, hb, hr, hml, hown, hts, hlk, hK, hnm⟩ := C0
  have hown : st.vm.findClass RX6 = some mi.cls := hown
  refine lv_iload_n hx hb dX6_requireBelow_0 rfl (lv_at hl 0 rfl) ?_
  refine nb_if_lt (tgt := 9) hx hb (by first | omega | assumption) dX6_requireBelow_1 (by decide) ?_
  refine lv_iload_n hx hb dX6_requireBelow_4 rfl (lv_at hl 0 rfl) ?_
  refine lv_iload_n hx hb dX6_requireBelow_5 rfl (lv_at hl 1 rfl) ?_
  refine nb_icmp_lt (tgt := 20) hx hb (by omega) (by omega) dX6_requireBelow_6 (by decide) (fun c_6 => ?_) (fun c_6 => by exfalso; omega)
  exact hret () hP hS (trivial) dX6_requireBelow_20
set_option maxHeartbeats 8000000 in
set_option maxRecDepth 100000 in
theorem c_X6_append_a (l : Launch) (Γ : kG) (xa : Nat) (xs : Nat) (xk : Nat) (ha : Nat) (ta : Nat) (sa : Nat) (oa : Nat) (pa : Nat) (ja : Nat) (fa : Nat) (tc : Nat) (sz0 : Nat) (tx : Nat → Nat) (c0 : Nat) (h33 : 33 ≤ c0) (h126 : c0 ≤ 126) (hsz : sz0 < 14) : WRi l yX6_append (wsq yX6_append cX6_append 2 (some .int)) (rmL 2) Γ [.ref xa, .int (nI c0)] [(xa, .inr (6, [.ref fa, .ref xs, .ref xk, .ref ha, .ref ta, .ref sa, .ref oa, .ref pa, .ref ja])), (ta, .inr (5, [.ref tc, .int (nI sz0)])), (tc, .inl (Γ.2 0, 14, .inl (aN tx)))] (fun u : Unit => [(xa, .inr (6, [.ref fa, .ref xs, .ref xk, .ref ha, .ref ta, .ref sa, .ref oa, .ref pa, .ref ja])), (ta, .inr (5, [.ref tc, .int (nI (sz0 + 1))])), (tc, .inl (Γ.2 0, 14, .inl (aN (upN tx sz0 c0))))]) (fun (r : Int32) (u : Unit) => r = (nI (sz0 + 1))) := by
  refine wr_ofi (cc := cX6_append) (maxL := 2) (by decide +kernel) (Nat.le_of_ble_eq_true rfl) rfl ?_
  intro p ev R st mi args below meth cd Q A ls C0 hR hret hP hD hS hl
  obtain ⟨hx, hb, hr, hml, hown, hts, hlk, hK, hnm⟩ := C0
  have hown : st.vm.findClass RX6 = some mi.cls := hown
  refine lv_iload_n hx hb dX6_append_0 rfl (lv_at hl 1 rfl) ?_
  refine lv_bipush (v := (nI 33)) hx hb dX6_append_1 (by decide) ?_
  refine nb_icmp_lt (tgt := 12) hx hb (by first | omega | assumption) (by first | omega | assumption) dX6_append_3 (by decide) (fun c_3 => by exfalso; omega) (fun c_3 => ?_)
  refine lv_iload_n hx hb dX6_append_6 rfl (lv_at hl 1 rfl) ?_
  refine lv_bipush (v := (nI 126)) hx hb dX6_append_7 (by decide) ?_
  refine nb_icmp_le (tgt := 22) hx hb (by first | omega | assumption) (by first | omega | assumption) dX6_append_9 (by decide) (fun c_9 => ?_) (fun c_9 => by exfalso; omega)
  refine lv_aload_n hx hb dX6_append_22 rfl (lv_at hl 0 rfl) ?_
  refine va_get (D := Γ.1) (ci := 6) (v := .ref ta) (C := RX6) (T := TX6) (N := 9) hx hb hts hinX6 hown hK.1 hP 0 rfl rfl 4 (by decide) (hts _ mw_219) (fun _ h9 => h9) rfl dX6_append_23 ?_
  refine va_getN (host := "TreeKayles") (D := Γ.1) (ci := 5) (v := .int (nI sz0)) (C := RX5) (T := TX5) (N := 2) hx hb hts hinX5 hown hK.1 hP 1 rfl rfl 1 (by decide) (va_Nw.use rfl (hK.nw _ (nwL_at 1 rfl))) (fun _ h9 => h9) rfl dX6_append_26 ?_
  refine lv_bipush (v := (nI 14)) hx hb dX6_append_29 (by decide) ?_
  refine nb_icmp_lt (tgt := 44) hx hb (by first | omega | assumption) (by first | omega | assumption) dX6_append_31 (by decide) (fun c_31 => ?_) (fun c_31 => by exfalso; omega)
  refine lv_aload_n hx hb dX6_append_44 rfl (lv_at hl 0 rfl) ?_
  refine va_get (D := Γ.1) (ci := 6) (v := .ref ta) (C := RX6) (T := TX6) (N := 9) hx hb hts hinX6 hown hK.1 hP 0 rfl rfl 4 (by decide) (hts _ mw_219) (fun _ h9 => h9) rfl dX6_append_45 ?_
  refine lv_iload_n hx hb dX6_append_48 rfl (lv_at hl 1 rfl) ?_
  refine wr_finv (va_runVN (As := [.int (nI c0)]) (rest := []) ⟨hx, hb, hml, hown, hts⟩ (c_X5_put l Γ ta tc sz0 tx c0 (by first | omega | assumption)) (kcwVN 1 hts kv_X5_put (hK.nw _ (nwL_at 11 rfl)) (rm_le hR (Nat.le_of_ble_eq_true rfl) (Nat.le_of_ble_eq_true rfl))) (kPw_V hK (va_recv hK.1 hP (ci := 5) (q0 := 1) rfl rfl) (hP.sub (ws' := [(ta, .inr (5, [.ref tc, .int (nI sz0)])), (tc, .inl (Γ.2 0, 14, .inl (aN tx)))]) [1, 2] rfl) (hD.sub (ws' := [(ta, .inr (5, [.ref tc, .int (nI sz0)])), (tc, .inl (Γ.2 0, 14, .inl (aN tx)))]) [1, 2] (by decide) rfl)) rfl rfl hl.1 rfl (lv_room (Nat.le_of_ble_eq_true rfl)) dX6_append_49 ⟨Nat.zero_le _, Nat.zero_le _⟩) hP hD hS [1, 2] rfl (fun _ => rfl) (fun _ H locs hw hP hD hS => ?_)
  have hP : va_P Γ.1 vwCl [(xa, .inr (6, [.ref fa, .ref xs, .ref xk, .ref ha, .ref ta, .ref sa, .ref oa, .ref pa, .ref ja])), (ta, .inr (5, [.ref tc, .int (nI (sz0 + 1))])), (tc, .inl (Γ.2 0, 14, .inl (aN (upN tx sz0 c0))))] H := hP
  have hD : va_D A [(xa, .inr (6, [.ref fa, .ref xs, .ref xk, .ref ha, .ref ta, .ref sa, .ref oa, .ref pa, .ref ja])), (ta, .inr (5, [.ref tc, .int (nI (sz0 + 1))])), (tc, .inl (Γ.2 0, 14, .inl (aN (upN tx sz0 c0))))] := hD
  refine lv_aload_n hx hb dX6_append_52 rfl (lv_at hl 0 rfl) ?_
  refine va_get (D := Γ.1) (ci := 6) (v := .ref ta) (C := RX6) (T := TX6) (N := 9) hx hb hts hinX6 hown hK.1 hP 0 rfl rfl 4 (by decide) (hts _ mw_219) (fun _ h9 => h9) rfl dX6_append_53 ?_
  refine va_getN (host := "TreeKayles") (D := Γ.1) (ci := 5) (v := .int (nI (sz0 + 1))) (C := RX5) (T := TX5) (N := 2) hx hb hts hinX5 hown hK.1 hP 1 rfl rfl 1 (by decide) (va_Nw.use rfl (hK.nw _ (nwL_at 1 rfl))) (fun _ h9 => h9) rfl dX6_append_56 ?_
  exact hret () hP hS (rfl) dX6_append_59
