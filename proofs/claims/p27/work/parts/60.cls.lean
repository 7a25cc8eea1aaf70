set_option maxHeartbeats 8000000 in
set_option maxRecDepth 100000 in
theorem c_X6_outcomesNow (l : Launch) (Γ : kG) (xa : Nat) (xs : Nat) (xk : Nat) (ha : Nat) (ta : Nat) (sa : Nat) (oa : Nat) (pa : Nat) (ja : Nat) (fa : Nat) (n0 : Nat) (th0 : Nat) (mv0 : Nat) (a : Nat) (e : Nat) (g : Nat → Nat) (oz : Nat) (oe : Nat) (oq : Nat) (og : Nat → Nat) (ff : Nat → Nat) (hfg : FG g) (hn0 : n0 ≤ 14) (hth : th0 < 2 ^ n0) (hog : ∀ i, i < 14 → og i < 16384) (hok : okF og ff) : WRr l yX6_outcomesNow (wsq yX6_outcomesNow cX6_outcomesNow 1 (some (.object "TreeKayles$Outcomes"))) (rmL 5) Γ [.ref xa] [(xa, .inr (6, [.ref fa, .ref xs, .ref xk, .ref ha, .ref ta, .ref sa, .ref oa, .ref pa, .ref ja])), (fa, .inr (0, [.ref a, .int (nI n0), .int (nI th0), .int (nI mv0)])), (a, .inr (1, [.ref e])), (e, .inl (Γ.2 0, 14, .inl (aN g))), (oa, .inr (3, [.ref oz, .ref oq])), (oz, .inr (1, [.ref oe])), (oe, .inl (Γ.2 0, 14, .inl (aN og))), (oq, .inl (Γ.2 0, 16384, .inl (aN ff)))] (fun u : (Nat → Nat) × (Nat → Nat) => [(xa, .inr (6, [.ref fa, .ref xs, .ref xk, .ref ha, .ref ta, .ref sa, .ref oa, .ref pa, .ref ja])), (fa, .inr (0, [.ref a, .int (nI n0), .int (nI th0), .int (nI mv0)])), (a, .inr (1, [.ref e])), (e, .inl (Γ.2 0, 14, .inl (aN g))), (oa, .inr (3, [.ref oz, .ref oq])), (oz, .inr (1, [.ref oe])), (oe, .inl (Γ.2 0, 14, .inl (aN u.1))), (oq, .inl (Γ.2 0, 16384, .inl (aN u.2)))]) oa (fun u : (Nat → Nat) × (Nat → Nat) => okF u.1 u.2 ∧ (∀ i, i < 14 → u.1 i = g i)) := by
  refine wr_ofr (cc := cX6_outcomesNow) (maxL := 1) (by decide +kernel) (Nat.le_of_ble_eq_true rfl) rfl ?_
  intro p ev R st mi args below meth cd Q A ls C0 hR hret hP hD hS hl
  obtain ⟨hx, hb, hr, hml, hown, hts, hlk, hK, hnm⟩ := C0
  have hown : st.vm.findClass RX6 = some mi.cls := hown
  refine lv_aload_n hx hb dX6_outcomesNow_0 rfl (lv_at hl 0 rfl) ?_
  refine va_get (D := Γ.1) (ci := 6) (v := .ref oa) (C := RX6) (T := TX6) (N := 9) hx hb hts hinX6 hown hK.1 hP 0 rfl rfl 6 (by decide) (hts _ mw_225) (fun _ h9 => h9) rfl dX6_outcomesNow_1 ?_
  refine lv_aload_n hx hb dX6_outcomesNow_4 rfl (lv_at hl 0 rfl) ?_
  refine va_get (D := Γ.1) (ci := 6) (v := .ref fa) (C := RX6) (T := TX6) (N := 9) hx hb hts hinX6 hown hK.1 hP 0 rfl rfl 0 (by decide) (hts _ mw_209) (fun _ h9 => h9) rfl dX6_outcomesNow_5 ?_
  refine va_getN (host := "TreeKayles") (D := Γ.1) (ci := 0) (v := .ref a) (C := RX0) (T := TX0) (N := 4) hx hb hts hinX0 hown hK.1 hP 1 rfl rfl 0 (by decide) (va_Nw.use rfl (hK.nw _ (nwL_at 5 rfl))) (fun _ h9 => h9) rfl dX6_outcomesNow_8 ?_
  refine wr_finv (va_runVN (As := [.ref a]) (rest := []) ⟨hx, hb, hml, hown, hts⟩ (c_X3_follow l Γ oa oz oe oq og ff a e g (hog) (hfg.1) (by first | omega | assumption)) (kcwVN 1 hts kv_X3_follow (hK.nw _ (nwL_at 33 rfl)) (rm_le hR (Nat.le_of_ble_eq_true rfl) (Nat.le_of_ble_eq_true rfl))) (kPw_V hK (va_recv hK.1 hP (ci := 3) (q0 := 4) rfl rfl) (hP.sub (ws' := [(oa, .inr (3, [.ref oz, .ref oq])), (oz, .inr (1, [.ref oe])), (oe, .inl (Γ.2 0, 14, .inl (aN og))), (oq, .inl (Γ.2 0, 16384, .inl (aN ff))), (a, .inr (1, [.ref e])), (e, .inl (Γ.2 0, 14, .inl (aN g)))]) [4, 5, 6, 7, 2, 3] rfl) (hD.sub (ws' := [(oa, .inr (3, [.ref oz, .ref oq])), (oz, .inr (1, [.ref oe])), (oe, .inl (Γ.2 0, 14, .inl (aN og))), (oq, .inl (Γ.2 0, 16384, .inl (aN ff))), (a, .inr (1, [.ref e])), (e, .inl (Γ.2 0, 14, .inl (aN g)))]) [4, 5, 6, 7, 2, 3] (by decide) rfl)) rfl rfl hl.1 rfl (lv_room (Nat.le_of_ble_eq_true rfl)) dX6_outcomesNow_11 ⟨Nat.zero_le _, Nat.zero_le _⟩) hP hD hS [4, 5, 6, 7, 2, 3] rfl (fun _ => rfl) (fun u H locs hw hP hD hS => ?_)
  obtain ⟨g7, f7⟩ := u
  try dsimp only at hw
  obtain ⟨hk7, he7⟩ := hw
  have hP : va_P Γ.1 vwCl [(xa, .inr (6, [.ref fa, .ref xs, .ref xk, .ref ha, .ref ta, .ref sa, .ref oa, .ref pa, .ref ja])), (fa, .inr (0, [.ref a, .int (nI n0), .int (nI th0), .int (nI mv0)])), (a, .inr (1, [.ref e])), (e, .inl (Γ.2 0, 14, .inl (aN g))), (oa, .inr (3, [.ref oz, .ref oq])), (oz, .inr (1, [.ref oe])), (oe, .inl (Γ.2 0, 14, .inl (aN g7))), (oq, .inl (Γ.2 0, 16384, .inl (aN f7)))] H := hP
  have hD : va_D A [(xa, .inr (6, [.ref fa, .ref xs, .ref xk, .ref ha, .ref ta, .ref sa, .ref oa, .ref pa, .ref ja])), (fa, .inr (0, [.ref a, .int (nI n0), .int (nI th0), .int (nI mv0)])), (a, .inr (1, [.ref e])), (e, .inl (Γ.2 0, 14, .inl (aN g))), (oa, .inr (3, [.ref oz, .ref oq])), (oz, .inr (1, [.ref oe])), (oe, .inl (Γ.2 0, 14, .inl (aN g7))), (oq, .inl (Γ.2 0, 16384, .inl (aN f7)))] := hD
  refine lv_aload_n hx hb dX6_outcomesNow_14 rfl (lv_at hl 0 rfl) ?_
  refine va_get (D := Γ.1) (ci := 6) (v := .ref oa) (C := RX6) (T := TX6) (N := 9) hx hb hts hinX6 hown hK.1 hP 0 rfl rfl 6 (by decide) (hts _ mw_225) (fun _ h9 => h9) rfl dX6_outcomesNow_15 ?_
  exact hret (g7, f7) hP hS (⟨hk7, he7⟩) dX6_outcomesNow_18
set_option maxHeartbeats 8000000 in
set_option maxRecDepth 100000 in
theorem c_X6_isWinning (l : Launch) (Γ : kG) (xa : Nat) (xs : Nat) (xk : Nat) (ha : Nat) (ta : Nat) (sa : Nat) (oa : Nat) (pa : Nat) (ja : Nat) (fa : Nat) (n0 : Nat) (th0 : Nat) (mv0 : Nat) (a : Nat) (e : Nat) (g : Nat → Nat) (oz : Nat) (oe : Nat) (oq : Nat) (og : Nat → Nat) (ff : Nat → Nat) (v0 : Nat) (hfg : FG g) (hn0 : n0 ≤ 14) (hth : th0 < 2 ^ n0) (hog : ∀ i, i < 14 → og i < 16384) (hok : okF og ff) (hv0 : v0 < n0) : WRi l yX6_isWinning (wsq yX6_isWinning cX6_isWinning 2 (some .boolean)) (rmL 36) Γ [.ref xa, .int (nI v0)] [(xa, .inr (6, [.ref fa, .ref xs, .ref xk, .ref ha, .ref ta, .ref sa, .ref oa, .ref pa, .ref ja])), (fa, .inr (0, [.ref a, .int (nI n0), .int (nI th0), .int (nI mv0)])), (a, .inr (1, [.ref e])), (e, .inl (Γ.2 0, 14, .inl (aN g))), (oa, .inr (3, [.ref oz, .ref oq])), (oz, .inr (1, [.ref oe])), (oe, .inl (Γ.2 0, 14, .inl (aN og))), (oq, .inl (Γ.2 0, 16384, .inl (aN ff)))] (fun u : (Nat → Nat) × (Nat → Nat) => [(xa, .inr (6, [.ref fa, .ref xs, .ref xk, .ref ha, .ref ta, .ref sa, .ref oa, .ref pa, .ref ja])), (fa, .inr (0, [.ref a, .int (nI n0), .int (nI th0), .int (nI mv0)])), (a, .inr (1, [.ref e])), (e, .inl (Γ.2 0, 14, .inl (aN g))), (oa, .inr (3, [.ref oz, .ref oq])), (oz, .inr (1, [.ref oe])), (oe, .inl (Γ.2 0, 14, .inl (aN u.1))), (oq, .inl (Γ.2 0, 16384, .inl (aN u.2)))]) (fun (r : Int32) (u : (Nat → Nat) × (Nat → Nat)) => r = (bI (wnP g th0 v0)) ∧ okF u.1 u.2 ∧ (∀ i, i < 14 → u.1 i < 16384)) := by
  refine wr_ofz (cc := cX6_isWinning) (maxL := 2) (by decide +kernel) (Nat.le_of_ble_eq_true rfl) rfl ?_
  intro p ev R st mi args below meth cd Q A ls C0 hR hret hP hD hS hl
  obtain ⟨hx, hb, hr, hml, hown, hts, hlk, hK, hnm⟩ := C0
  have hown : st.vm.findClass RX6 = some mi.cls := hown
  have hw14 := w14 hth hn0
  refine lv_aload_n hx hb dX6_isWinning_0 rfl (lv_at hl 0 rfl) ?_
  refine va_get (D := Γ.1) (ci := 6) (v := .ref fa) (C := RX6) (T := TX6) (N := 9) hx hb hts hinX6 hown hK.1 hP 0 rfl rfl 0 (by decide) (hts _ mw_209) (fun _ h9 => h9) rfl dX6_isWinning_1 ?_
  refine lv_iload_n hx hb dX6_isWinning_4 rfl (lv_at hl 1 rfl) ?_
  refine ro_fin (va_runVN (As := [.int (nI v0)]) (rest := []) ⟨hx, hb, hml, hown, hts⟩ (c_X0_isThere l Γ _ fa n0 th0 mv0 a e g v0 (hP.sub (ws' := [(fa, .inr (0, [.ref a, .int (nI n0), .int (nI th0), .int (nI mv0)])), (a, .inr (1, [.ref e])), (e, .inl (Γ.2 0, 14, .inl (aN g)))]) [1, 2, 3] rfl) (hw14) (by omega)) (kcwVN 1 hts kv_X0_isThere (hK.nw _ (nwL_at 21 rfl)) (rm_le hR (Nat.le_of_ble_eq_true rfl) (Nat.le_of_ble_eq_true rfl))) (kPc_V hK (va_recv hK.1 hP (ci := 0) (q0 := 1) rfl rfl)) rfl rfl hl.1 rfl (lv_room (Nat.le_of_ble_eq_true rfl)) dX6_isWinning_5 ⟨Nat.zero_le _, Nat.zero_le _⟩) hS (fun locs hS => ?_)
  refine nb_ifb_eq (tgt := 33) hx hb dX6_isWinning_8 (by decide) (fun c_8 => ?_) (fun c_8 => ?_)
  · skip
    refine lv_iconst (v := (nI 0)) hx hb dX6_isWinning_33 (by decide) ?_
    exact hret (og, ff) hP hS (⟨by first | (rw [wnP, c_8]; rfl) | (rw [wnP, c_8, decide_eq_false c_26]; rfl) | (rw [wnP, c_8, decide_eq_true c_26]; rfl), hok, hog⟩) ⟨false, rfl⟩ dX6_isWinning_34
  · skip
    refine lv_aload_n hx hb dX6_isWinning_11 rfl (lv_at hl 0 rfl) ?_
    refine wr_finr (va_runV (As := []) (rest := []) ⟨hx, hb, hml, hown, hts⟩ (c_X6_outcomesNow l Γ xa xs xk ha ta sa oa pa ja fa n0 th0 mv0 a e g oz oe oq og ff (by first | omega | assumption) (by first | omega | assumption) (by first | omega | assumption) (by first | omega | assumption) (by first | omega | assumption)) (kcwV 0 hts kv_X6_outcomesNow mw_275 (rm_le hR (Nat.le_of_ble_eq_true rfl) (Nat.le_of_ble_eq_true rfl))) (kPw_V hK (va_recv hK.1 hP (ci := 6) (q0 := 0) rfl rfl) (hP.sub (ws' := [(xa, .inr (6, [.ref fa, .ref xs, .ref xk, .ref ha, .ref ta, .ref sa, .ref oa, .ref pa, .ref ja])), (fa, .inr (0, [.ref a, .int (nI n0), .int (nI th0), .int (nI mv0)])), (a, .inr (1, [.ref e])), (e, .inl (Γ.2 0, 14, .inl (aN g))), (oa, .inr (3, [.ref oz, .ref oq])), (oz, .inr (1, [.ref oe])), (oe, .inl (Γ.2 0, 14, .inl (aN og))), (oq, .inl (Γ.2 0, 16384, .inl (aN ff)))]) [0, 1, 2, 3, 4, 5, 6, 7] rfl) (hD.sub (ws' := [(xa, .inr (6, [.ref fa, .ref xs, .ref xk, .ref ha, .ref ta, .ref sa, .ref oa, .ref pa, .ref ja])), (fa, .inr (0, [.ref a, .int (nI n0), .int (nI th0), .int (nI mv0)])), (a, .inr (1, [.ref e])), (e, .inl (Γ.2 0, 14, .inl (aN g))), (oa, .inr (3, [.ref oz, .ref oq])), (oz, .inr (1, [.ref oe])), (oe, .inl (Γ.2 0, 14, .inl (aN og))), (oq, .inl (Γ.2 0, 16384, .inl (aN ff)))]) [0, 1, 2, 3, 4, 5, 6, 7] (by decide) rfl)) rfl rfl hl.1 rfl (lv_room (Nat.le_of_ble_eq_true rfl)) dX6_isWinning_12 ⟨Nat.zero_le _, Nat.zero_le _⟩) hP hD hS [0, 1, 2, 3, 4, 5, 6, 7] rfl (fun _ => rfl) (fun u H locs hw hP hD hS => ?_)
    obtain ⟨g7, f7⟩ := u
    try dsimp only at hw
    obtain ⟨hk7, he7⟩ := hw
    have hP : va_P Γ.1 vwCl [(xa, .inr (6, [.ref fa, .ref xs, .ref xk, .ref ha, .ref ta, .ref sa, .ref oa, .ref pa, .ref ja])), (fa, .inr (0, [.ref a, .int (nI n0), .int (nI th0), .int (nI mv0)])), (a, .inr (1, [.ref e])), (e, .inl (Γ.2 0, 14, .inl (aN g))), (oa, .inr (3, [.ref oz, .ref oq])), (oz, .inr (1, [.ref oe])), (oe, .inl (Γ.2 0, 14, .inl (aN g7))), (oq, .inl (Γ.2 0, 16384, .inl (aN f7)))] H := hP
    have hD : va_D A [(xa, .inr (6, [.ref fa, .ref xs, .ref xk, .ref ha, .ref ta, .ref sa, .ref oa, .ref pa, .ref ja])), (fa, .inr (0, [.ref a, .int (nI n0), .int (nI th0), .int (nI mv0)])), (a, .inr (1, [.ref e])), (e, .inl (Γ.2 0, 14, .inl (aN g))), (oa, .inr (3, [.ref oz, .ref oq])), (oz, .inr (1, [.ref oe])), (oe, .inl (Γ.2 0, 14, .inl (aN g7))), (oq, .inl (Γ.2 0, 16384, .inl (aN f7)))] := hD
    refine lv_aload_n hx hb dX6_isWinning_15 rfl (lv_at hl 0 rfl) ?_
    refine va_get (D := Γ.1) (ci := 6) (v := .ref fa) (C := RX6) (T := TX6) (N := 9) hx hb hts hinX6 hown hK.1 hP 0 rfl rfl 0 (by decide) (hts _ mw_209) (fun _ h9 => h9) rfl dX6_isWinning_16 ?_
    refine lv_iload_n hx hb dX6_isWinning_19 rfl (lv_at hl 1 rfl) ?_
    refine ro_fin (va_runVN (As := [.int (nI v0)]) (rest := [.ref oa]) ⟨hx, hb, hml, hown, hts⟩ (c_X0_leftAfter l Γ _ fa n0 th0 mv0 a e g v0 (hP.sub (ws' := [(fa, .inr (0, [.ref a, .int (nI n0), .int (nI th0), .int (nI mv0)])), (a, .inr (1, [.ref e])), (e, .inl (Γ.2 0, 14, .inl (aN g)))]) [1, 2, 3] rfl) (by omega)) (kcwVN 1 hts kv_X0_leftAfter (hK.nw _ (nwL_at 24 rfl)) (rm_le hR (Nat.le_of_ble_eq_true rfl) (Nat.le_of_ble_eq_true rfl))) (kPc_V hK (va_recv hK.1 hP (ci := 0) (q0 := 1) rfl rfl)) rfl rfl hl.1 rfl (lv_room (Nat.le_of_ble_eq_true rfl)) dX6_isWinning_20 ⟨Nat.zero_le _, Nat.zero_le _⟩) hS (fun locs hS => ?_)
    refine wr_fini (va_runVN (As := [.int (nI (lft g th0 v0))]) (rest := []) ⟨hx, hb, hml, hown, hts⟩ (c_X3_valueFor l Γ oa oz oe oq g7 f7 (lft g th0 v0) (eqG_lt he7 hfg.1) (symG_g (eqG_s he7) hfg.2.1) (hk7) (lft_lt _ hw14)) (kcwVN 1 hts kv_X3_valueFor (hK.nw _ (nwL_at 25 rfl)) (rm_le hR (Nat.le_of_ble_eq_true rfl) (Nat.le_of_ble_eq_true rfl))) (kPw_V hK (va_recv hK.1 hP (ci := 3) (q0 := 4) rfl rfl) (hP.sub (ws' := [(oa, .inr (3, [.ref oz, .ref oq])), (oz, .inr (1, [.ref oe])), (oe, .inl (Γ.2 0, 14, .inl (aN g7))), (oq, .inl (Γ.2 0, 16384, .inl (aN f7)))]) [4, 5, 6, 7] rfl) (hD.sub (ws' := [(oa, .inr (3, [.ref oz, .ref oq])), (oz, .inr (1, [.ref oe])), (oe, .inl (Γ.2 0, 14, .inl (aN g7))), (oq, .inl (Γ.2 0, 16384, .inl (aN f7)))]) [4, 5, 6, 7] (by decide) rfl)) rfl rfl hl.1 rfl (lv_room (Nat.le_of_ble_eq_true rfl)) dX6_isWinning_23 ⟨Nat.zero_le _, Nat.zero_le _⟩) hP hD hS [4, 5, 6, 7] rfl (fun _ => rfl) (fun r f6 H locs hw hP hD hS => ?_)
    obtain ⟨rfl, hk6⟩ := hw
    have hP : va_P Γ.1 vwCl [(xa, .inr (6, [.ref fa, .ref xs, .ref xk, .ref ha, .ref ta, .ref sa, .ref oa, .ref pa, .ref ja])), (fa, .inr (0, [.ref a, .int (nI n0), .int (nI th0), .int (nI mv0)])), (a, .inr (1, [.ref e])), (e, .inl (Γ.2 0, 14, .inl (aN g))), (oa, .inr (3, [.ref oz, .ref oq])), (oz, .inr (1, [.ref oe])), (oe, .inl (Γ.2 0, 14, .inl (aN g7))), (oq, .inl (Γ.2 0, 16384, .inl (aN f6)))] H := hP
    have hD : va_D A [(xa, .inr (6, [.ref fa, .ref xs, .ref xk, .ref ha, .ref ta, .ref sa, .ref oa, .ref pa, .ref ja])), (fa, .inr (0, [.ref a, .int (nI n0), .int (nI th0), .int (nI mv0)])), (a, .inr (1, [.ref e])), (e, .inl (Γ.2 0, 14, .inl (aN g))), (oa, .inr (3, [.ref oz, .ref oq])), (oz, .inr (1, [.ref oe])), (oe, .inl (Γ.2 0, 14, .inl (aN g7))), (oq, .inl (Γ.2 0, 16384, .inl (aN f6)))] := hD
    refine tp_i (y := (nI (V g (lft g th0 v0)))) (by rw [V_g he7]) ?_
    refine nb_if_ne (tgt := 33) hx hb (Nat.lt_trans (V_16 _ _) (by decide)) dX6_isWinning_26 (by decide) (fun c_26 => ?_) (fun c_26 => ?_)
    · skip
      refine lv_iconst (v := (nI 0)) hx hb dX6_isWinning_33 (by decide) ?_
      exact hret (g7, f6) hP hS (⟨by first | (rw [wnP, c_8]; rfl) | (rw [wnP, c_8, decide_eq_false c_26]; rfl) | (rw [wnP, c_8, decide_eq_true c_26]; rfl), hk6, eqG_lt he7 hfg.1⟩) ⟨false, rfl⟩ dX6_isWinning_34
    · skip
      refine lv_iconst (v := (nI 1)) hx hb dX6_isWinning_29 (by decide) ?_
      refine lv_goto (tgt := 34) hx hb dX6_isWinning_30 (by decide) ?_
      exact hret (g7, f6) hP hS (⟨by first | (rw [wnP, c_8]; rfl) | (rw [wnP, c_8, decide_eq_false c_26]; rfl) | (rw [wnP, c_8, decide_eq_true c_26]; rfl), hk6, eqG_lt he7 hfg.1⟩) ⟨true, rfl⟩ dX6_isWinning_34
set_option maxHeartbeats 8000000 in
set_option maxRecDepth 100000 in
theorem c_X6_lowestWinning (l : Launch) (Γ : kG) (xa : Nat) (xs : Nat) (xk : Nat) (ha : Nat) (ta : Nat) (sa : Nat) (oa : Nat) (pa : Nat) (ja : Nat) (fa : Nat) (n0 : Nat) (th0 : Nat) (mv0 : Nat) (a : Nat) (e : Nat) (g : Nat → Nat) (oz : Nat) (oe : Nat) (oq : Nat) (og : Nat → Nat) (ff : Nat → Nat) (hfg : FG g) (hn0 : n0 ≤ 14) (hth : th0 < 2 ^ n0) (hog : ∀ i, i < 14 → og i < 16384) (hok : okF og ff) : WRi l yX6_lowestWinning (wsq yX6_lowestWinning cX6_lowestWinning 2 (some .int)) (rmL 37) Γ [.ref xa] [(xa, .inr (6, [.ref fa, .ref xs, .ref xk, .ref ha, .ref ta, .ref sa, .ref oa, .ref pa, .ref ja])), (fa, .inr (0, [.ref a, .int (nI n0), .int (nI th0), .int (nI mv0)])), (a, .inr (1, [.ref e])), (e, .inl (Γ.2 0, 14, .inl (aN g))), (oa, .inr (3, [.ref oz, .ref oq])), (oz, .inr (1, [.ref oe])), (oe, .inl (Γ.2 0, 14, .inl (aN og))), (oq, .inl (Γ.2 0, 16384, .inl (aN ff)))] (fun u : (Nat → Nat) × (Nat → Nat) => [(xa, .inr (6, [.ref fa, .ref xs, .ref xk, .ref ha, .ref ta, .ref sa, .ref oa, .ref pa, .ref ja])), (fa, .inr (0, [.ref a, .int (nI n0), .int (nI th0), .int (nI mv0)])), (a, .inr (1, [.ref e])), (e, .inl (Γ.2 0, 14, .inl (aN g))), (oa, .inr (3, [.ref oz, .ref oq])), (oz, .inr (1, [.ref oe])), (oe, .inl (Γ.2 0, 14, .inl (aN u.1))), (oq, .inl (Γ.2 0, 16384, .inl (aN u.2)))]) (fun (r : Int32) (u : (Nat → Nat) × (Nat → Nat)) => r = (bst (wnP g th0) n0) ∧ okF u.1 u.2 ∧ (∀ i, i < 14 → u.1 i < 16384)) := by
  refine wr_ofi (cc := cX6_lowestWinning) (maxL := 2) (by decide +kernel) (Nat.le_of_ble_eq_true rfl) rfl ?_
  intro p ev R st mi args below meth cd Q A ls C0 hR hret hP hD hS hl
  obtain ⟨hx, hb, hr, hml, hown, hts, hlk, hK, hnm⟩ := C0
  have hown : st.vm.findClass RX6 = some mi.cls := hown
  refine lv_iconst (v := (nI 0)) hx hb dX6_lowestWinning_0 (by decide) ?_
  refine lv_istore_n (lv' := [(1, .int (nI 0)), (0, .ref xa)]) hx hb dX6_lowestWinning_1 rfl hl (by decide) rfl (fun ls hl => ?_)
  have LP2 : ∀ (fu : Nat) (k1 : Nat) (g8 : Nat → Nat) (f8 : Nat → Nat) (hk1 : k1 ≤ n0) (hs1 : ∀ i, i < k1 → (wnP g th0) i = false) (hog8 : ∀ i, i < 14 → g8 i < 16384) (hok8 : okF g8 f8), (n0 - k1) < fu → ∀ (H : Heap) (locs : List Loc), va_P Γ.1 vwCl [(xa, .inr (6, [.ref fa, .ref xs, .ref xk, .ref ha, .ref ta, .ref sa, .ref oa, .ref pa, .ref ja])), (fa, .inr (0, [.ref a, .int (nI n0), .int (nI th0), .int (nI mv0)])), (a, .inr (1, [.ref e])), (e, .inl (Γ.2 0, 14, .inl (aN g))), (oa, .inr (3, [.ref oz, .ref oq])), (oz, .inr (1, [.ref oe])), (oe, .inl (Γ.2 0, 14, .inl (aN g8))), (oq, .inl (Γ.2 0, 16384, .inl (aN f8)))] H → va_D A [(xa, .inr (6, [.ref fa, .ref xs, .ref xk, .ref ha, .ref ta, .ref sa, .ref oa, .ref pa, .ref ja])), (fa, .inr (0, [.ref a, .int (nI n0), .int (nI th0), .int (nI mv0)])), (a, .inr (1, [.ref e])), (e, .inl (Γ.2 0, 14, .inl (aN g))), (oa, .inr (3, [.ref oz, .ref oq])), (oz, .inr (1, [.ref oe])), (oe, .inl (Γ.2 0, 14, .inl (aN g8))), (oq, .inl (Γ.2 0, 16384, .inl (aN f8)))] → va_S A st.heap H locs → ∀ (ls : Array Slot), lv_has ls 2 [(1, .int (nI k1)), (0, .ref xa)] → W p l ev R st mi args below meth cd H locs 0 0 Q (F0 mi 2 ls []) := by
    intro fu
    induction fu with
    | zero => intro k1 g8 f8 hk1 hs1 hog8 hok8 hfu; exact absurd hfu (Nat.not_lt_zero _)
    | succ fu ih2 =>
      intro k1 g8 f8 hk1 hs1 hog8 hok8 hfu H locs hP hD hS ls hl
      refine lv_iload_n hx hb dX6_lowestWinning_2 rfl (lv_at hl 0 rfl) ?_
      refine lv_aload_n hx hb dX6_lowestWinning_3 rfl (lv_at hl 1 rfl) ?_
      refine va_get (D := Γ.1) (ci := 6) (v := .ref fa) (C := RX6) (T := TX6) (N := 9) hx hb hts hinX6 hown hK.1 hP 0 rfl rfl 0 (by decide) (hts _ mw_209) (fun _ h9 => h9) rfl dX6_lowestWinning_4 ?_
      refine va_getN (host := "TreeKayles") (D := Γ.1) (ci := 0) (v := .int (nI n0)) (C := RX0) (T := TX0) (N := 4) hx hb hts hinX0 hown hK.1 hP 1 rfl rfl 1 (by decide) (va_Nw.use rfl (hK.nw _ (nwL_at 4 rfl))) (fun _ h9 => h9) rfl dX6_lowestWinning_7 ?_
      refine nb_icmp_ge (tgt := 29) hx hb (by first | omega | assumption) (by first | omega | assumption) dX6_lowestWinning_10 (by decide) (fun c_10 => ?_) (fun c_10 => ?_)
      · skip
        have he9 : n0 = k1 := by omega
        subst he9
        refine lv_iconst (v := (-1)) hx hb dX6_lowestWinning_29 (by decide) ?_
        exact hret (g8, f8) hP hS (⟨by rw [bst, fst_all hs1, if_neg (Nat.lt_irrefl _)], hok8, hog8⟩) dX6_lowestWinning_30
      · skip
        refine lv_aload_n hx hb dX6_lowestWinning_13 rfl (lv_at hl 1 rfl) ?_
        refine lv_iload_n hx hb dX6_lowestWinning_14 rfl (lv_at hl 0 rfl) ?_
        refine wr_fini (va_runV (As := [.int (nI k1)]) (rest := []) ⟨hx, hb, hml, hown, hts⟩ (c_X6_isWinning l Γ xa xs xk ha ta sa oa pa ja fa n0 th0 mv0 a e g oz oe oq g8 f8 k1 (by first | omega | assumption) (by first | omega | assumption) (by first | omega | assumption) (hog8) (hok8) (by first | omega | assumption)) (kcwV 1 hts kv_X6_isWinning mw_281 (rm_le hR (Nat.le_of_ble_eq_true rfl) (Nat.le_of_ble_eq_true rfl))) (kPw_V hK (va_recv hK.1 hP (ci := 6) (q0 := 0) rfl rfl) (hP.sub (ws' := [(xa, .inr (6, [.ref fa, .ref xs, .ref xk, .ref ha, .ref ta, .ref sa, .ref oa, .ref pa, .ref ja])), (fa, .inr (0, [.ref a, .int (nI n0), .int (nI th0), .int (nI mv0)])), (a, .inr (1, [.ref e])), (e, .inl (Γ.2 0, 14, .inl (aN g))), (oa, .inr (3, [.ref oz, .ref oq])), (oz, .inr (1, [.ref oe])), (oe, .inl (Γ.2 0, 14, .inl (aN g8))), (oq, .inl (Γ.2 0, 16384, .inl (aN f8)))]) [0, 1, 2, 3, 4, 5, 6, 7] rfl) (hD.sub (ws' := [(xa, .inr (6, [.ref fa, .ref xs, .ref xk, .ref ha, .ref ta, .ref sa, .ref oa, .ref pa, .ref ja])), (fa, .inr (0, [.ref a, .int (nI n0), .int (nI th0), .int (nI mv0)])), (a, .inr (1, [.ref e])), (e, .inl (Γ.2 0, 14, .inl (aN g))), (oa, .inr (3, [.ref oz, .ref oq])), (oz, .inr (1, [.ref oe])), (oe, .inl (Γ.2 0, 14, .inl (aN g8))), (oq, .inl (Γ.2 0, 16384, .inl (aN f8)))]) [0, 1, 2, 3, 4, 5, 6, 7] (by decide) rfl)) rfl rfl hl.1 rfl (lv_room (Nat.le_of_ble_eq_true rfl)) dX6_lowestWinning_15 ⟨Nat.zero_le _, Nat.zero_le _⟩) hP hD hS [0, 1, 2, 3, 4, 5, 6, 7] rfl (fun _ => rfl) (fun r u H locs hw hP hD hS => ?_)
        obtain ⟨g7, f7⟩ := u
        try dsimp only at hw
        obtain ⟨rfl, hk7, hg7⟩ := hw
        have hP : va_P Γ.1 vwCl [(xa, .inr (6, [.ref fa, .ref xs, .ref xk, .ref ha, .ref ta, .ref sa, .ref oa, .ref pa, .ref ja])), (fa, .inr (0, [.ref a, .int (nI n0), .int (nI th0), .int (nI mv0)])), (a, .inr (1, [.ref e])), (e, .inl (Γ.2 0, 14, .inl (aN g))), (oa, .inr (3, [.ref oz, .ref oq])), (oz, .inr (1, [.ref oe])), (oe, .inl (Γ.2 0, 14, .inl (aN g7))), (oq, .inl (Γ.2 0, 16384, .inl (aN f7)))] H := hP
        have hD : va_D A [(xa, .inr (6, [.ref fa, .ref xs, .ref xk, .ref ha, .ref ta, .ref sa, .ref oa, .ref pa, .ref ja])), (fa, .inr (0, [.ref a, .int (nI n0), .int (nI th0), .int (nI mv0)])), (a, .inr (1, [.ref e])), (e, .inl (Γ.2 0, 14, .inl (aN g))), (oa, .inr (3, [.ref oz, .ref oq])), (oz, .inr (1, [.ref oe])), (oe, .inl (Γ.2 0, 14, .inl (aN g7))), (oq, .inl (Γ.2 0, 16384, .inl (aN f7)))] := hD
        refine nb_ifb_eq (tgt := 23) hx hb dX6_lowestWinning_18 (by decide) (fun c_18 => ?_) (fun c_18 => ?_)
        · skip
          refine lv_iinc (v := (nI (k1 + 1))) (lv' := [(1, .int (nI (k1 + 1))), (0, .ref xa)]) hx hb dX6_lowestWinning_23 hl (k := 0) rfl (nI_1 _) (by decide) rfl (fun ls hl => ?_)
          refine lv_goto (tgt := 2) hx hb dX6_lowestWinning_26 (by decide) ?_
          exact ih2 (k1 + 1) g7 f7 (by first | omega | assumption) (lt_s hs1 c_18) (hg7) (hk7) (by omega) _ _ hP hD hS ls (lv_sub hl [0, 1] rfl)
        · skip
          refine lv_iload_n hx hb dX6_lowestWinning_21 rfl (lv_at hl 0 rfl) ?_
          exact hret (g7, f7) hP hS (⟨by rw [bst, fst_eq c_10 c_18 hs1, if_pos c_10], hk7, hg7⟩) dX6_lowestWinning_22
  exact LP2 ((n0 - 0) + 1) 0 og ff (by first | omega | assumption) (fun i9 h9 => absurd h9 (Nat.not_lt_zero _)) (hog) (hok) (Nat.lt_succ_self _) _ _ hP hD hS ls (lv_sub hl [0, 1] rfl)
set_option maxHeartbeats 8000000 in
set_option maxRecDepth 100000 in
theorem c_X6_winningCount (l : Launch) (Γ : kG) (xa : Nat) (xs : Nat) (xk : Nat) (ha : Nat) (ta : Nat) (sa : Nat) (oa : Nat) (pa : Nat) (ja : Nat) (fa : Nat) (n0 : Nat) (th0 : Nat) (mv0 : Nat) (a : Nat) (e : Nat) (g : Nat → Nat) (oz : Nat) (oe : Nat) (oq : Nat) (og : Nat → Nat) (ff : Nat → Nat) (hfg : FG g) (hn0 : n0 ≤ 14) (hth : th0 < 2 ^ n0) (hog : ∀ i, i < 14 → og i < 16384) (hok : okF og ff) : WRi l yX6_winningCount (wsq yX6_winningCount cX6_winningCount 3 (some .int)) (rmL 37) Γ [.ref xa] [(xa, .inr (6, [.ref fa, .ref xs, .ref xk, .ref ha, .ref ta, .ref sa, .ref oa, .ref pa, .ref ja])), (fa, .inr (0, [.ref a, .int (nI n0), .int (nI th0), .int (nI mv0)])), (a, .inr (1, [.ref e])), (e, .inl (Γ.2 0, 14, .inl (aN g))), (oa, .inr (3, [.ref oz, .ref oq])), (oz, .inr (1, [.ref oe])), (oe, .inl (Γ.2 0, 14, .inl (aN og))), (oq, .inl (Γ.2 0, 16384, .inl (aN ff)))] (fun u : (Nat → Nat) × (Nat → Nat) => [(xa, .inr (6, [.ref fa, .ref xs, .ref xk, .ref ha, .ref ta, .ref sa, .ref oa, .ref pa, .ref ja])), (fa, .inr (0, [.ref a, .int (nI n0), .int (nI th0), .int (nI mv0)])), (a, .inr (1, [.ref e])), (e, .inl (Γ.2 0, 14, .inl (aN g))), (oa, .inr (3, [.ref oz, .ref oq])), (oz, .inr (1, [.ref oe])), (oe, .inl (Γ.2 0, 14, .inl (aN u.1))), (oq, .inl (Γ.2 0, 16384, .inl (aN u.2)))]) (fun (r : Int32) (u : (Nat → Nat) × (Nat → Nat)) => r = (nI (cnt (wnP g th0) n0)) ∧ okF u.1 u.2 ∧ (∀ i, i < 14 → u.1 i < 16384)) := by
  refine wr_ofi (cc := cX6_winningCount) (maxL := 3) (by decide +kernel) (Nat.le_of_ble_eq_true rfl) rfl ?_
  intro p ev R st mi args below meth cd Q A ls C0 hR hret hP hD hS hl
  obtain ⟨hx, hb, hr, hml, hown, hts, hlk, hK, hnm⟩ := C0
  have hown : st.vm.findClass RX6 = some mi.cls := hown
  refine lv_iconst (v := (nI 0)) hx hb dX6_winningCount_0 (by decide) ?_
  refine lv_istore_n (lv' := [(1, .int (nI 0)), (0, .ref xa)]) hx hb dX6_winningCount_1 rfl hl (by decide) rfl (fun ls hl => ?_)
  refine lv_iconst (v := (nI 0)) hx hb dX6_winningCount_2 (by decide) ?_
  refine lv_istore_n (lv' := [(2, .int (nI 0)), (1, .int (nI 0)), (0, .ref xa)]) hx hb dX6_winningCount_3 rfl hl (by decide) rfl (fun ls hl => ?_)
  have LP4 : ∀ (fu : Nat) (k1 : Nat) (g8 : Nat → Nat) (f8 : Nat → Nat) (hk1 : k1 ≤ n0) (hog8 : ∀ i, i < 14 → g8 i < 16384) (hok8 : okF g8 f8), (n0 - k1) < fu → ∀ (H : Heap) (locs : List Loc), va_P Γ.1 vwCl [(xa, .inr (6, [.ref fa, .ref xs, .ref xk, .ref ha, .ref ta, .ref sa, .ref oa, .ref pa, .ref ja])), (fa, .inr (0, [.ref a, .int (nI n0), .int (nI th0), .int (nI mv0)])), (a, .inr (1, [.ref e])), (e, .inl (Γ.2 0, 14, .inl (aN g))), (oa, .inr (3, [.ref oz, .ref oq])), (oz, .inr (1, [.ref oe])), (oe, .inl (Γ.2 0, 14, .inl (aN g8))), (oq, .inl (Γ.2 0, 16384, .inl (aN f8)))] H → va_D A [(xa, .inr (6, [.ref fa, .ref xs, .ref xk, .ref ha, .ref ta, .ref sa, .ref oa, .ref pa, .ref ja])), (fa, .inr (0, [.ref a, .int (nI n0), .int (nI th0), .int (nI mv0)])), (a, .inr (1, [.ref e])), (e, .inl (Γ.2 0, 14, .inl (aN g))), (oa, .inr (3, [.ref oz, .ref oq])), (oz, .inr (1, [.ref oe])), (oe, .inl (Γ.2 0, 14, .inl (aN g8))), (oq, .inl (Γ.2 0, 16384, .inl (aN f8)))] → va_S A st.heap H locs → ∀ (ls : Array Slot), lv_has ls 3 [(2, .int (nI k1)), (1, .int (nI (cnt (wnP g th0) k1))), (0, .ref xa)] → W p l ev R st mi args below meth cd H locs 0 0 Q (F0 mi 4 ls []) := by
    intro fu
    induction fu with
    | zero => intro k1 g8 f8 hk1 hog8 hok8 hfu; exact absurd hfu (Nat.not_lt_zero _)
    | succ fu ih4 =>
      intro k1 g8 f8 hk1 hog8 hok8 hfu H locs hP hD hS ls hl
      refine lv_iload_n hx hb dX6_winningCount_4 rfl (lv_at hl 0 rfl) ?_
      refine lv_aload_n hx hb dX6_winningCount_5 rfl (lv_at hl 2 rfl) ?_
      refine va_get (D := Γ.1) (ci := 6) (v := .ref fa) (C := RX6) (T := TX6) (N := 9) hx hb hts hinX6 hown hK.1 hP 0 rfl rfl 0 (by decide) (hts _ mw_209) (fun _ h9 => h9) rfl dX6_winningCount_6 ?_
      refine va_getN (host := "TreeKayles") (D := Γ.1) (ci := 0) (v := .int (nI n0)) (C := RX0) (T := TX0) (N := 4) hx hb hts hinX0 hown hK.1 hP 1 rfl rfl 1 (by decide) (va_Nw.use rfl (hK.nw _ (nwL_at 4 rfl))) (fun _ h9 => h9) rfl dX6_winningCount_9 ?_
      refine nb_icmp_ge (tgt := 32) hx hb (by first | omega | assumption) (by first | omega | assumption) dX6_winningCount_12 (by decide) (fun c_12 => ?_) (fun c_12 => ?_)
      · skip
        have he9 : n0 = k1 := by omega
        subst he9
        refine lv_iload_n hx hb dX6_winningCount_32 rfl (lv_at hl 1 rfl) ?_
        exact hret (g8, f8) hP hS (⟨rfl, hok8, hog8⟩) dX6_winningCount_33
      · skip
        refine lv_aload_n hx hb dX6_winningCount_15 rfl (lv_at hl 2 rfl) ?_
        refine lv_iload_n hx hb dX6_winningCount_16 rfl (lv_at hl 0 rfl) ?_
        refine wr_fini (va_runV (As := [.int (nI k1)]) (rest := []) ⟨hx, hb, hml, hown, hts⟩ (c_X6_isWinning l Γ xa xs xk ha ta sa oa pa ja fa n0 th0 mv0 a e g oz oe oq g8 f8 k1 (by first | omega | assumption) (by first | omega | assumption) (by first | omega | assumption) (hog8) (hok8) (by first | omega | assumption)) (kcwV 1 hts kv_X6_isWinning mw_281 (rm_le hR (Nat.le_of_ble_eq_true rfl) (Nat.le_of_ble_eq_true rfl))) (kPw_V hK (va_recv hK.1 hP (ci := 6) (q0 := 0) rfl rfl) (hP.sub (ws' := [(xa, .inr (6, [.ref fa, .ref xs, .ref xk, .ref ha, .ref ta, .ref sa, .ref oa, .ref pa, .ref ja])), (fa, .inr (0, [.ref a, .int (nI n0), .int (nI th0), .int (nI mv0)])), (a, .inr (1, [.ref e])), (e, .inl (Γ.2 0, 14, .inl (aN g))), (oa, .inr (3, [.ref oz, .ref oq])), (oz, .inr (1, [.ref oe])), (oe, .inl (Γ.2 0, 14, .inl (aN g8))), (oq, .inl (Γ.2 0, 16384, .inl (aN f8)))]) [0, 1, 2, 3, 4, 5, 6, 7] rfl) (hD.sub (ws' := [(xa, .inr (6, [.ref fa, .ref xs, .ref xk, .ref ha, .ref ta, .ref sa, .ref oa, .ref pa, .ref ja])), (fa, .inr (0, [.ref a, .int (nI n0), .int (nI th0), .int (nI mv0)])), (a, .inr (1, [.ref e])), (e, .inl (Γ.2 0, 14, .inl (aN g))), (oa, .inr (3, [.ref oz, .ref oq])), (oz, .inr (1, [.ref oe])), (oe, .inl (Γ.2 0, 14, .inl (aN g8))), (oq, .inl (Γ.2 0, 16384, .inl (aN f8)))]) [0, 1, 2, 3, 4, 5, 6, 7] (by decide) rfl)) rfl rfl hl.1 rfl (lv_room (Nat.le_of_ble_eq_true rfl)) dX6_winningCount_17 ⟨Nat.zero_le _, Nat.zero_le _⟩) hP hD hS [0, 1, 2, 3, 4, 5, 6, 7] rfl (fun _ => rfl) (fun r u H locs hw hP hD hS => ?_)
        obtain ⟨g7, f7⟩ := u
        try dsimp only at hw
        obtain ⟨rfl, hk7, hg7⟩ := hw
        have hP : va_P Γ.1 vwCl [(xa, .inr (6, [.ref fa, .ref xs, .ref xk, .ref ha, .ref ta, .ref sa, .ref oa, .ref pa, .ref ja])), (fa, .inr (0, [.ref a, .int (nI n0), .int (nI th0), .int (nI mv0)])), (a, .inr (1, [.ref e])), (e, .inl (Γ.2 0, 14, .inl (aN g))), (oa, .inr (3, [.ref oz, .ref oq])), (oz, .inr (1, [.ref oe])), (oe, .inl (Γ.2 0, 14, .inl (aN g7))), (oq, .inl (Γ.2 0, 16384, .inl (aN f7)))] H := hP
        have hD : va_D A [(xa, .inr (6, [.ref fa, .ref xs, .ref xk, .ref ha, .ref ta, .ref sa, .ref oa, .ref pa, .ref ja])), (fa, .inr (0, [.ref a, .int (nI n0), .int (nI th0), .int (nI mv0)])), (a, .inr (1, [.ref e])), (e, .inl (Γ.2 0, 14, .inl (aN g))), (oa, .inr (3, [.ref oz, .ref oq])), (oz, .inr (1, [.ref oe])), (oe, .inl (Γ.2 0, 14, .inl (aN g7))), (oq, .inl (Γ.2 0, 16384, .inl (aN f7)))] := hD
        refine nb_ifb_eq (tgt := 26) hx hb dX6_winningCount_20 (by decide) (fun c_20 => ?_) (fun c_20 => ?_)
        · skip
          refine lv_iinc (v := (nI (k1 + 1))) (lv' := [(2, .int (nI (k1 + 1))), (1, .int (nI (cnt (wnP g th0) k1))), (0, .ref xa)]) hx hb dX6_winningCount_26 hl (k := 0) rfl (nI_1 _) (by decide) rfl (fun ls hl => ?_)
          refine lv_goto (tgt := 4) hx hb dX6_winningCount_29 (by decide) ?_
          exact ih4 (k1 + 1) g7 f7 (by first | omega | assumption) (hg7) (hk7) (by omega) _ _ hP hD hS ls (lv_cast (lv_sub hl [0, 1, 2] rfl) (by first | (rw [cnt, c_20]; rfl) | (simp only [cnt, c_20]; rfl)))
        · skip
          refine lv_iinc (v := (nI ((cnt (wnP g th0) k1) + 1))) (lv' := [(1, .int (nI ((cnt (wnP g th0) k1) + 1))), (2, .int (nI k1)), (0, .ref xa)]) hx hb dX6_winningCount_23 hl (k := 1) rfl (nI_1 _) (by decide) rfl (fun ls hl => ?_)
          refine lv_iinc (v := (nI (k1 + 1))) (lv' := [(2, .int (nI (k1 + 1))), (1, .int (nI ((cnt (wnP g th0) k1) + 1))), (0, .ref xa)]) hx hb dX6_winningCount_26 hl (k := 1) rfl (nI_1 _) (by decide) rfl (fun ls hl => ?_)
          refine lv_goto (tgt := 4) hx hb dX6_winningCount_29 (by decide) ?_
          exact ih4 (k1 + 1) g7 f7 (by first | omega | assumption) (hg7) (hk7) (by omega) _ _ hP hD hS ls (lv_cast (lv_sub hl [0, 1, 2] rfl) (by first | (rw [cnt, c_20]; rfl) | (simp only [cnt, c_20]; rfl)))
  exact LP4 ((n0 - 0) + 1) 0 og ff (by first | omega | assumption) (hog) (hok) (Nat.lt_succ_self _) _ _ hP hD hS ls (lv_cast (lv_sub hl [0, 1, 2] rfl) (by rfl))
set_option maxHeartbeats 8000000 in
set_option maxRecDepth 100000 in
theorem c_X6_sumOfTrees (l : Launch) (Γ : kG) (xa : Nat) (xs : Nat) (xk : Nat) (ha : Nat) (ta : Nat) (sa : Nat) (oa : Nat) (pa : Nat) (ja : Nat) (fa : Nat) (n0 : Nat) (th0 : Nat) (mv0 : Nat) (a : Nat) (e : Nat) (g : Nat → Nat) (oz : Nat) (oe : Nat) (oq : Nat) (og : Nat → Nat) (ff : Nat → Nat) (hfg : FG g) (hn0 : n0 ≤ 14) (hth : th0 < 2 ^ n0) (hog : ∀ i, i < 14 → og i < 16384) (hok : okF og ff) : WRi l yX6_sumOfTrees (wsq yX6_sumOfTrees cX6_sumOfTrees 4 (some .int)) (rmL 36) Γ [.ref xa] [(xa, .inr (6, [.ref fa, .ref xs, .ref xk, .ref ha, .ref ta, .ref sa, .ref oa, .ref pa, .ref ja])), (fa, .inr (0, [.ref a, .int (nI n0), .int (nI th0), .int (nI mv0)])), (a, .inr (1, [.ref e])), (e, .inl (Γ.2 0, 14, .inl (aN g))), (oa, .inr (3, [.ref oz, .ref oq])), (oz, .inr (1, [.ref oe])), (oe, .inl (Γ.2 0, 14, .inl (aN og))), (oq, .inl (Γ.2 0, 16384, .inl (aN ff)))] (fun u : (Nat → Nat) × (Nat → Nat) => [(xa, .inr (6, [.ref fa, .ref xs, .ref xk, .ref ha, .ref ta, .ref sa, .ref oa, .ref pa, .ref ja])), (fa, .inr (0, [.ref a, .int (nI n0), .int (nI th0), .int (nI mv0)])), (a, .inr (1, [.ref e])), (e, .inl (Γ.2 0, 14, .inl (aN g))), (oa, .inr (3, [.ref oz, .ref oq])), (oz, .inr (1, [.ref oe])), (oe, .inl (Γ.2 0, 14, .inl (aN u.1))), (oq, .inl (Γ.2 0, 16384, .inl (aN u.2)))]) (fun (r : Int32) (u : (Nat → Nat) × (Nat → Nat)) => r = (nI (mxS g th0 (trC g th0))) ∧ okF u.1 u.2 ∧ (∀ i, i < 14 → u.1 i < 16384)) := by
  refine wr_ofi (cc := cX6_sumOfTrees) (maxL := 4) (by decide +kernel) (Nat.le_of_ble_eq_true rfl) rfl ?_
  intro p ev R st mi args below meth cd Q A ls C0 hR hret hP hD hS hl
  obtain ⟨hx, hb, hr, hml, hown, hts, hlk, hK, hnm⟩ := C0
  have hown : st.vm.findClass RX6 = some mi.cls := hown
  have hw14 := w14 hth hn0
  have hc := (trC_spec g hw14).1
  refine lv_iconst (v := (nI 0)) hx hb dX6_sumOfTrees_0 (by decide) ?_
  refine lv_istore_n (lv' := [(1, .int (nI 0)), (0, .ref xa)]) hx hb dX6_sumOfTrees_1 rfl hl (by decide) rfl (fun ls hl => ?_)
  refine lv_aload_n hx hb dX6_sumOfTrees_2 rfl (lv_at hl 1 rfl) ?_
  refine va_get (D := Γ.1) (ci := 6) (v := .ref fa) (C := RX6) (T := TX6) (N := 9) hx hb hts hinX6 hown hK.1 hP 0 rfl rfl 0 (by decide) (hts _ mw_209) (fun _ h9 => h9) rfl dX6_sumOfTrees_3 ?_
  refine ro_fin (va_runVN (As := []) (rest := []) ⟨hx, hb, hml, hown, hts⟩ (c_X0_treeCount l Γ _ fa n0 th0 mv0 a e g (hP.sub (ws' := [(fa, .inr (0, [.ref a, .int (nI n0), .int (nI th0), .int (nI mv0)])), (a, .inr (1, [.ref e])), (e, .inl (Γ.2 0, 14, .inl (aN g)))]) [1, 2, 3] rfl) (hfg.1) (hw14)) (kcwVN 0 hts kv_X0_treeCount (hK.nw _ (nwL_at 6 rfl)) (rm_le hR (Nat.le_of_ble_eq_true rfl) (Nat.le_of_ble_eq_true rfl))) (kPc_V hK (va_recv hK.1 hP (ci := 0) (q0 := 1) rfl rfl)) rfl rfl hl.1 rfl (lv_room (Nat.le_of_ble_eq_true rfl)) dX6_sumOfTrees_6 ⟨Nat.zero_le _, Nat.zero_le _⟩) hS (fun locs hS => ?_)
  refine lv_istore_n (lv' := [(2, .int (nI (trC g th0))), (1, .int (nI 0)), (0, .ref xa)]) hx hb dX6_sumOfTrees_9 rfl hl (by decide) rfl (fun ls hl => ?_)
  refine lv_iconst (v := (nI 0)) hx hb dX6_sumOfTrees_10 (by decide) ?_
  refine lv_istore_n (lv' := [(3, .int (nI 0)), (2, .int (nI (trC g th0))), (1, .int (nI 0)), (0, .ref xa)]) hx hb dX6_sumOfTrees_11 rfl hl (by decide) rfl (fun ls hl => ?_)
  have LP12 : ∀ (fu : Nat) (k1 : Nat) (g8 : Nat → Nat) (f8 : Nat → Nat) (hk1 : k1 ≤ trC g th0) (hog8 : ∀ i, i < 14 → g8 i < 16384) (hok8 : okF g8 f8), (trC g th0 - k1) < fu → ∀ (H : Heap) (locs : List Loc), va_P Γ.1 vwCl [(xa, .inr (6, [.ref fa, .ref xs, .ref xk, .ref ha, .ref ta, .ref sa, .ref oa, .ref pa, .ref ja])), (fa, .inr (0, [.ref a, .int (nI n0), .int (nI th0), .int (nI mv0)])), (a, .inr (1, [.ref e])), (e, .inl (Γ.2 0, 14, .inl (aN g))), (oa, .inr (3, [.ref oz, .ref oq])), (oz, .inr (1, [.ref oe])), (oe, .inl (Γ.2 0, 14, .inl (aN g8))), (oq, .inl (Γ.2 0, 16384, .inl (aN f8)))] H → va_D A [(xa, .inr (6, [.ref fa, .ref xs, .ref xk, .ref ha, .ref ta, .ref sa, .ref oa, .ref pa, .ref ja])), (fa, .inr (0, [.ref a, .int (nI n0), .int (nI th0), .int (nI mv0)])), (a, .inr (1, [.ref e])), (e, .inl (Γ.2 0, 14, .inl (aN g))), (oa, .inr (3, [.ref oz, .ref oq])), (oz, .inr (1, [.ref oe])), (oe, .inl (Γ.2 0, 14, .inl (aN g8))), (oq, .inl (Γ.2 0, 16384, .inl (aN f8)))] → va_S A st.heap H locs → ∀ (ls : Array Slot), lv_has ls 4 [(3, .int (nI k1)), (2, .int (nI (trC g th0))), (1, .int (nI (mxS g th0 k1))), (0, .ref xa)] → W p l ev R st mi args below meth cd H locs 0 0 Q (F0 mi 12 ls []) := by
    intro fu
    induction fu with
    | zero => intro k1 g8 f8 hk1 hog8 hok8 hfu; exact absurd hfu (Nat.not_lt_zero _)
    | succ fu ih12 =>
      intro k1 g8 f8 hk1 hog8 hok8 hfu H locs hP hD hS ls hl
      refine lv_iload_n hx hb dX6_sumOfTrees_12 rfl (lv_at hl 0 rfl) ?_
      refine lv_iload_n hx hb dX6_sumOfTrees_13 rfl (lv_at hl 1 rfl) ?_
      refine nb_icmp_ge (tgt := 41) hx hb (by first | omega | assumption) (by first | omega | assumption) dX6_sumOfTrees_14 (by decide) (fun c_14 => ?_) (fun c_14 => ?_)
      · skip
        have he9 : trC g th0 = k1 := by omega
        subst he9
        refine lv_iload_n hx hb dX6_sumOfTrees_41 rfl (lv_at hl 2 rfl) ?_
        exact hret (g8, f8) hP hS (⟨rfl, hok8, hog8⟩) dX6_sumOfTrees_42
      · skip
        refine lv_iload_n hx hb dX6_sumOfTrees_17 rfl (lv_at hl 2 rfl) ?_
        refine lv_aload_n hx hb dX6_sumOfTrees_18 rfl (lv_at hl 3 rfl) ?_
        refine wr_finr (va_runV (As := []) (rest := [.int (nI (mxS g th0 k1))]) ⟨hx, hb, hml, hown, hts⟩ (c_X6_outcomesNow l Γ xa xs xk ha ta sa oa pa ja fa n0 th0 mv0 a e g oz oe oq g8 f8 (by first | omega | assumption) (by first | omega | assumption) (by first | omega | assumption) (hog8) (hok8)) (kcwV 0 hts kv_X6_outcomesNow mw_275 (rm_le hR (Nat.le_of_ble_eq_true rfl) (Nat.le_of_ble_eq_true rfl))) (kPw_V hK (va_recv hK.1 hP (ci := 6) (q0 := 0) rfl rfl) (hP.sub (ws' := [(xa, .inr (6, [.ref fa, .ref xs, .ref xk, .ref ha, .ref ta, .ref sa, .ref oa, .ref pa, .ref ja])), (fa, .inr (0, [.ref a, .int (nI n0), .int (nI th0), .int (nI mv0)])), (a, .inr (1, [.ref e])), (e, .inl (Γ.2 0, 14, .inl (aN g))), (oa, .inr (3, [.ref oz, .ref oq])), (oz, .inr (1, [.ref oe])), (oe, .inl (Γ.2 0, 14, .inl (aN g8))), (oq, .inl (Γ.2 0, 16384, .inl (aN f8)))]) [0, 1, 2, 3, 4, 5, 6, 7] rfl) (hD.sub (ws' := [(xa, .inr (6, [.ref fa, .ref xs, .ref xk, .ref ha, .ref ta, .ref sa, .ref oa, .ref pa, .ref ja])), (fa, .inr (0, [.ref a, .int (nI n0), .int (nI th0), .int (nI mv0)])), (a, .inr (1, [.ref e])), (e, .inl (Γ.2 0, 14, .inl (aN g))), (oa, .inr (3, [.ref oz, .ref oq])), (oz, .inr (1, [.ref oe])), (oe, .inl (Γ.2 0, 14, .inl (aN g8))), (oq, .inl (Γ.2 0, 16384, .inl (aN f8)))]) [0, 1, 2, 3, 4, 5, 6, 7] (by decide) rfl)) rfl rfl hl.1 rfl (lv_room (Nat.le_of_ble_eq_true rfl)) dX6_sumOfTrees_19 ⟨Nat.zero_le _, Nat.zero_le _⟩) hP hD hS [0, 1, 2, 3, 4, 5, 6, 7] rfl (fun _ => rfl) (fun u H locs hw hP hD hS => ?_)
        obtain ⟨g7, f7⟩ := u
        try dsimp only at hw
        obtain ⟨hk7, he7⟩ := hw
        have hP : va_P Γ.1 vwCl [(xa, .inr (6, [.ref fa, .ref xs, .ref xk, .ref ha, .ref ta, .ref sa, .ref oa, .ref pa, .ref ja])), (fa, .inr (0, [.ref a, .int (nI n0), .int (nI th0), .int (nI mv0)])), (a, .inr (1, [.ref e])), (e, .inl (Γ.2 0, 14, .inl (aN g))), (oa, .inr (3, [.ref oz, .ref oq])), (oz, .inr (1, [.ref oe])), (oe, .inl (Γ.2 0, 14, .inl (aN g7))), (oq, .inl (Γ.2 0, 16384, .inl (aN f7)))] H := hP
        have hD : va_D A [(xa, .inr (6, [.ref fa, .ref xs, .ref xk, .ref ha, .ref ta, .ref sa, .ref oa, .ref pa, .ref ja])), (fa, .inr (0, [.ref a, .int (nI n0), .int (nI th0), .int (nI mv0)])), (a, .inr (1, [.ref e])), (e, .inl (Γ.2 0, 14, .inl (aN g))), (oa, .inr (3, [.ref oz, .ref oq])), (oz, .inr (1, [.ref oe])), (oe, .inl (Γ.2 0, 14, .inl (aN g7))), (oq, .inl (Γ.2 0, 16384, .inl (aN f7)))] := hD
        refine lv_aload_n hx hb dX6_sumOfTrees_22 rfl (lv_at hl 3 rfl) ?_
        refine va_get (D := Γ.1) (ci := 6) (v := .ref fa) (C := RX6) (T := TX6) (N := 9) hx hb hts hinX6 hown hK.1 hP 0 rfl rfl 0 (by decide) (hts _ mw_209) (fun _ h9 => h9) rfl dX6_sumOfTrees_23 ?_
        refine lv_iload_n hx hb dX6_sumOfTrees_26 rfl (lv_at hl 0 rfl) ?_
        refine ro_fin (va_runVN (As := [.int (nI k1)]) (rest := [.ref oa, .int (nI (mxS g th0 k1))]) ⟨hx, hb, hml, hown, hts⟩ (c_X0_treeAt l Γ _ fa n0 th0 mv0 a e g k1 (hP.sub (ws' := [(fa, .inr (0, [.ref a, .int (nI n0), .int (nI th0), .int (nI mv0)])), (a, .inr (1, [.ref e])), (e, .inl (Γ.2 0, 14, .inl (aN g)))]) [1, 2, 3] rfl) (hfg.1) (hw14) (by first | omega | assumption)) (kcwVN 1 hts kv_X0_treeAt (hK.nw _ (nwL_at 27 rfl)) (rm_le hR (Nat.le_of_ble_eq_true rfl) (Nat.le_of_ble_eq_true rfl))) (kPc_V hK (va_recv hK.1 hP (ci := 0) (q0 := 1) rfl rfl)) rfl rfl hl.1 rfl (lv_room (Nat.le_of_ble_eq_true rfl)) dX6_sumOfTrees_27 ⟨Nat.zero_le _, Nat.zero_le _⟩) hS (fun locs hS => ?_)
        refine wr_fini (va_runVN (As := [.int (nI (trA g th0 k1))]) (rest := [.int (nI (mxS g th0 k1))]) ⟨hx, hb, hml, hown, hts⟩ (c_X3_valueFor l Γ oa oz oe oq g7 f7 (trA g th0 k1) (eqG_lt he7 hfg.1) (symG_g (eqG_s he7) hfg.2.1) (hk7) (trA_lt _ _ _)) (kcwVN 1 hts kv_X3_valueFor (hK.nw _ (nwL_at 25 rfl)) (rm_le hR (Nat.le_of_ble_eq_true rfl) (Nat.le_of_ble_eq_true rfl))) (kPw_V hK (va_recv hK.1 hP (ci := 3) (q0 := 4) rfl rfl) (hP.sub (ws' := [(oa, .inr (3, [.ref oz, .ref oq])), (oz, .inr (1, [.ref oe])), (oe, .inl (Γ.2 0, 14, .inl (aN g7))), (oq, .inl (Γ.2 0, 16384, .inl (aN f7)))]) [4, 5, 6, 7] rfl) (hD.sub (ws' := [(oa, .inr (3, [.ref oz, .ref oq])), (oz, .inr (1, [.ref oe])), (oe, .inl (Γ.2 0, 14, .inl (aN g7))), (oq, .inl (Γ.2 0, 16384, .inl (aN f7)))]) [4, 5, 6, 7] (by decide) rfl)) rfl rfl hl.1 rfl (lv_room (Nat.le_of_ble_eq_true rfl)) dX6_sumOfTrees_30 ⟨Nat.zero_le _, Nat.zero_le _⟩) hP hD hS [4, 5, 6, 7] rfl (fun _ => rfl) (fun r f6 H locs hw hP hD hS => ?_)
        obtain ⟨rfl, hk6⟩ := hw
        have hP : va_P Γ.1 vwCl [(xa, .inr (6, [.ref fa, .ref xs, .ref xk, .ref ha, .ref ta, .ref sa, .ref oa, .ref pa, .ref ja])), (fa, .inr (0, [.ref a, .int (nI n0), .int (nI th0), .int (nI mv0)])), (a, .inr (1, [.ref e])), (e, .inl (Γ.2 0, 14, .inl (aN g))), (oa, .inr (3, [.ref oz, .ref oq])), (oz, .inr (1, [.ref oe])), (oe, .inl (Γ.2 0, 14, .inl (aN g7))), (oq, .inl (Γ.2 0, 16384, .inl (aN f6)))] H := hP
        have hD : va_D A [(xa, .inr (6, [.ref fa, .ref xs, .ref xk, .ref ha, .ref ta, .ref sa, .ref oa, .ref pa, .ref ja])), (fa, .inr (0, [.ref a, .int (nI n0), .int (nI th0), .int (nI mv0)])), (a, .inr (1, [.ref e])), (e, .inl (Γ.2 0, 14, .inl (aN g))), (oa, .inr (3, [.ref oz, .ref oq])), (oz, .inr (1, [.ref oe])), (oe, .inl (Γ.2 0, 14, .inl (aN g7))), (oq, .inl (Γ.2 0, 16384, .inl (aN f6)))] := hD
        refine tp_i (y := (nI (V g (trA g th0 k1)))) (by rw [V_g he7]) ?_
        refine lv_ixor hx hb dX6_sumOfTrees_33 ?_
        refine tp_i (y := (nI ((mxS g th0 k1) ^^^ (V g (trA g th0 k1))))) (ni_xor _ _) ?_
        refine tp_i (y := (nI (mxS g th0 (k1 + 1)))) (rfl) ?_
        refine lv_istore_n (lv' := [(1, .int (nI (mxS g th0 (k1 + 1)))), (3, .int (nI k1)), (2, .int (nI (trC g th0))), (0, .ref xa)]) hx hb dX6_sumOfTrees_34 rfl hl (by decide) rfl (fun ls hl => ?_)
        refine lv_iinc (v := (nI (k1 + 1))) (lv' := [(3, .int (nI (k1 + 1))), (1, .int (nI (mxS g th0 (k1 + 1)))), (2, .int (nI (trC g th0))), (0, .ref xa)]) hx hb dX6_sumOfTrees_35 hl (k := 1) rfl (nI_1 _) (by decide) rfl (fun ls hl => ?_)
        refine lv_goto (tgt := 12) hx hb dX6_sumOfTrees_38 (by decide) ?_
        exact ih12 (k1 + 1) g7 f6 (by first | omega | assumption) (eqG_lt he7 hfg.1) (hk6) (by omega) _ _ hP hD hS ls (lv_sub hl [0, 2, 1, 3] rfl)
  exact LP12 ((trC g th0 - 0) + 1) 0 og ff (by first | omega | assumption) (hog) (hok) (Nat.lt_succ_self _) _ _ hP hD hS ls (lv_cast (lv_sub hl [0, 1, 2, 3] rfl) (by rfl))
set_option maxHeartbeats 8000000 in
set_option maxRecDepth 100000 in
theorem c_X6_lowestAlike (l : Launch) (Γ : kG) (xa : Nat) (xs : Nat) (xk : Nat) (ha : Nat) (ta : Nat) (sa : Nat) (oa : Nat) (pa : Nat) (ja : Nat) (fa : Nat) (n0 : Nat) (th0 : Nat) (mv0 : Nat) (a : Nat) (e : Nat) (g : Nat → Nat) (sc : Nat) (cf : Nat → Nat) (t0 : Nat) (hfg : FG g) (hn0 : n0 ≤ 14) (hth : th0 < 2 ^ n0) (ht0 : t0 < trC g th0) : WRi l yX6_lowestAlike (wsq yX6_lowestAlike cX6_lowestAlike 4 (some .int)) (rmL 20) Γ [.ref xa, .int (nI t0)] [(xa, .inr (6, [.ref fa, .ref xs, .ref xk, .ref ha, .ref ta, .ref sa, .ref oa, .ref pa, .ref ja])), (fa, .inr (0, [.ref a, .int (nI n0), .int (nI th0), .int (nI mv0)])), (a, .inr (1, [.ref e])), (e, .inl (Γ.2 0, 14, .inl (aN g))), (sa, .inr (4, [.ref sc])), (sc, .inl (Γ.2 0, 14, .inl (aN cf)))] (fun u : (Nat → Nat) => [(xa, .inr (6, [.ref fa, .ref xs, .ref xk, .ref ha, .ref ta, .ref sa, .ref oa, .ref pa, .ref ja])), (fa, .inr (0, [.ref a, .int (nI n0), .int (nI th0), .int (nI mv0)])), (a, .inr (1, [.ref e])), (e, .inl (Γ.2 0, 14, .inl (aN g))), (sa, .inr (4, [.ref sc])), (sc, .inl (Γ.2 0, 14, .inl (aN u)))]) (fun (r : Int32) (u : (Nat → Nat)) => r = (nI (alk g (trA g th0) 14 t0))) := by
  refine wr_ofi (cc := cX6_lowestAlike) (maxL := 4) (by decide +kernel) (Nat.le_of_ble_eq_true rfl) rfl ?_
  intro p ev R st mi args below meth cd Q A ls C0 hR hret hP hD hS hl
  obtain ⟨hx, hb, hr, hml, hown, hts, hlk, hK, hnm⟩ := C0
  have hown : st.vm.findClass RX6 = some mi.cls := hown
  have hw14 := w14 hth hn0
  have hc := (trC_spec g hw14).1
  refine lv_aload_n hx hb dX6_lowestAlike_0 rfl (lv_at hl 0 rfl) ?_
  refine va_get (D := Γ.1) (ci := 6) (v := .ref sa) (C := RX6) (T := TX6) (N := 9) hx hb hts hinX6 hown hK.1 hP 0 rfl rfl 5 (by decide) (hts _ mw_222) (fun _ h9 => h9) rfl dX6_lowestAlike_1 ?_
  refine lv_aload_n hx hb dX6_lowestAlike_4 rfl (lv_at hl 0 rfl) ?_
  refine va_get (D := Γ.1) (ci := 6) (v := .ref fa) (C := RX6) (T := TX6) (N := 9) hx hb hts hinX6 hown hK.1 hP 0 rfl rfl 0 (by decide) (hts _ mw_209) (fun _ h9 => h9) rfl dX6_lowestAlike_5 ?_
  refine va_getN (host := "TreeKayles") (D := Γ.1) (ci := 0) (v := .ref a) (C := RX0) (T := TX0) (N := 4) hx hb hts hinX0 hown hK.1 hP 1 rfl rfl 0 (by decide) (va_Nw.use rfl (hK.nw _ (nwL_at 5 rfl))) (fun _ h9 => h9) rfl dX6_lowestAlike_8 ?_
  refine lv_aload_n hx hb dX6_lowestAlike_11 rfl (lv_at hl 0 rfl) ?_
  refine va_get (D := Γ.1) (ci := 6) (v := .ref fa) (C := RX6) (T := TX6) (N := 9) hx hb hts hinX6 hown hK.1 hP 0 rfl rfl 0 (by decide) (hts _ mw_209) (fun _ h9 => h9) rfl dX6_lowestAlike_12 ?_
  refine lv_iload_n hx hb dX6_lowestAlike_15 rfl (lv_at hl 1 rfl) ?_
  refine ro_fin (va_runVN (As := [.int (nI t0)]) (rest := [.ref a, .ref sa]) ⟨hx, hb, hml, hown, hts⟩ (c_X0_treeAt l Γ _ fa n0 th0 mv0 a e g t0 (hP.sub (ws' := [(fa, .inr (0, [.ref a, .int (nI n0), .int (nI th0), .int (nI mv0)])), (a, .inr (1, [.ref e])), (e, .inl (Γ.2 0, 14, .inl (aN g)))]) [1, 2, 3] rfl) (hfg.1) (hw14) (by first | omega | assumption)) (kcwVN 1 hts kv_X0_treeAt (hK.nw _ (nwL_at 27 rfl)) (rm_le hR (Nat.le_of_ble_eq_true rfl) (Nat.le_of_ble_eq_true rfl))) (kPc_V hK (va_recv hK.1 hP (ci := 0) (q0 := 1) rfl rfl)) rfl rfl hl.1 rfl (lv_room (Nat.le_of_ble_eq_true rfl)) dX6_lowestAlike_16 ⟨Nat.zero_le _, Nat.zero_le _⟩) hS (fun locs hS => ?_)
  refine wr_fini (va_runVN (As := [.ref a, .int (nI (trA g th0 t0))]) (rest := []) ⟨hx, hb, hml, hown, hts⟩ (c_X4_classFor l Γ sa sc cf a e g (trA g th0 t0) (by first | omega | assumption) (trA_lt _ _ _)) (kcwVN 2 hts kv_X4_classFor (hK.nw _ (nwL_at 35 rfl)) (rm_le hR (Nat.le_of_ble_eq_true rfl) (Nat.le_of_ble_eq_true rfl))) (kPw_V hK (va_recv hK.1 hP (ci := 4) (q0 := 4) rfl rfl) (hP.sub (ws' := [(sa, .inr (4, [.ref sc])), (sc, .inl (Γ.2 0, 14, .inl (aN cf))), (a, .inr (1, [.ref e])), (e, .inl (Γ.2 0, 14, .inl (aN g)))]) [4, 5, 2, 3] rfl) (hD.sub (ws' := [(sa, .inr (4, [.ref sc])), (sc, .inl (Γ.2 0, 14, .inl (aN cf))), (a, .inr (1, [.ref e])), (e, .inl (Γ.2 0, 14, .inl (aN g)))]) [4, 5, 2, 3] (by decide) rfl)) rfl rfl hl.1 rfl (lv_room (Nat.le_of_ble_eq_true rfl)) dX6_lowestAlike_19 ⟨Nat.zero_le _, Nat.zero_le _⟩) hP hD hS [4, 5, 2, 3] rfl (fun _ => rfl) (fun r c6 H locs hw hP hD hS => ?_)
  obtain rfl := hw
  have hP : va_P Γ.1 vwCl [(xa, .inr (6, [.ref fa, .ref xs, .ref xk, .ref ha, .ref ta, .ref sa, .ref oa, .ref pa, .ref ja])), (fa, .inr (0, [.ref a, .int (nI n0), .int (nI th0), .int (nI mv0)])), (a, .inr (1, [.ref e])), (e, .inl (Γ.2 0, 14, .inl (aN g))), (sa, .inr (4, [.ref sc])), (sc, .inl (Γ.2 0, 14, .inl (aN c6)))] H := hP
  have hD : va_D A [(xa, .inr (6, [.ref fa, .ref xs, .ref xk, .ref ha, .ref ta, .ref sa, .ref oa, .ref pa, .ref ja])), (fa, .inr (0, [.ref a, .int (nI n0), .int (nI th0), .int (nI mv0)])), (a, .inr (1, [.ref e])), (e, .inl (Γ.2 0, 14, .inl (aN g))), (sa, .inr (4, [.ref sc])), (sc, .inl (Γ.2 0, 14, .inl (aN c6)))] := hD
  refine lv_istore_n (lv' := [(2, .int (nI (mxC g (trA g th0 t0) 14))), (0, .ref xa), (1, .int (nI t0))]) hx hb dX6_lowestAlike_22 rfl hl (by decide) rfl (fun ls hl => ?_)
  refine lv_iconst (v := (nI 0)) hx hb dX6_lowestAlike_23 (by decide) ?_
  refine lv_istore_n (lv' := [(3, .int (nI 0)), (2, .int (nI (mxC g (trA g th0 t0) 14))), (0, .ref xa), (1, .int (nI t0))]) hx hb dX6_lowestAlike_24 rfl hl (by decide) rfl (fun ls hl => ?_)
  have LP25 : ∀ (fu : Nat) (k1 : Nat) (c8 : Nat → Nat) (hk1 : k1 ≤ t0) (hs1 : ∀ i, i < k1 → decide (mxC g (trA g th0 i) 14 = mxC g (trA g th0 t0) 14) = false), (t0 - k1) < fu → ∀ (H : Heap) (locs : List Loc), va_P Γ.1 vwCl [(xa, .inr (6, [.ref fa, .ref xs, .ref xk, .ref ha, .ref ta, .ref sa, .ref oa, .ref pa, .ref ja])), (fa, .inr (0, [.ref a, .int (nI n0), .int (nI th0), .int (nI mv0)])), (a, .inr (1, [.ref e])), (e, .inl (Γ.2 0, 14, .inl (aN g))), (sa, .inr (4, [.ref sc])), (sc, .inl (Γ.2 0, 14, .inl (aN c8)))] H → va_D A [(xa, .inr (6, [.ref fa, .ref xs, .ref xk, .ref ha, .ref ta, .ref sa, .ref oa, .ref pa, .ref ja])), (fa, .inr (0, [.ref a, .int (nI n0), .int (nI th0), .int (nI mv0)])), (a, .inr (1, [.ref e])), (e, .inl (Γ.2 0, 14, .inl (aN g))), (sa, .inr (4, [.ref sc])), (sc, .inl (Γ.2 0, 14, .inl (aN c8)))] → va_S A st.heap H locs → ∀ (ls : Array Slot), lv_has ls 4 [(3, .int (nI k1)), (2, .int (nI (mxC g (trA g th0 t0) 14))), (0, .ref xa), (1, .int (nI t0))] → W p l ev R st mi args below meth cd H locs 0 0 Q (F0 mi 25 ls []) := by
    intro fu
    induction fu with
    | zero => intro k1 c8 hk1 hs1 hfu; exact absurd hfu (Nat.not_lt_zero _)
    | succ fu ih25 =>
      intro k1 c8 hk1 hs1 hfu H locs hP hD hS ls hl
      refine lv_iload_n hx hb dX6_lowestAlike_25 rfl (lv_at hl 0 rfl) ?_
      refine lv_iload_n hx hb dX6_lowestAlike_26 rfl (lv_at hl 3 rfl) ?_
      refine nb_icmp_ge (tgt := 64) hx hb (by first | omega | assumption) (by first | omega | assumption) dX6_lowestAlike_27 (by decide) (fun c_27 => ?_) (fun c_27 => ?_)
      · skip
        have he9 : t0 = k1 := by omega
        subst he9
        refine lv_iload_n hx hb dX6_lowestAlike_64 rfl (lv_at hl 3 rfl) ?_
        exact hret c8 hP hS (by rw [alk, fst_all hs1]) dX6_lowestAlike_65
      · skip
        refine lv_aload_n hx hb dX6_lowestAlike_30 rfl (lv_at hl 2 rfl) ?_
        refine va_get (D := Γ.1) (ci := 6) (v := .ref sa) (C := RX6) (T := TX6) (N := 9) hx hb hts hinX6 hown hK.1 hP 0 rfl rfl 5 (by decide) (hts _ mw_222) (fun _ h9 => h9) rfl dX6_lowestAlike_31 ?_
        refine lv_aload_n hx hb dX6_lowestAlike_34 rfl (lv_at hl 2 rfl) ?_
        refine va_get (D := Γ.1) (ci := 6) (v := .ref fa) (C := RX6) (T := TX6) (N := 9) hx hb hts hinX6 hown hK.1 hP 0 rfl rfl 0 (by decide) (hts _ mw_209) (fun _ h9 => h9) rfl dX6_lowestAlike_35 ?_
        refine va_getN (host := "TreeKayles") (D := Γ.1) (ci := 0) (v := .ref a) (C := RX0) (T := TX0) (N := 4) hx hb hts hinX0 hown hK.1 hP 1 rfl rfl 0 (by decide) (va_Nw.use rfl (hK.nw _ (nwL_at 5 rfl))) (fun _ h9 => h9) rfl dX6_lowestAlike_38 ?_
        refine lv_aload_n hx hb dX6_lowestAlike_41 rfl (lv_at hl 2 rfl) ?_
        refine va_get (D := Γ.1) (ci := 6) (v := .ref fa) (C := RX6) (T := TX6) (N := 9) hx hb hts hinX6 hown hK.1 hP 0 rfl rfl 0 (by decide) (hts _ mw_209) (fun _ h9 => h9) rfl dX6_lowestAlike_42 ?_
        refine lv_iload_n hx hb dX6_lowestAlike_45 rfl (lv_at hl 0 rfl) ?_
        refine ro_fin (va_runVN (As := [.int (nI k1)]) (rest := [.ref a, .ref sa]) ⟨hx, hb, hml, hown, hts⟩ (c_X0_treeAt l Γ _ fa n0 th0 mv0 a e g k1 (hP.sub (ws' := [(fa, .inr (0, [.ref a, .int (nI n0), .int (nI th0), .int (nI mv0)])), (a, .inr (1, [.ref e])), (e, .inl (Γ.2 0, 14, .inl (aN g)))]) [1, 2, 3] rfl) (hfg.1) (hw14) (by first | omega | assumption)) (kcwVN 1 hts kv_X0_treeAt (hK.nw _ (nwL_at 27 rfl)) (rm_le hR (Nat.le_of_ble_eq_true rfl) (Nat.le_of_ble_eq_true rfl))) (kPc_V hK (va_recv hK.1 hP (ci := 0) (q0 := 1) rfl rfl)) rfl rfl hl.1 rfl (lv_room (Nat.le_of_ble_eq_true rfl)) dX6_lowestAlike_46 ⟨Nat.zero_le _, Nat.zero_le _⟩) hS (fun locs hS => ?_)
        refine wr_fini (va_runVN (As := [.ref a, .int (nI (trA g th0 k1))]) (rest := []) ⟨hx, hb, hml, hown, hts⟩ (c_X4_classFor l Γ sa sc c8 a e g (trA g th0 k1) (by first | omega | assumption) (trA_lt _ _ _)) (kcwVN 2 hts kv_X4_classFor (hK.nw _ (nwL_at 35 rfl)) (rm_le hR (Nat.le_of_ble_eq_true rfl) (Nat.le_of_ble_eq_true rfl))) (kPw_V hK (va_recv hK.1 hP (ci := 4) (q0 := 4) rfl rfl) (hP.sub (ws' := [(sa, .inr (4, [.ref sc])), (sc, .inl (Γ.2 0, 14, .inl (aN c8))), (a, .inr (1, [.ref e])), (e, .inl (Γ.2 0, 14, .inl (aN g)))]) [4, 5, 2, 3] rfl) (hD.sub (ws' := [(sa, .inr (4, [.ref sc])), (sc, .inl (Γ.2 0, 14, .inl (aN c8))), (a, .inr (1, [.ref e])), (e, .inl (Γ.2 0, 14, .inl (aN g)))]) [4, 5, 2, 3] (by decide) rfl)) rfl rfl hl.1 rfl (lv_room (Nat.le_of_ble_eq_true rfl)) dX6_lowestAlike_49 ⟨Nat.zero_le _, Nat.zero_le _⟩) hP hD hS [4, 5, 2, 3] rfl (fun _ => rfl) (fun r c7 H locs hw hP hD hS => ?_)
        obtain rfl := hw
        have hP : va_P Γ.1 vwCl [(xa, .inr (6, [.ref fa, .ref xs, .ref xk, .ref ha, .ref ta, .ref sa, .ref oa, .ref pa, .ref ja])), (fa, .inr (0, [.ref a, .int (nI n0), .int (nI th0), .int (nI mv0)])), (a, .inr (1, [.ref e])), (e, .inl (Γ.2 0, 14, .inl (aN g))), (sa, .inr (4, [.ref sc])), (sc, .inl (Γ.2 0, 14, .inl (aN c7)))] H := hP
        have hD : va_D A [(xa, .inr (6, [.ref fa, .ref xs, .ref xk, .ref ha, .ref ta, .ref sa, .ref oa, .ref pa, .ref ja])), (fa, .inr (0, [.ref a, .int (nI n0), .int (nI th0), .int (nI mv0)])), (a, .inr (1, [.ref e])), (e, .inl (Γ.2 0, 14, .inl (aN g))), (sa, .inr (4, [.ref sc])), (sc, .inl (Γ.2 0, 14, .inl (aN c7)))] := hD
        refine lv_iload_n hx hb dX6_lowestAlike_52 rfl (lv_at hl 1 rfl) ?_
        have hl1 := mxC_lt hfg (trA_lt g th0 k1) 14
        have hl2 := mxC_lt hfg (trA_lt g th0 t0) 14
        refine nb_icmp_ne (tgt := 58) hx hb (by omega) (by omega) dX6_lowestAlike_53 (by decide) (fun c_53 => ?_) (fun c_53 => ?_)
        · skip
          refine lv_iinc (v := (nI (k1 + 1))) (lv' := [(3, .int (nI (k1 + 1))), (2, .int (nI (mxC g (trA g th0 t0) 14))), (0, .ref xa), (1, .int (nI t0))]) hx hb dX6_lowestAlike_58 hl (k := 0) rfl (nI_1 _) (by decide) rfl (fun ls hl => ?_)
          refine lv_goto (tgt := 25) hx hb dX6_lowestAlike_61 (by decide) ?_
          exact ih25 (k1 + 1) c7 (by first | omega | assumption) (lt_s hs1 (decide_eq_false c_53)) (by omega) _ _ hP hD hS ls (lv_sub hl [0, 1, 2, 3] rfl)
        · skip
          refine lv_iload_n hx hb dX6_lowestAlike_56 rfl (lv_at hl 0 rfl) ?_
          exact hret c7 hP hS (by rw [alk, fst_eq c_27 (decide_eq_true c_53) hs1]) dX6_lowestAlike_57
  exact LP25 ((t0 - 0) + 1) 0 c6 (by first | omega | assumption) (fun i9 h9 => absurd h9 (Nat.not_lt_zero _)) (Nat.lt_succ_self _) _ _ hP hD hS ls (lv_sub hl [0, 1, 2, 3] rfl)
set_option maxHeartbeats 8000000 in
set_option maxRecDepth 100000 in
theorem c_X6_classCount (l : Launch) (Γ : kG) (xa : Nat) (xs : Nat) (xk : Nat) (ha : Nat) (ta : Nat) (sa : Nat) (oa : Nat) (pa : Nat) (ja : Nat) (fa : Nat) (n0 : Nat) (th0 : Nat) (mv0 : Nat) (a : Nat) (e : Nat) (g : Nat → Nat) (sc : Nat) (cf : Nat → Nat) (hfg : FG g) (hn0 : n0 ≤ 14) (hth : th0 < 2 ^ n0) : WRi l yX6_classCount (wsq yX6_classCount cX6_classCount 4 (some .int)) (rmL 21) Γ [.ref xa] [(xa, .inr (6, [.ref fa, .ref xs, .ref xk, .ref ha, .ref ta, .ref sa, .ref oa, .ref pa, .ref ja])), (fa, .inr (0, [.ref a, .int (nI n0), .int (nI th0), .int (nI mv0)])), (a, .inr (1, [.ref e])), (e, .inl (Γ.2 0, 14, .inl (aN g))), (sa, .inr (4, [.ref sc])), (sc, .inl (Γ.2 0, 14, .inl (aN cf)))] (fun u : (Nat → Nat) => [(xa, .inr (6, [.ref fa, .ref xs, .ref xk, .ref ha, .ref ta, .ref sa, .ref oa, .ref pa, .ref ja])), (fa, .inr (0, [.ref a, .int (nI n0), .int (nI th0), .int (nI mv0)])), (a, .inr (1, [.ref e])), (e, .inl (Γ.2 0, 14, .inl (aN g))), (sa, .inr (4, [.ref sc])), (sc, .inl (Γ.2 0, 14, .inl (aN u)))]) (fun (r : Int32) (u : (Nat → Nat)) => r = (nI (clN g (trA g th0) 14 (trC g th0)))) := by
  refine wr_ofi (cc := cX6_classCount) (maxL := 4) (by decide +kernel) (Nat.le_of_ble_eq_true rfl) rfl ?_
  intro p ev R st mi args below meth cd Q A ls C0 hR hret hP hD hS hl
  obtain ⟨hx, hb, hr, hml, hown, hts, hlk, hK, hnm⟩ := C0
  have hown : st.vm.findClass RX6 = some mi.cls := hown
  have hw14 := w14 hth hn0
  have hc := (trC_spec g hw14).1
  refine lv_iconst (v := (nI 0)) hx hb dX6_classCount_0 (by decide) ?_
  refine lv_istore_n (lv' := [(1, .int (nI 0)), (0, .ref xa)]) hx hb dX6_classCount_1 rfl hl (by decide) rfl (fun ls hl => ?_)
  refine lv_aload_n hx hb dX6_classCount_2 rfl (lv_at hl 1 rfl) ?_
  refine va_get (D := Γ.1) (ci := 6) (v := .ref fa) (C := RX6) (T := TX6) (N := 9) hx hb hts hinX6 hown hK.1 hP 0 rfl rfl 0 (by decide) (hts _ mw_209) (fun _ h9 => h9) rfl dX6_classCount_3 ?_
  refine ro_fin (va_runVN (As := []) (rest := []) ⟨hx, hb, hml, hown, hts⟩ (c_X0_treeCount l Γ _ fa n0 th0 mv0 a e g (hP.sub (ws' := [(fa, .inr (0, [.ref a, .int (nI n0), .int (nI th0), .int (nI mv0)])), (a, .inr (1, [.ref e])), (e, .inl (Γ.2 0, 14, .inl (aN g)))]) [1, 2, 3] rfl) (hfg.1) (hw14)) (kcwVN 0 hts kv_X0_treeCount (hK.nw _ (nwL_at 6 rfl)) (rm_le hR (Nat.le_of_ble_eq_true rfl) (Nat.le_of_ble_eq_true rfl))) (kPc_V hK (va_recv hK.1 hP (ci := 0) (q0 := 1) rfl rfl)) rfl rfl hl.1 rfl (lv_room (Nat.le_of_ble_eq_true rfl)) dX6_classCount_6 ⟨Nat.zero_le _, Nat.zero_le _⟩) hS (fun locs hS => ?_)
  refine lv_istore_n (lv' := [(2, .int (nI (trC g th0))), (1, .int (nI 0)), (0, .ref xa)]) hx hb dX6_classCount_9 rfl hl (by decide) rfl (fun ls hl => ?_)
  refine lv_iconst (v := (nI 0)) hx hb dX6_classCount_10 (by decide) ?_
  refine lv_istore_n (lv' := [(3, .int (nI 0)), (2, .int (nI (trC g th0))), (1, .int (nI 0)), (0, .ref xa)]) hx hb dX6_classCount_11 rfl hl (by decide) rfl (fun ls hl => ?_)
  have LP12 : ∀ (fu : Nat) (k1 : Nat) (c8 : Nat → Nat) (hk1 : k1 ≤ trC g th0), (trC g th0 - k1) < fu → ∀ (H : Heap) (locs : List Loc), va_P Γ.1 vwCl [(xa, .inr (6, [.ref fa, .ref xs, .ref xk, .ref ha, .ref ta, .ref sa, .ref oa, .ref pa, .ref ja])), (fa, .inr (0, [.ref a, .int (nI n0), .int (nI th0), .int (nI mv0)])), (a, .inr (1, [.ref e])), (e, .inl (Γ.2 0, 14, .inl (aN g))), (sa, .inr (4, [.ref sc])), (sc, .inl (Γ.2 0, 14, .inl (aN c8)))] H → va_D A [(xa, .inr (6, [.ref fa, .ref xs, .ref xk, .ref ha, .ref ta, .ref sa, .ref oa, .ref pa, .ref ja])), (fa, .inr (0, [.ref a, .int (nI n0), .int (nI th0), .int (nI mv0)])), (a, .inr (1, [.ref e])), (e, .inl (Γ.2 0, 14, .inl (aN g))), (sa, .inr (4, [.ref sc])), (sc, .inl (Γ.2 0, 14, .inl (aN c8)))] → va_S A st.heap H locs → ∀ (ls : Array Slot), lv_has ls 4 [(3, .int (nI k1)), (2, .int (nI (trC g th0))), (1, .int (nI (clN g (trA g th0) 14 k1))), (0, .ref xa)] → W p l ev R st mi args below meth cd H locs 0 0 Q (F0 mi 12 ls []) := by
    intro fu
    induction fu with
    | zero => intro k1 c8 hk1 hfu; exact absurd hfu (Nat.not_lt_zero _)
    | succ fu ih12 =>
      intro k1 c8 hk1 hfu H locs hP hD hS ls hl
      refine lv_iload_n hx hb dX6_classCount_12 rfl (lv_at hl 0 rfl) ?_
      refine lv_iload_n hx hb dX6_classCount_13 rfl (lv_at hl 1 rfl) ?_
      refine nb_icmp_ge (tgt := 35) hx hb (by first | omega | assumption) (by first | omega | assumption) dX6_classCount_14 (by decide) (fun c_14 => ?_) (fun c_14 => ?_)
      · skip
        have he9 : trC g th0 = k1 := by omega
        subst he9
        refine lv_iload_n hx hb dX6_classCount_35 rfl (lv_at hl 2 rfl) ?_
        exact hret c8 hP hS (rfl) dX6_classCount_36
      · skip
        refine lv_aload_n hx hb dX6_classCount_17 rfl (lv_at hl 3 rfl) ?_
        refine lv_iload_n hx hb dX6_classCount_18 rfl (lv_at hl 0 rfl) ?_
        refine wr_fini (va_runV (As := [.int (nI k1)]) (rest := []) ⟨hx, hb, hml, hown, hts⟩ (c_X6_lowestAlike l Γ xa xs xk ha ta sa oa pa ja fa n0 th0 mv0 a e g sc c8 k1 (by first | omega | assumption) (by first | omega | assumption) (by first | omega | assumption) (by first | omega | assumption)) (kcwV 1 hts kv_X6_lowestAlike mw_329 (rm_le hR (Nat.le_of_ble_eq_true rfl) (Nat.le_of_ble_eq_true rfl))) (kPw_V hK (va_recv hK.1 hP (ci := 6) (q0 := 0) rfl rfl) (hP.sub (ws' := [(xa, .inr (6, [.ref fa, .ref xs, .ref xk, .ref ha, .ref ta, .ref sa, .ref oa, .ref pa, .ref ja])), (fa, .inr (0, [.ref a, .int (nI n0), .int (nI th0), .int (nI mv0)])), (a, .inr (1, [.ref e])), (e, .inl (Γ.2 0, 14, .inl (aN g))), (sa, .inr (4, [.ref sc])), (sc, .inl (Γ.2 0, 14, .inl (aN c8)))]) [0, 1, 2, 3, 4, 5] rfl) (hD.sub (ws' := [(xa, .inr (6, [.ref fa, .ref xs, .ref xk, .ref ha, .ref ta, .ref sa, .ref oa, .ref pa, .ref ja])), (fa, .inr (0, [.ref a, .int (nI n0), .int (nI th0), .int (nI mv0)])), (a, .inr (1, [.ref e])), (e, .inl (Γ.2 0, 14, .inl (aN g))), (sa, .inr (4, [.ref sc])), (sc, .inl (Γ.2 0, 14, .inl (aN c8)))]) [0, 1, 2, 3, 4, 5] (by decide) rfl)) rfl rfl hl.1 rfl (lv_room (Nat.le_of_ble_eq_true rfl)) dX6_classCount_19 ⟨Nat.zero_le _, Nat.zero_le _⟩) hP hD hS [0, 1, 2, 3, 4, 5] rfl (fun _ => rfl) (fun r c7 H locs hw hP hD hS => ?_)
        obtain rfl := hw
        have hP : va_P Γ.1 vwCl [(xa, .inr (6, [.ref fa, .ref xs, .ref xk, .ref ha, .ref ta, .ref sa, .ref oa, .ref pa, .ref ja])), (fa, .inr (0, [.ref a, .int (nI n0), .int (nI th0), .int (nI mv0)])), (a, .inr (1, [.ref e])), (e, .inl (Γ.2 0, 14, .inl (aN g))), (sa, .inr (4, [.ref sc])), (sc, .inl (Γ.2 0, 14, .inl (aN c7)))] H := hP
        have hD : va_D A [(xa, .inr (6, [.ref fa, .ref xs, .ref xk, .ref ha, .ref ta, .ref sa, .ref oa, .ref pa, .ref ja])), (fa, .inr (0, [.ref a, .int (nI n0), .int (nI th0), .int (nI mv0)])), (a, .inr (1, [.ref e])), (e, .inl (Γ.2 0, 14, .inl (aN g))), (sa, .inr (4, [.ref sc])), (sc, .inl (Γ.2 0, 14, .inl (aN c7)))] := hD
        refine lv_iload_n hx hb dX6_classCount_22 rfl (lv_at hl 0 rfl) ?_
        have hle9 := alk_le g (trA g th0) 14 k1
        refine nb_icmp_ne (tgt := 29) hx hb (by omega) (by omega) dX6_classCount_23 (by decide) (fun c_23 => ?_) (fun c_23 => ?_)
        · skip
          refine lv_iinc (v := (nI (k1 + 1))) (lv' := [(3, .int (nI (k1 + 1))), (2, .int (nI (trC g th0))), (1, .int (nI (clN g (trA g th0) 14 k1))), (0, .ref xa)]) hx hb dX6_classCount_29 hl (k := 0) rfl (nI_1 _) (by decide) rfl (fun ls hl => ?_)
          refine lv_goto (tgt := 12) hx hb dX6_classCount_32 (by decide) ?_
          exact ih12 (k1 + 1) c7 (by first | omega | assumption) (by omega) _ _ hP hD hS ls (lv_cast (lv_sub hl [0, 1, 2, 3] rfl) (by first | (rw [clN, if_pos c_23]; rfl) | (rw [clN, if_neg c_23]; rfl)))
        · skip
          refine lv_iinc (v := (nI ((clN g (trA g th0) 14 k1) + 1))) (lv' := [(1, .int (nI ((clN g (trA g th0) 14 k1) + 1))), (3, .int (nI k1)), (2, .int (nI (trC g th0))), (0, .ref xa)]) hx hb dX6_classCount_26 hl (k := 2) rfl (nI_1 _) (by decide) rfl (fun ls hl => ?_)
          refine lv_iinc (v := (nI (k1 + 1))) (lv' := [(3, .int (nI (k1 + 1))), (1, .int (nI ((clN g (trA g th0) 14 k1) + 1))), (2, .int (nI (trC g th0))), (0, .ref xa)]) hx hb dX6_classCount_29 hl (k := 1) rfl (nI_1 _) (by decide) rfl (fun ls hl => ?_)
          refine lv_goto (tgt := 12) hx hb dX6_classCount_32 (by decide) ?_
          exact ih12 (k1 + 1) c7 (by first | omega | assumption) (by omega) _ _ hP hD hS ls (lv_cast (lv_sub hl [0, 2, 1, 3] rfl) (by first | (rw [clN, if_pos c_23]; rfl) | (rw [clN, if_neg c_23]; rfl)))
  exact LP12 ((trC g th0 - 0) + 1) 0 cf (by first | omega | assumption) (Nat.lt_succ_self _) _ _ hP hD hS ls (lv_cast (lv_sub hl [0, 1, 2, 3] rfl) (by rfl))
set_option maxHeartbeats 8000000 in
set_option maxRecDepth 100000 in
theorem c_X6_isMirror (l : Launch) (Γ : kG) (xa : Nat) (xs : Nat) (xk : Nat) (ha : Nat) (ta : Nat) (sa : Nat) (oa : Nat) (pa : Nat) (ja : Nat) (fa : Nat) (n0 : Nat) (th0 : Nat) (mv0 : Nat) (a : Nat) (e : Nat) (g : Nat → Nat) (sc : Nat) (cf : Nat → Nat) (i0 : Nat) (j0 : Nat) (hfg : FG g) (hn0 : n0 ≤ 14) (hth : th0 < 2 ^ n0) (hi0 : i0 < 14) (hj0 : j0 < 14) : WRi l yX6_isMirror (wsq yX6_isMirror cX6_isMirror 5 (some .boolean)) (rmL 20) Γ [.ref xa, .int (nI i0), .int (nI j0)] [(xa, .inr (6, [.ref fa, .ref xs, .ref xk, .ref ha, .ref ta, .ref sa, .ref oa, .ref pa, .ref ja])), (fa, .inr (0, [.ref a, .int (nI n0), .int (nI th0), .int (nI mv0)])), (a, .inr (1, [.ref e])), (e, .inl (Γ.2 0, 14, .inl (aN g))), (sa, .inr (4, [.ref sc])), (sc, .inl (Γ.2 0, 14, .inl (aN cf)))] (fun u : (Nat → Nat) => [(xa, .inr (6, [.ref fa, .ref xs, .ref xk, .ref ha, .ref ta, .ref sa, .ref oa, .ref pa, .ref ja])), (fa, .inr (0, [.ref a, .int (nI n0), .int (nI th0), .int (nI mv0)])), (a, .inr (1, [.ref e])), (e, .inl (Γ.2 0, 14, .inl (aN g))), (sa, .inr (4, [.ref sc])), (sc, .inl (Γ.2 0, 14, .inl (aN u)))]) (fun (r : Int32) (u : (Nat → Nat)) => r = (bI (miB g th0 14 i0 j0))) := by
  refine wr_ofz (cc := cX6_isMirror) (maxL := 5) (by decide +kernel) (Nat.le_of_ble_eq_true rfl) rfl ?_
  intro p ev R st mi args below meth cd Q A ls C0 hR hret hP hD hS hl
  obtain ⟨hx, hb, hr, hml, hown, hts, hlk, hK, hnm⟩ := C0
  have hown : st.vm.findClass RX6 = some mi.cls := hown
  have hw14 := w14 hth hn0
  refine lv_aload_n hx hb dX6_isMirror_0 rfl (lv_at hl 0 rfl) ?_
  refine va_get (D := Γ.1) (ci := 6) (v := .ref fa) (C := RX6) (T := TX6) (N := 9) hx hb hts hinX6 hown hK.1 hP 0 rfl rfl 0 (by decide) (hts _ mw_209) (fun _ h9 => h9) rfl dX6_isMirror_1 ?_
  refine lv_iload_n hx hb dX6_isMirror_4 rfl (lv_at hl 1 rfl) ?_
  refine lv_iload_n hx hb dX6_isMirror_5 rfl (lv_at hl 2 rfl) ?_
  refine ro_fin (va_runVN (As := [.int (nI i0), .int (nI j0)]) (rest := []) ⟨hx, hb, hml, hown, hts⟩ (c_X0_hasEdge l Γ _ fa n0 th0 mv0 a e g i0 j0 (hP.sub (ws' := [(fa, .inr (0, [.ref a, .int (nI n0), .int (nI th0), .int (nI mv0)])), (a, .inr (1, [.ref e])), (e, .inl (Γ.2 0, 14, .inl (aN g)))]) [1, 2, 3] rfl) (hfg.1) (hw14) (by first | omega | assumption) (by first | omega | assumption)) (kcwVN 2 hts kv_X0_hasEdge (hK.nw _ (nwL_at 7 rfl)) (rm_le hR (Nat.le_of_ble_eq_true rfl) (Nat.le_of_ble_eq_true rfl))) (kPc_V hK (va_recv hK.1 hP (ci := 0) (q0 := 1) rfl rfl)) rfl rfl hl.1 rfl (lv_room (Nat.le_of_ble_eq_true rfl)) dX6_isMirror_6 ⟨Nat.zero_le _, Nat.zero_le _⟩) hS (fun locs hS => ?_)
  refine tp_i (y := (bI (edB g th0 i0 j0))) (rfl) ?_
  refine nb_ifb_ne (tgt := 14) hx hb dX6_isMirror_9 (by decide) (fun c_9 => ?_) (fun c_9 => ?_)
  · skip
    have hed := c_9
    rw [edB, Bool.and_eq_true, Bool.and_eq_true] at hed
    have hne := FG_ne hfg hi0 hed.2
    refine lv_aload_n hx hb dX6_isMirror_14 rfl (lv_at hl 0 rfl) ?_
    refine va_get (D := Γ.1) (ci := 6) (v := .ref fa) (C := RX6) (T := TX6) (N := 9) hx hb hts hinX6 hown hK.1 hP 0 rfl rfl 0 (by decide) (hts _ mw_209) (fun _ h9 => h9) rfl dX6_isMirror_15 ?_
    refine va_getN (host := "TreeKayles") (D := Γ.1) (ci := 0) (v := .ref a) (C := RX0) (T := TX0) (N := 4) hx hb hts hinX0 hown hK.1 hP 1 rfl rfl 0 (by decide) (va_Nw.use rfl (hK.nw _ (nwL_at 5 rfl))) (fun _ h9 => h9) rfl dX6_isMirror_18 ?_
    refine lv_iload_n hx hb dX6_isMirror_21 rfl (lv_at hl 1 rfl) ?_
    refine lv_aload_n hx hb dX6_isMirror_22 rfl (lv_at hl 0 rfl) ?_
    refine va_get (D := Γ.1) (ci := 6) (v := .ref fa) (C := RX6) (T := TX6) (N := 9) hx hb hts hinX6 hown hK.1 hP 0 rfl rfl 0 (by decide) (hts _ mw_209) (fun _ h9 => h9) rfl dX6_isMirror_23 ?_
    refine va_getN (host := "TreeKayles") (D := Γ.1) (ci := 0) (v := .int (nI th0)) (C := RX0) (T := TX0) (N := 4) hx hb hts hinX0 hown hK.1 hP 1 rfl rfl 2 (by decide) (va_Nw.use rfl (hK.nw _ (nwL_at 0 rfl))) (fun _ h9 => h9) rfl dX6_isMirror_26 ?_
    refine lv_iload_n hx hb dX6_isMirror_29 rfl (lv_at hl 2 rfl) ?_
    refine ro_fin (va_runS (As := [.int (nI j0)]) (rest := [.int (nI th0), .int (nI i0), .ref a]) ⟨hx, hb, hml, hown, hts⟩ (c_X6_bit l Γ _ j0 (by first | omega | assumption)) (kcwS 1 hts kv_X6_bit mw_258 (rm_le hR (Nat.le_of_ble_eq_true rfl) (Nat.le_of_ble_eq_true rfl))) (kPc_S hK) rfl rfl hl.1 rfl (lv_room (Nat.le_of_ble_eq_true rfl)) dX6_isMirror_30 ⟨Nat.zero_le _, Nat.zero_le _⟩) hS (fun locs hS => ?_)
    refine lv_iconst (v := (-1)) hx hb dX6_isMirror_33 (by decide) ?_
    refine lv_ixor hx hb dX6_isMirror_34 ?_
    refine lv_iand hx hb dX6_isMirror_35 ?_
    refine tp_i (y := (nI (sd th0 (2 ^ j0)))) (ni_sd _ _) ?_
    refine ro_fin (va_runVN (As := [.int (nI i0), .int (nI (sd th0 (2 ^ j0)))]) (rest := []) ⟨hx, hb, hml, hown, hts⟩ (c_X1_reach l Γ _ a e g i0 (sd th0 (2 ^ j0)) (hP.sub (ws' := [(a, .inr (1, [.ref e])), (e, .inl (Γ.2 0, 14, .inl (aN g)))]) [2, 3] rfl) (hfg.1) (hi0) (sd_14 _ hw14) (sd_sub.mpr ⟨hed.1.1, hne⟩)) (kcwVN 2 hts kv_X1_reach (hK.nw _ (nwL_at 36 rfl)) (rm_le hR (Nat.le_of_ble_eq_true rfl) (Nat.le_of_ble_eq_true rfl))) (kPc_V hK (va_recv hK.1 hP (ci := 1) (q0 := 2) rfl rfl)) rfl rfl hl.1 rfl (lv_room (Nat.le_of_ble_eq_true rfl)) dX6_isMirror_36 ⟨Nat.zero_le _, Nat.zero_le _⟩) hS (fun locs hS => ?_)
    refine lv_istore_n (lv' := [(3, .int (nI (comp g (sd th0 (2 ^ j0)) i0))), (0, .ref xa), (1, .int (nI i0)), (2, .int (nI j0))]) hx hb dX6_isMirror_39 rfl hl (by decide) rfl (fun ls hl => ?_)
    refine lv_aload_n hx hb dX6_isMirror_40 rfl (lv_at hl 1 rfl) ?_
    refine va_get (D := Γ.1) (ci := 6) (v := .ref fa) (C := RX6) (T := TX6) (N := 9) hx hb hts hinX6 hown hK.1 hP 0 rfl rfl 0 (by decide) (hts _ mw_209) (fun _ h9 => h9) rfl dX6_isMirror_41 ?_
    refine va_getN (host := "TreeKayles") (D := Γ.1) (ci := 0) (v := .ref a) (C := RX0) (T := TX0) (N := 4) hx hb hts hinX0 hown hK.1 hP 1 rfl rfl 0 (by decide) (va_Nw.use rfl (hK.nw _ (nwL_at 5 rfl))) (fun _ h9 => h9) rfl dX6_isMirror_44 ?_
    refine lv_iload_n hx hb dX6_isMirror_47 rfl (lv_at hl 3 rfl) ?_
    refine lv_aload_n hx hb dX6_isMirror_48 rfl (lv_at hl 1 rfl) ?_
    refine va_get (D := Γ.1) (ci := 6) (v := .ref fa) (C := RX6) (T := TX6) (N := 9) hx hb hts hinX6 hown hK.1 hP 0 rfl rfl 0 (by decide) (hts _ mw_209) (fun _ h9 => h9) rfl dX6_isMirror_49 ?_
    refine va_getN (host := "TreeKayles") (D := Γ.1) (ci := 0) (v := .int (nI th0)) (C := RX0) (T := TX0) (N := 4) hx hb hts hinX0 hown hK.1 hP 1 rfl rfl 2 (by decide) (va_Nw.use rfl (hK.nw _ (nwL_at 0 rfl))) (fun _ h9 => h9) rfl dX6_isMirror_52 ?_
    refine lv_iload_n hx hb dX6_isMirror_55 rfl (lv_at hl 2 rfl) ?_
    refine ro_fin (va_runS (As := [.int (nI i0)]) (rest := [.int (nI th0), .int (nI j0), .ref a]) ⟨hx, hb, hml, hown, hts⟩ (c_X6_bit l Γ _ i0 (by first | omega | assumption)) (kcwS 1 hts kv_X6_bit mw_258 (rm_le hR (Nat.le_of_ble_eq_true rfl) (Nat.le_of_ble_eq_true rfl))) (kPc_S hK) rfl rfl hl.1 rfl (lv_room (Nat.le_of_ble_eq_true rfl)) dX6_isMirror_56 ⟨Nat.zero_le _, Nat.zero_le _⟩) hS (fun locs hS => ?_)
    refine lv_iconst (v := (-1)) hx hb dX6_isMirror_59 (by decide) ?_
    refine lv_ixor hx hb dX6_isMirror_60 ?_
    refine lv_iand hx hb dX6_isMirror_61 ?_
    refine tp_i (y := (nI (sd th0 (2 ^ i0)))) (ni_sd _ _) ?_
    refine ro_fin (va_runVN (As := [.int (nI j0), .int (nI (sd th0 (2 ^ i0)))]) (rest := []) ⟨hx, hb, hml, hown, hts⟩ (c_X1_reach l Γ _ a e g j0 (sd th0 (2 ^ i0)) (hP.sub (ws' := [(a, .inr (1, [.ref e])), (e, .inl (Γ.2 0, 14, .inl (aN g)))]) [2, 3] rfl) (hfg.1) (hj0) (sd_14 _ hw14) (sd_sub.mpr ⟨hed.1.2, fun q9 => hne q9.symm⟩)) (kcwVN 2 hts kv_X1_reach (hK.nw _ (nwL_at 36 rfl)) (rm_le hR (Nat.le_of_ble_eq_true rfl) (Nat.le_of_ble_eq_true rfl))) (kPc_V hK (va_recv hK.1 hP (ci := 1) (q0 := 2) rfl rfl)) rfl rfl hl.1 rfl (lv_room (Nat.le_of_ble_eq_true rfl)) dX6_isMirror_62 ⟨Nat.zero_le _, Nat.zero_le _⟩) hS (fun locs hS => ?_)
    refine lv_istore (lv' := [(4, .int (nI (comp g (sd th0 (2 ^ i0)) j0))), (3, .int (nI (comp g (sd th0 (2 ^ j0)) i0))), (0, .ref xa), (1, .int (nI i0)), (2, .int (nI j0))]) hx hb dX6_isMirror_65 hl (by decide) rfl (fun ls hl => ?_)
    refine lv_iload_n hx hb dX6_isMirror_67 rfl (lv_at hl 1 rfl) ?_
    refine ro_fin (va_runS (As := [.int (nI (comp g (sd th0 (2 ^ j0)) i0))]) (rest := []) ⟨hx, hb, hml, hown, hts⟩ (c_J6_bitCount_0f7a4 l Γ _ (comp g (sd th0 (2 ^ j0)) i0) (comp_lt _ _ _)) (kcwS 1 hts kv_J6_bitCount_0f7a4 mw_259 (rm_le hR (Nat.le_of_ble_eq_true rfl) (Nat.le_of_ble_eq_true rfl))) (kPc_S hK) rfl rfl hl.1 rfl (lv_room (Nat.le_of_ble_eq_true rfl)) dX6_isMirror_68 ⟨Nat.zero_le _, Nat.zero_le _⟩) hS (fun locs hS => ?_)
    refine lv_iload hx hb dX6_isMirror_71 (lv_at hl 0 rfl) ?_
    refine ro_fin (va_runS (As := [.int (nI (comp g (sd th0 (2 ^ i0)) j0))]) (rest := [.int (nI (pc (comp g (sd th0 (2 ^ j0)) i0)))]) ⟨hx, hb, hml, hown, hts⟩ (c_J6_bitCount_0f7a4 l Γ _ (comp g (sd th0 (2 ^ i0)) j0) (comp_lt _ _ _)) (kcwS 1 hts kv_J6_bitCount_0f7a4 mw_259 (rm_le hR (Nat.le_of_ble_eq_true rfl) (Nat.le_of_ble_eq_true rfl))) (kPc_S hK) rfl rfl hl.1 rfl (lv_room (Nat.le_of_ble_eq_true rfl)) dX6_isMirror_73 ⟨Nat.zero_le _, Nat.zero_le _⟩) hS (fun locs hS => ?_)
    refine nb_icmp_ne (tgt := 117) hx hb (Nat.lt_of_le_of_lt (pc_le _) (by decide)) (Nat.lt_of_le_of_lt (pc_le _) (by decide)) dX6_isMirror_76 (by decide) (fun c_76 => ?_) (fun c_76 => ?_)
    · skip
      refine lv_iconst (v := (nI 0)) hx hb dX6_isMirror_117 (by decide) ?_
      exact hret cf hP hS (by first | (rw [miB, c_9, mrB, decide_eq_true c_76, decide_eq_true c_110]; rfl) | (rw [miB, c_9, mrB, decide_eq_false c_110, Bool.and_false]; rfl) | (rw [miB, c_9, mrB, decide_eq_false c_76]; rfl)) ⟨false, rfl⟩ dX6_isMirror_118
    · skip
      refine lv_aload_n hx hb dX6_isMirror_79 rfl (lv_at hl 2 rfl) ?_
      refine va_get (D := Γ.1) (ci := 6) (v := .ref sa) (C := RX6) (T := TX6) (N := 9) hx hb hts hinX6 hown hK.1 hP 0 rfl rfl 5 (by decide) (hts _ mw_222) (fun _ h9 => h9) rfl dX6_isMirror_80 ?_
      refine lv_aload_n hx hb dX6_isMirror_83 rfl (lv_at hl 2 rfl) ?_
      refine va_get (D := Γ.1) (ci := 6) (v := .ref fa) (C := RX6) (T := TX6) (N := 9) hx hb hts hinX6 hown hK.1 hP 0 rfl rfl 0 (by decide) (hts _ mw_209) (fun _ h9 => h9) rfl dX6_isMirror_84 ?_
      refine va_getN (host := "TreeKayles") (D := Γ.1) (ci := 0) (v := .ref a) (C := RX0) (T := TX0) (N := 4) hx hb hts hinX0 hown hK.1 hP 1 rfl rfl 0 (by decide) (va_Nw.use rfl (hK.nw _ (nwL_at 5 rfl))) (fun _ h9 => h9) rfl dX6_isMirror_87 ?_
      refine lv_iload_n hx hb dX6_isMirror_90 rfl (lv_at hl 1 rfl) ?_
      refine wr_fini (va_runVN (As := [.ref a, .int (nI (comp g (sd th0 (2 ^ j0)) i0))]) (rest := []) ⟨hx, hb, hml, hown, hts⟩ (c_X4_classFor l Γ sa sc cf a e g (comp g (sd th0 (2 ^ j0)) i0) (by first | omega | assumption) (comp_lt _ _ _)) (kcwVN 2 hts kv_X4_classFor (hK.nw _ (nwL_at 35 rfl)) (rm_le hR (Nat.le_of_ble_eq_true rfl) (Nat.le_of_ble_eq_true rfl))) (kPw_V hK (va_recv hK.1 hP (ci := 4) (q0 := 4) rfl rfl) (hP.sub (ws' := [(sa, .inr (4, [.ref sc])), (sc, .inl (Γ.2 0, 14, .inl (aN cf))), (a, .inr (1, [.ref e])), (e, .inl (Γ.2 0, 14, .inl (aN g)))]) [4, 5, 2, 3] rfl) (hD.sub (ws' := [(sa, .inr (4, [.ref sc])), (sc, .inl (Γ.2 0, 14, .inl (aN cf))), (a, .inr (1, [.ref e])), (e, .inl (Γ.2 0, 14, .inl (aN g)))]) [4, 5, 2, 3] (by decide) rfl)) rfl rfl hl.1 rfl (lv_room (Nat.le_of_ble_eq_true rfl)) dX6_isMirror_91 ⟨Nat.zero_le _, Nat.zero_le _⟩) hP hD hS [4, 5, 2, 3] rfl (fun _ => rfl) (fun r c6 H locs hw hP hD hS => ?_)
      obtain rfl := hw
      have hP : va_P Γ.1 vwCl [(xa, .inr (6, [.ref fa, .ref xs, .ref xk, .ref ha, .ref ta, .ref sa, .ref oa, .ref pa, .ref ja])), (fa, .inr (0, [.ref a, .int (nI n0), .int (nI th0), .int (nI mv0)])), (a, .inr (1, [.ref e])), (e, .inl (Γ.2 0, 14, .inl (aN g))), (sa, .inr (4, [.ref sc])), (sc, .inl (Γ.2 0, 14, .inl (aN c6)))] H := hP
      have hD : va_D A [(xa, .inr (6, [.ref fa, .ref xs, .ref xk, .ref ha, .ref ta, .ref sa, .ref oa, .ref pa, .ref ja])), (fa, .inr (0, [.ref a, .int (nI n0), .int (nI th0), .int (nI mv0)])), (a, .inr (1, [.ref e])), (e, .inl (Γ.2 0, 14, .inl (aN g))), (sa, .inr (4, [.ref sc])), (sc, .inl (Γ.2 0, 14, .inl (aN c6)))] := hD
      refine lv_aload_n hx hb dX6_isMirror_94 rfl (lv_at hl 2 rfl) ?_
      refine va_get (D := Γ.1) (ci := 6) (v := .ref sa) (C := RX6) (T := TX6) (N := 9) hx hb hts hinX6 hown hK.1 hP 0 rfl rfl 5 (by decide) (hts _ mw_222) (fun _ h9 => h9) rfl dX6_isMirror_95 ?_
      refine lv_aload_n hx hb dX6_isMirror_98 rfl (lv_at hl 2 rfl) ?_
      refine va_get (D := Γ.1) (ci := 6) (v := .ref fa) (C := RX6) (T := TX6) (N := 9) hx hb hts hinX6 hown hK.1 hP 0 rfl rfl 0 (by decide) (hts _ mw_209) (fun _ h9 => h9) rfl dX6_isMirror_99 ?_
      refine va_getN (host := "TreeKayles") (D := Γ.1) (ci := 0) (v := .ref a) (C := RX0) (T := TX0) (N := 4) hx hb hts hinX0 hown hK.1 hP 1 rfl rfl 0 (by decide) (va_Nw.use rfl (hK.nw _ (nwL_at 5 rfl))) (fun _ h9 => h9) rfl dX6_isMirror_102 ?_
      refine lv_iload hx hb dX6_isMirror_105 (lv_at hl 0 rfl) ?_
      refine wr_fini (va_runVN (As := [.ref a, .int (nI (comp g (sd th0 (2 ^ i0)) j0))]) (rest := [.int (nI (mxC g (comp g (sd th0 (2 ^ j0)) i0) 14))]) ⟨hx, hb, hml, hown, hts⟩ (c_X4_classFor l Γ sa sc c6 a e g (comp g (sd th0 (2 ^ i0)) j0) (by first | omega | assumption) (comp_lt _ _ _)) (kcwVN 2 hts kv_X4_classFor (hK.nw _ (nwL_at 35 rfl)) (rm_le hR (Nat.le_of_ble_eq_true rfl) (Nat.le_of_ble_eq_true rfl))) (kPw_V hK (va_recv hK.1 hP (ci := 4) (q0 := 4) rfl rfl) (hP.sub (ws' := [(sa, .inr (4, [.ref sc])), (sc, .inl (Γ.2 0, 14, .inl (aN c6))), (a, .inr (1, [.ref e])), (e, .inl (Γ.2 0, 14, .inl (aN g)))]) [4, 5, 2, 3] rfl) (hD.sub (ws' := [(sa, .inr (4, [.ref sc])), (sc, .inl (Γ.2 0, 14, .inl (aN c6))), (a, .inr (1, [.ref e])), (e, .inl (Γ.2 0, 14, .inl (aN g)))]) [4, 5, 2, 3] (by decide) rfl)) rfl rfl hl.1 rfl (lv_room (Nat.le_of_ble_eq_true rfl)) dX6_isMirror_107 ⟨Nat.zero_le _, Nat.zero_le _⟩) hP hD hS [4, 5, 2, 3] rfl (fun _ => rfl) (fun r c7 H locs hw hP hD hS => ?_)
      obtain rfl := hw
      have hP : va_P Γ.1 vwCl [(xa, .inr (6, [.ref fa, .ref xs, .ref xk, .ref ha, .ref ta, .ref sa, .ref oa, .ref pa, .ref ja])), (fa, .inr (0, [.ref a, .int (nI n0), .int (nI th0), .int (nI mv0)])), (a, .inr (1, [.ref e])), (e, .inl (Γ.2 0, 14, .inl (aN g))), (sa, .inr (4, [.ref sc])), (sc, .inl (Γ.2 0, 14, .inl (aN c7)))] H := hP
      have hD : va_D A [(xa, .inr (6, [.ref fa, .ref xs, .ref xk, .ref ha, .ref ta, .ref sa, .ref oa, .ref pa, .ref ja])), (fa, .inr (0, [.ref a, .int (nI n0), .int (nI th0), .int (nI mv0)])), (a, .inr (1, [.ref e])), (e, .inl (Γ.2 0, 14, .inl (aN g))), (sa, .inr (4, [.ref sc])), (sc, .inl (Γ.2 0, 14, .inl (aN c7)))] := hD
      have hl1 := mxC_lt hfg (comp_lt g (sd th0 (2 ^ j0)) i0) 14
      have hl2 := mxC_lt hfg (comp_lt g (sd th0 (2 ^ i0)) j0) 14
      refine nb_icmp_ne (tgt := 117) hx hb (by omega) (by omega) dX6_isMirror_110 (by decide) (fun c_110 => ?_) (fun c_110 => ?_)
      · skip
        refine lv_iconst (v := (nI 0)) hx hb dX6_isMirror_117 (by decide) ?_
        exact hret c7 hP hS (by first | (rw [miB, c_9, mrB, decide_eq_true c_76, decide_eq_true c_110]; rfl) | (rw [miB, c_9, mrB, decide_eq_false c_110, Bool.and_false]; rfl) | (rw [miB, c_9, mrB, decide_eq_false c_76]; rfl)) ⟨false, rfl⟩ dX6_isMirror_118
      · skip
        refine lv_iconst (v := (nI 1)) hx hb dX6_isMirror_113 (by decide) ?_
        refine lv_goto (tgt := 118) hx hb dX6_isMirror_114 (by decide) ?_
        exact hret c7 hP hS (by first | (rw [miB, c_9, mrB, decide_eq_true c_76, decide_eq_true c_110]; rfl) | (rw [miB, c_9, mrB, decide_eq_false c_110, Bool.and_false]; rfl) | (rw [miB, c_9, mrB, decide_eq_false c_76]; rfl)) ⟨true, rfl⟩ dX6_isMirror_118
  · skip
    refine lv_iconst (v := (nI 0)) hx hb dX6_isMirror_12 (by decide) ?_
    exact hret cf hP hS (by rw [miB, c_9]; rfl) ⟨false, rfl⟩ dX6_isMirror_13
set_option maxHeartbeats 8000000 in
set_option maxRecDepth 100000 in
theorem c_X6_mirrorsIn (l : Launch) (Γ : kG) (xa : Nat) (xs : Nat) (xk : Nat) (ha : Nat) (ta : Nat) (sa : Nat) (oa : Nat) (pa : Nat) (ja : Nat) (fa : Nat) (n0 : Nat) (th0 : Nat) (mv0 : Nat) (a : Nat) (e : Nat) (g : Nat → Nat) (sc : Nat) (cf : Nat → Nat) (S0 : Nat) (hfg : FG g) (hn0 : n0 ≤ 14) (hth : th0 < 2 ^ n0) (hS0 : S0 < 16384) : WRi l yX6_mirrorsIn (wsq yX6_mirrorsIn cX6_mirrorsIn 5 (some .int)) (rmL 21) Γ [.ref xa, .int (nI S0)] [(xa, .inr (6, [.ref fa, .ref xs, .ref xk, .ref ha, .ref ta, .ref sa, .ref oa, .ref pa, .ref ja])), (fa, .inr (0, [.ref a, .int (nI n0), .int (nI th0), .int (nI mv0)])), (a, .inr (1, [.ref e])), (e, .inl (Γ.2 0, 14, .inl (aN g))), (sa, .inr (4, [.ref sc])), (sc, .inl (Γ.2 0, 14, .inl (aN cf)))] (fun u : (Nat → Nat) => [(xa, .inr (6, [.ref fa, .ref xs, .ref xk, .ref ha, .ref ta, .ref sa, .ref oa, .ref pa, .ref ja])), (fa, .inr (0, [.ref a, .int (nI n0), .int (nI th0), .int (nI mv0)])), (a, .inr (1, [.ref e])), (e, .inl (Γ.2 0, 14, .inl (aN g))), (sa, .inr (4, [.ref sc])), (sc, .inl (Γ.2 0, 14, .inl (aN u)))]) (fun (r : Int32) (u : (Nat → Nat)) => r = (nI ((outM (miQ g th0 14 S0) 14 (-1) 14).1))) := by
  refine wr_ofi (cc := cX6_mirrorsIn) (maxL := 5) (by decide +kernel) (Nat.le_of_ble_eq_true rfl) rfl ?_
  intro p ev R st mi args below meth cd Q A ls C0 hR hret hP hD hS hl
  obtain ⟨hx, hb, hr, hml, hown, hts, hlk, hK, hnm⟩ := C0
  have hown : st.vm.findClass RX6 = some mi.cls := hown
  refine lv_iconst (v := (nI 0)) hx hb dX6_mirrorsIn_0 (by decide) ?_
  refine lv_istore_n (lv' := [(2, .int (nI 0)), (0, .ref xa), (1, .int (nI S0))]) hx hb dX6_mirrorsIn_1 rfl hl (by decide) rfl (fun ls hl => ?_)
  refine lv_iconst (v := (nI 0)) hx hb dX6_mirrorsIn_2 (by decide) ?_
  refine lv_istore_n (lv' := [(3, .int (nI 0)), (2, .int (nI 0)), (0, .ref xa), (1, .int (nI S0))]) hx hb dX6_mirrorsIn_3 rfl hl (by decide) rfl (fun ls hl => ?_)
  have LP4 : ∀ (fu : Nat) (i1 : Nat) (c8 : Nat → Nat) (hi1 : i1 ≤ 14), (14 - i1) < fu → ∀ (H : Heap) (locs : List Loc), va_P Γ.1 vwCl [(xa, .inr (6, [.ref fa, .ref xs, .ref xk, .ref ha, .ref ta, .ref sa, .ref oa, .ref pa, .ref ja])), (fa, .inr (0, [.ref a, .int (nI n0), .int (nI th0), .int (nI mv0)])), (a, .inr (1, [.ref e])), (e, .inl (Γ.2 0, 14, .inl (aN g))), (sa, .inr (4, [.ref sc])), (sc, .inl (Γ.2 0, 14, .inl (aN c8)))] H → va_D A [(xa, .inr (6, [.ref fa, .ref xs, .ref xk, .ref ha, .ref ta, .ref sa, .ref oa, .ref pa, .ref ja])), (fa, .inr (0, [.ref a, .int (nI n0), .int (nI th0), .int (nI mv0)])), (a, .inr (1, [.ref e])), (e, .inl (Γ.2 0, 14, .inl (aN g))), (sa, .inr (4, [.ref sc])), (sc, .inl (Γ.2 0, 14, .inl (aN c8)))] → va_S A st.heap H locs → ∀ (ls : Array Slot), lv_has ls 5 [(3, .int (nI i1)), (2, .int (nI ((outM (miQ g th0 14 S0) 14 (-1) i1).1))), (0, .ref xa), (1, .int (nI S0))] → W p l ev R st mi args below meth cd H locs 0 0 Q (F0 mi 4 ls []) := by
    intro fu
    induction fu with
    | zero => intro i1 c8 hi1 hfu; exact absurd hfu (Nat.not_lt_zero _)
    | succ fu ih4 =>
      intro i1 c8 hi1 hfu H locs hP hD hS ls hl
      refine lv_iload_n hx hb dX6_mirrorsIn_4 rfl (lv_at hl 0 rfl) ?_
      refine lv_bipush (v := (nI 14)) hx hb dX6_mirrorsIn_5 (by decide) ?_
      refine nb_icmp_ge (tgt := 55) hx hb (by first | omega | assumption) (by first | omega | assumption) dX6_mirrorsIn_7 (by decide) (fun c_7 => ?_) (fun c_7 => ?_)
      · skip
        have he9 : 14 = i1 := by omega
        subst he9
        refine lv_iload_n hx hb dX6_mirrorsIn_55 rfl (lv_at hl 1 rfl) ?_
        exact hret c8 hP hS (rfl) dX6_mirrorsIn_56
      · skip
        refine lv_iload_n hx hb dX6_mirrorsIn_10 rfl (lv_at hl 0 rfl) ?_
        refine lv_iconst (v := (nI 1)) hx hb dX6_mirrorsIn_11 (by decide) ?_
        refine lv_iadd hx hb dX6_mirrorsIn_12 ?_
        refine tp_i (y := (nI (i1 + 1))) (nI_add _ _) ?_
        refine lv_istore (lv' := [(4, .int (nI (i1 + 1))), (3, .int (nI i1)), (2, .int (nI ((outM (miQ g th0 14 S0) 14 (-1) i1).1))), (0, .ref xa), (1, .int (nI S0))]) hx hb dX6_mirrorsIn_13 hl (by decide) rfl (fun ls hl => ?_)
        have LP15 : ∀ (fu : Nat) (j1 : Nat) (c7 : Nat → Nat) (hj1 : i1 < j1) (hj2 : j1 ≤ 14), (14 - j1) < fu → ∀ (H : Heap) (locs : List Loc), va_P Γ.1 vwCl [(xa, .inr (6, [.ref fa, .ref xs, .ref xk, .ref ha, .ref ta, .ref sa, .ref oa, .ref pa, .ref ja])), (fa, .inr (0, [.ref a, .int (nI n0), .int (nI th0), .int (nI mv0)])), (a, .inr (1, [.ref e])), (e, .inl (Γ.2 0, 14, .inl (aN g))), (sa, .inr (4, [.ref sc])), (sc, .inl (Γ.2 0, 14, .inl (aN c7)))] H → va_D A [(xa, .inr (6, [.ref fa, .ref xs, .ref xk, .ref ha, .ref ta, .ref sa, .ref oa, .ref pa, .ref ja])), (fa, .inr (0, [.ref a, .int (nI n0), .int (nI th0), .int (nI mv0)])), (a, .inr (1, [.ref e])), (e, .inl (Γ.2 0, 14, .inl (aN g))), (sa, .inr (4, [.ref sc])), (sc, .inl (Γ.2 0, 14, .inl (aN c7)))] → va_S A st.heap H locs → ∀ (ls : Array Slot), lv_has ls 5 [(4, .int (nI j1)), (3, .int (nI i1)), (2, .int (nI ((innM (miQ g th0 14 S0) i1 (-1) (outM (miQ g th0 14 S0) 14 (-1) i1) j1).1))), (0, .ref xa), (1, .int (nI S0))] → W p l ev R st mi args below meth cd H locs 0 0 Q (F0 mi 15 ls []) := by
          intro fu
          induction fu with
          | zero => intro j1 c7 hj1 hj2 hfu; exact absurd hfu (Nat.not_lt_zero _)
          | succ fu ih15 =>
            intro j1 c7 hj1 hj2 hfu H locs hP hD hS ls hl
            refine lv_iload hx hb dX6_mirrorsIn_15 (lv_at hl 0 rfl) ?_
            refine lv_bipush (v := (nI 14)) hx hb dX6_mirrorsIn_17 (by decide) ?_
            refine nb_icmp_ge (tgt := 49) hx hb (by first | omega | assumption) (by first | omega | assumption) dX6_mirrorsIn_19 (by decide) (fun c_19 => ?_) (fun c_19 => ?_)
            · skip
              have he9 : 14 = j1 := by omega
              subst he9
              refine lv_iinc (v := (nI (i1 + 1))) (lv' := [(3, .int (nI (i1 + 1))), (4, .int (nI 14)), (2, .int (nI ((innM (miQ g th0 14 S0) i1 (-1) (outM (miQ g th0 14 S0) 14 (-1) i1) 14).1))), (0, .ref xa), (1, .int (nI S0))]) hx hb dX6_mirrorsIn_49 hl (k := 1) rfl (nI_1 _) (by decide) rfl (fun ls hl => ?_)
              refine lv_goto (tgt := 4) hx hb dX6_mirrorsIn_52 (by decide) ?_
              exact ih4 (i1 + 1) c7 (by first | omega | assumption) (by omega) _ _ hP hD hS ls (lv_cast (lv_sub hl [0, 2, 3, 4] rfl) (by rfl))
            · skip
              refine lv_iload_n hx hb dX6_mirrorsIn_22 rfl (lv_at hl 4 rfl) ?_
              refine lv_iload_n hx hb dX6_mirrorsIn_23 rfl (lv_at hl 1 rfl) ?_
              refine ro_fin (va_runS (As := [.int (nI S0), .int (nI i1)]) (rest := []) ⟨hx, hb, hml, hown, hts⟩ (c_X6_has l Γ _ S0 i1 (by first | omega | assumption) (by first | omega | assumption)) (kcwS 2 hts kv_X6_has mw_327 (rm_le hR (Nat.le_of_ble_eq_true rfl) (Nat.le_of_ble_eq_true rfl))) (kPc_S hK) rfl rfl hl.1 rfl (lv_room (Nat.le_of_ble_eq_true rfl)) dX6_mirrorsIn_24 ⟨Nat.zero_le _, Nat.zero_le _⟩) hS (fun locs hS => ?_)
              refine nb_ifb_eq (tgt := 43) hx hb dX6_mirrorsIn_27 (by decide) (fun c_27 => ?_) (fun c_27 => ?_)
              · skip
                have hq9 : (miQ g th0 14 S0) i1 j1 = false := by rw [miQ, c_27]; rfl
                refine lv_iinc (v := (nI (j1 + 1))) (lv' := [(4, .int (nI (j1 + 1))), (3, .int (nI i1)), (2, .int (nI ((innM (miQ g th0 14 S0) i1 (-1) (outM (miQ g th0 14 S0) 14 (-1) i1) j1).1))), (0, .ref xa), (1, .int (nI S0))]) hx hb dX6_mirrorsIn_43 hl (k := 0) rfl (nI_1 _) (by decide) rfl (fun ls hl => ?_)
                refine lv_goto (tgt := 15) hx hb dX6_mirrorsIn_46 (by decide) ?_
                exact ih15 (j1 + 1) c7 (by first | omega | assumption) (by first | omega | assumption) (by omega) _ _ hP hD hS ls (lv_cast (lv_sub hl [0, 1, 2, 3, 4] rfl) (by first | (rw [innM_f hq9]; rfl) | (rw [innM_t hj1 hq9]; rfl)))
              · skip
                refine lv_aload_n hx hb dX6_mirrorsIn_30 rfl (lv_at hl 3 rfl) ?_
                refine lv_iload_n hx hb dX6_mirrorsIn_31 rfl (lv_at hl 1 rfl) ?_
                refine lv_iload hx hb dX6_mirrorsIn_32 (lv_at hl 0 rfl) ?_
                refine wr_fini (va_runV (As := [.int (nI i1), .int (nI j1)]) (rest := []) ⟨hx, hb, hml, hown, hts⟩ (c_X6_isMirror l Γ xa xs xk ha ta sa oa pa ja fa n0 th0 mv0 a e g sc c7 i1 j1 (by first | omega | assumption) (by first | omega | assumption) (by first | omega | assumption) (by first | omega | assumption) (by first | omega | assumption)) (kcwV 2 hts kv_X6_isMirror mw_263 (rm_le hR (Nat.le_of_ble_eq_true rfl) (Nat.le_of_ble_eq_true rfl))) (kPw_V hK (va_recv hK.1 hP (ci := 6) (q0 := 0) rfl rfl) (hP.sub (ws' := [(xa, .inr (6, [.ref fa, .ref xs, .ref xk, .ref ha, .ref ta, .ref sa, .ref oa, .ref pa, .ref ja])), (fa, .inr (0, [.ref a, .int (nI n0), .int (nI th0), .int (nI mv0)])), (a, .inr (1, [.ref e])), (e, .inl (Γ.2 0, 14, .inl (aN g))), (sa, .inr (4, [.ref sc])), (sc, .inl (Γ.2 0, 14, .inl (aN c7)))]) [0, 1, 2, 3, 4, 5] rfl) (hD.sub (ws' := [(xa, .inr (6, [.ref fa, .ref xs, .ref xk, .ref ha, .ref ta, .ref sa, .ref oa, .ref pa, .ref ja])), (fa, .inr (0, [.ref a, .int (nI n0), .int (nI th0), .int (nI mv0)])), (a, .inr (1, [.ref e])), (e, .inl (Γ.2 0, 14, .inl (aN g))), (sa, .inr (4, [.ref sc])), (sc, .inl (Γ.2 0, 14, .inl (aN c7)))]) [0, 1, 2, 3, 4, 5] (by decide) rfl)) rfl rfl hl.1 rfl (lv_room (Nat.le_of_ble_eq_true rfl)) dX6_mirrorsIn_34 ⟨Nat.zero_le _, Nat.zero_le _⟩) hP hD hS [0, 1, 2, 3, 4, 5] rfl (fun _ => rfl) (fun r c6 H locs hw hP hD hS => ?_)
                obtain rfl := hw
                have hP : va_P Γ.1 vwCl [(xa, .inr (6, [.ref fa, .ref xs, .ref xk, .ref ha, .ref ta, .ref sa, .ref oa, .ref pa, .ref ja])), (fa, .inr (0, [.ref a, .int (nI n0), .int (nI th0), .int (nI mv0)])), (a, .inr (1, [.ref e])), (e, .inl (Γ.2 0, 14, .inl (aN g))), (sa, .inr (4, [.ref sc])), (sc, .inl (Γ.2 0, 14, .inl (aN c6)))] H := hP
                have hD : va_D A [(xa, .inr (6, [.ref fa, .ref xs, .ref xk, .ref ha, .ref ta, .ref sa, .ref oa, .ref pa, .ref ja])), (fa, .inr (0, [.ref a, .int (nI n0), .int (nI th0), .int (nI mv0)])), (a, .inr (1, [.ref e])), (e, .inl (Γ.2 0, 14, .inl (aN g))), (sa, .inr (4, [.ref sc])), (sc, .inl (Γ.2 0, 14, .inl (aN c6)))] := hD
                refine nb_ifb_eq (tgt := 43) hx hb dX6_mirrorsIn_37 (by decide) (fun c_37 => ?_) (fun c_37 => ?_)
                · skip
                  have hq9 : (miQ g th0 14 S0) i1 j1 = false := by rw [miQ, c_27, c_37]; rfl
                  refine lv_iinc (v := (nI (j1 + 1))) (lv' := [(4, .int (nI (j1 + 1))), (3, .int (nI i1)), (2, .int (nI ((innM (miQ g th0 14 S0) i1 (-1) (outM (miQ g th0 14 S0) 14 (-1) i1) j1).1))), (0, .ref xa), (1, .int (nI S0))]) hx hb dX6_mirrorsIn_43 hl (k := 0) rfl (nI_1 _) (by decide) rfl (fun ls hl => ?_)
                  refine lv_goto (tgt := 15) hx hb dX6_mirrorsIn_46 (by decide) ?_
                  exact ih15 (j1 + 1) c6 (by first | omega | assumption) (by first | omega | assumption) (by omega) _ _ hP hD hS ls (lv_cast (lv_sub hl [0, 1, 2, 3, 4] rfl) (by first | (rw [innM_f hq9]; rfl) | (rw [innM_t hj1 hq9]; rfl)))
                · skip
                  have hq9 : (miQ g th0 14 S0) i1 j1 = true := by rw [miQ, c_27, c_37]; rfl
                  refine lv_iinc (v := (nI ((innM (miQ g th0 14 S0) i1 (-1) (outM (miQ g th0 14 S0) 14 (-1) i1) j1).1 + 1))) (lv' := [(2, .int (nI ((innM (miQ g th0 14 S0) i1 (-1) (outM (miQ g th0 14 S0) 14 (-1) i1) j1).1 + 1))), (4, .int (nI j1)), (3, .int (nI i1)), (0, .ref xa), (1, .int (nI S0))]) hx hb dX6_mirrorsIn_40 hl (k := 2) rfl (nI_1 _) (by decide) rfl (fun ls hl => ?_)
                  refine lv_iinc (v := (nI (j1 + 1))) (lv' := [(4, .int (nI (j1 + 1))), (2, .int (nI ((innM (miQ g th0 14 S0) i1 (-1) (outM (miQ g th0 14 S0) 14 (-1) i1) j1).1 + 1))), (3, .int (nI i1)), (0, .ref xa), (1, .int (nI S0))]) hx hb dX6_mirrorsIn_43 hl (k := 1) rfl (nI_1 _) (by decide) rfl (fun ls hl => ?_)
                  refine lv_goto (tgt := 15) hx hb dX6_mirrorsIn_46 (by decide) ?_
                  exact ih15 (j1 + 1) c6 (by first | omega | assumption) (by first | omega | assumption) (by omega) _ _ hP hD hS ls (lv_cast (lv_sub hl [0, 2, 1, 3, 4] rfl) (by first | (rw [innM_f hq9]; rfl) | (rw [innM_t hj1 hq9]; rfl)))
        exact LP15 ((14 - (i1 + 1)) + 1) (i1 + 1) c8 (by first | omega | assumption) (by first | omega | assumption) (Nat.lt_succ_self _) _ _ hP hD hS ls (lv_cast (lv_sub hl [0, 1, 2, 3, 4] rfl) (by rw [innM_lo (i1 + 1) (Nat.le_refl _)]; rfl))
  exact LP4 ((14 - 0) + 1) 0 cf (by first | omega | assumption) (Nat.lt_succ_self _) _ _ hP hD hS ls (lv_cast (lv_sub hl [0, 1, 2, 3] rfl) (by rfl))
