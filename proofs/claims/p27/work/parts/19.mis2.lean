set_option maxHeartbeats 8000000 in
set_option maxRecDepth 100000 in
theorem c_X3_isMisereWon_s (l : Launch) (Γ : kG) (n9 : Nat) (oa : Nat) (oz : Nat) (oe : Nat) (oq : Nat) (g : Nat → Nat) (ff : Nat → Nat) (S0 : Nat) (d0 : Nat) (hg : ∀ i, i < 14 → g i < 16384) (hsy : ∀ i, i < 14 → ∀ j, j < 14 → (g i).testBit j = (g j).testBit i) (hok : okF g ff) (hS0 : S0 < 16384) (hpn : pc S0 ≤ n9 + 1) (hpd : pc S0 + d0 ≤ 14) (IH : ∀ (ff : Nat → Nat) (S0 : Nat) (d0 : Nat), okF g ff → S0 < 16384 → pc S0 ≤ n9 → pc S0 + d0 ≤ 14 → WRi l yX3_isMisereWon (wsq yX3_isMisereWon cX3_isMisereWon 4 (some .boolean)) (rmL (2 * n9 + 6)) Γ [.ref oa, .int (nI S0), .int (nI d0)] [(oa, .inr (3, [.ref oz, .ref oq])), (oz, .inr (1, [.ref oe])), (oe, .inl (Γ.2 0, 14, .inl (aN g))), (oq, .inl (Γ.2 0, 16384, .inl (aN ff)))] (fun u : (Nat → Nat) => [(oa, .inr (3, [.ref oz, .ref oq])), (oz, .inr (1, [.ref oe])), (oe, .inl (Γ.2 0, 14, .inl (aN g))), (oq, .inl (Γ.2 0, 16384, .inl (aN u)))]) (fun (r : Int32) (u : (Nat → Nat)) => r = (bI (Mi g S0)) ∧ okF g u)) : WRi l yX3_isMisereWon (wsq yX3_isMisereWon cX3_isMisereWon 4 (some .boolean)) (rmL (2 * n9 + 8)) Γ [.ref oa, .int (nI S0), .int (nI d0)] [(oa, .inr (3, [.ref oz, .ref oq])), (oz, .inr (1, [.ref oe])), (oe, .inl (Γ.2 0, 14, .inl (aN g))), (oq, .inl (Γ.2 0, 16384, .inl (aN ff)))] (fun u : (Nat → Nat) => [(oa, .inr (3, [.ref oz, .ref oq])), (oz, .inr (1, [.ref oe])), (oe, .inl (Γ.2 0, 14, .inl (aN g))), (oq, .inl (Γ.2 0, 16384, .inl (aN u)))]) (fun (r : Int32) (u : (Nat → Nat)) => r = (bI (Mi g S0)) ∧ okF g u) := by
  refine wr_ofz (cc := cX3_isMisereWon) (maxL := 4) (by decide +kernel) (Nat.le_of_ble_eq_true rfl) rfl ?_
  intro p ev R st mi args below meth cd Q A ls C0 hR hret hP hD hS hl
  obtain ⟨hx, hb, hr, hml, hown, hts, hlk, hK, hnm⟩ := C0
  have hown : st.vm.findClass RX3 = some mi.cls := hown
  refine lv_iload_n hx hb dX3_isMisereWon_0 rfl (lv_at hl 1 rfl) ?_
  refine nb_if_le (tgt := 19) hx hb (by omega) dX3_isMisereWon_1 (by decide) (fun c_1 => ?_) (fun c_1 => ?_)
  · skip
    refine lv_iconst (v := (nI 1)) hx hb dX3_isMisereWon_19 (by decide) ?_
    exact hret ff hP hS (⟨by rw [c_1, Mi_0]; rfl, hok⟩) ⟨true, rfl⟩ dX3_isMisereWon_20
  · skip
    refine lv_iload_n hx hb dX3_isMisereWon_4 rfl (lv_at hl 1 rfl) ?_
    refine lv_aload_n hx hb dX3_isMisereWon_5 rfl (lv_at hl 0 rfl) ?_
    refine va_get (D := Γ.1) (ci := 3) (v := .ref oq) (C := RX3) (T := TX3) (N := 2) hx hb hts hinX3 hown hK.1 hP 0 rfl rfl 1 (by decide) (hts _ mw_129) (fun _ h9 => h9) rfl dX3_isMisereWon_6 ?_
    refine va_alen hx hb hK.1 hP 3 0 rfl rfl (v := nI 16384) rfl dX3_isMisereWon_9 ?_
    refine nb_icmp_ge (tgt := 19) hx hb (by first | omega | assumption) (by first | omega | assumption) dX3_isMisereWon_10 (by decide) (fun c_10 => absurd c_10 (by omega)) (fun c_10 => ?_)
    refine lv_iload_n hx hb dX3_isMisereWon_13 rfl (lv_at hl 2 rfl) ?_
    refine lv_bipush (v := (nI 14)) hx hb dX3_isMisereWon_14 (by decide) ?_
    refine nb_icmp_le (tgt := 21) hx hb (by first | omega | assumption) (by first | omega | assumption) dX3_isMisereWon_16 (by decide) (fun c_16 => ?_) (fun c_16 => by exfalso; omega)
    refine lv_aload_n hx hb dX3_isMisereWon_21 rfl (lv_at hl 0 rfl) ?_
    refine va_get (D := Γ.1) (ci := 3) (v := .ref oq) (C := RX3) (T := TX3) (N := 2) hx hb hts hinX3 hown hK.1 hP 0 rfl rfl 1 (by decide) (hts _ mw_129) (fun _ h9 => h9) rfl dX3_isMisereWon_22 ?_
    refine lv_iload_n hx hb dX3_isMisereWon_25 rfl (lv_at hl 1 rfl) ?_
    refine iald_N hx hb hK.1 hP 3 0 rfl rfl (by omega) (by first | decide | assumption) dX3_isMisereWon_26 ?_
    refine lv_ldc (v := 33554432) hx hb hown (hts _ mw_164) dX3_isMisereWon_27 ?_
    refine tp_i (y := nI 33554432) (by decide +kernel) ?_
    refine lv_iand hx hb dX3_isMisereWon_29 ?_
    refine tp_i (y := (nI ((ff S0) &&& 33554432))) (ni_and _ _) ?_
    refine nb_if_ne (tgt := 62) hx hb (Nat.lt_of_le_of_lt Nat.and_le_left (Nat.lt_trans (okE_lt hS0 (hok S0 hS0)) (by decide))) dX3_isMisereWon_30 (by decide) (fun c_30 => ?_) (fun c_30 => ?_)
    · skip
      obtain ⟨hx1, hx2⟩ := ok_gotm hS0 (hok S0 hS0) c_30
      refine lv_aload_n hx hb dX3_isMisereWon_62 rfl (lv_at hl 0 rfl) ?_
      refine va_get (D := Γ.1) (ci := 3) (v := .ref oq) (C := RX3) (T := TX3) (N := 2) hx hb hts hinX3 hown hK.1 hP 0 rfl rfl 1 (by decide) (hts _ mw_129) (fun _ h9 => h9) rfl dX3_isMisereWon_63 ?_
      refine lv_iload_n hx hb dX3_isMisereWon_66 rfl (lv_at hl 1 rfl) ?_
      refine iald_N hx hb hK.1 hP 3 0 rfl rfl (by omega) (by first | decide | assumption) dX3_isMisereWon_67 ?_
      refine lv_ldc (v := 67108864) hx hb hown (hts _ mw_165) dX3_isMisereWon_68 ?_
      refine tp_i (y := nI 67108864) (by decide +kernel) ?_
      refine lv_iand hx hb dX3_isMisereWon_70 ?_
      refine tp_i (y := (nI ((ff S0) &&& 67108864))) (ni_and _ _) ?_
      refine nb_if_eq (tgt := 78) hx hb (Nat.lt_of_le_of_lt Nat.and_le_left (Nat.lt_trans hx2 (by decide))) dX3_isMisereWon_71 (by decide) (fun c_71 => ?_) (fun c_71 => ?_)
      · skip
        refine lv_iconst (v := (nI 0)) hx hb dX3_isMisereWon_78 (by decide) ?_
        exact hret ff hP hS (⟨by rw [hx1.mp c_71]; rfl, hok⟩) ⟨false, rfl⟩ dX3_isMisereWon_79
      · skip
        refine lv_iconst (v := (nI 1)) hx hb dX3_isMisereWon_74 (by decide) ?_
        refine lv_goto (tgt := 79) hx hb dX3_isMisereWon_75 (by decide) ?_
        exact hret ff hP hS (⟨by rw [nf_t (fun q9 => c_71 (hx1.mpr q9))]; rfl, hok⟩) ⟨true, rfl⟩ dX3_isMisereWon_79
    · skip
      have hnz : S0 ≠ 0 := by omega
      refine lv_aload_n hx hb dX3_isMisereWon_33 rfl (lv_at hl 0 rfl) ?_
      refine lv_iload_n hx hb dX3_isMisereWon_34 rfl (lv_at hl 1 rfl) ?_
      refine lv_iload_n hx hb dX3_isMisereWon_35 rfl (lv_at hl 2 rfl) ?_
      refine wr_fini (va_runV (As := [.int (nI S0), .int (nI d0)]) (rest := []) ⟨hx, hb, hml, hown, hts⟩ (c_X3_hasMisereWin l Γ n9 oa oz oe oq g ff S0 d0 (by first | omega | assumption) (by first | omega | assumption) (by first | omega | assumption) (hnz) (by first | omega | assumption) (by first | omega | assumption) (by first | omega | assumption) (IH)) (kcwV 2 hts kv_X3_hasMisereWin mw_166 (rm_le hR (by omega) (Nat.le_of_ble_eq_true rfl))) (kPw_V hK (va_recv hK.1 hP (ci := 3) (q0 := 0) rfl rfl) (hP.sub (ws' := [(oa, .inr (3, [.ref oz, .ref oq])), (oz, .inr (1, [.ref oe])), (oe, .inl (Γ.2 0, 14, .inl (aN g))), (oq, .inl (Γ.2 0, 16384, .inl (aN ff)))]) [0, 1, 2, 3] rfl) (hD.sub (ws' := [(oa, .inr (3, [.ref oz, .ref oq])), (oz, .inr (1, [.ref oe])), (oe, .inl (Γ.2 0, 14, .inl (aN g))), (oq, .inl (Γ.2 0, 16384, .inl (aN ff)))]) [0, 1, 2, 3] (by decide) rfl)) rfl rfl hl.1 rfl (lv_room (Nat.le_of_ble_eq_true rfl)) dX3_isMisereWon_36 ⟨Nat.zero_le _, Nat.zero_le _⟩) hP hD hS [0, 1, 2, 3] rfl (fun _ => rfl) (fun r f9_36 H locs hw hP hD hS => ?_)
      obtain ⟨rfl, hw36_0⟩ := hw
      have hP : va_P Γ.1 vwCl [(oa, .inr (3, [.ref oz, .ref oq])), (oz, .inr (1, [.ref oe])), (oe, .inl (Γ.2 0, 14, .inl (aN g))), (oq, .inl (Γ.2 0, 16384, .inl (aN f9_36)))] H := hP
      have hD : va_D A [(oa, .inr (3, [.ref oz, .ref oq])), (oz, .inr (1, [.ref oe])), (oe, .inl (Γ.2 0, 14, .inl (aN g))), (oq, .inl (Γ.2 0, 16384, .inl (aN f9_36)))] := hD
      refine nb_ifb_eq (tgt := 47) hx hb dX3_isMisereWon_39 (by decide) (fun c_39 => ?_) (fun c_39 => ?_)
      · skip
        refine lv_iconst (v := (nI 0)) hx hb dX3_isMisereWon_47 (by decide) ?_
        refine lv_istore_n (lv' := [(3, .int (nI 0)), (0, .ref oa), (1, .int (nI S0)), (2, .int (nI d0))]) hx hb dX3_isMisereWon_48 rfl hl (by decide) rfl (fun ls hl => ?_)
        refine lv_aload_n hx hb dX3_isMisereWon_49 rfl (lv_at hl 1 rfl) ?_
        refine va_get (D := Γ.1) (ci := 3) (v := .ref oq) (C := RX3) (T := TX3) (N := 2) hx hb hts hinX3 hown hK.1 hP 0 rfl rfl 1 (by decide) (hts _ mw_129) (fun _ h9 => h9) rfl dX3_isMisereWon_50 ?_
        refine lv_iload_n hx hb dX3_isMisereWon_53 rfl (lv_at hl 2 rfl) ?_
        refine lv_dup2_11 hx hb dX3_isMisereWon_54 rfl rfl ?_
        refine iald_N hx hb hK.1 hP 3 0 rfl rfl (by omega) (by first | decide | assumption) dX3_isMisereWon_55 ?_
        refine lv_iload_n hx hb dX3_isMisereWon_56 rfl (lv_at hl 0 rfl) ?_
        refine lv_ldc (v := 33554432) hx hb hown (hts _ mw_164) dX3_isMisereWon_57 ?_
        refine tp_i (y := nI 33554432) (by decide +kernel) ?_
        refine lv_ior hx hb dX3_isMisereWon_59 ?_
        refine tp_i (y := (nI (0 ||| 33554432))) (ni_or _ _) ?_
        obtain ⟨x5, hx5, hy5, hx1, hx2⟩ := ok_insm hS0 (hw36_0 S0 hS0)
        refine lv_ior hx hb dX3_isMisereWon_60 ?_
        refine tp_i (y := (nI ((f9_36 S0) ||| (0 ||| 33554432)))) (ni_or _ _) ?_
        refine tp_i (y := (nI x5)) (by rw [← hx5, c_39]; rfl) ?_
        refine iast_N hx hb hK.1 hP hD hS 3 0 rfl rfl (by omega) (by first | decide | assumption) dX3_isMisereWon_61 (fun H locs hP hD hS => ?_)
        have hP : va_P Γ.1 vwCl [(oa, .inr (3, [.ref oz, .ref oq])), (oz, .inr (1, [.ref oe])), (oe, .inl (Γ.2 0, 14, .inl (aN g))), (oq, .inl (Γ.2 0, 16384, .inl (aN (upN f9_36 S0 x5))))] H := hP
        have hD : va_D A [(oa, .inr (3, [.ref oz, .ref oq])), (oz, .inr (1, [.ref oe])), (oe, .inl (Γ.2 0, 14, .inl (aN g))), (oq, .inl (Γ.2 0, 16384, .inl (aN (upN f9_36 S0 x5))))] := hD
        refine lv_aload_n hx hb dX3_isMisereWon_62 rfl (lv_at hl 1 rfl) ?_
        refine va_get (D := Γ.1) (ci := 3) (v := .ref oq) (C := RX3) (T := TX3) (N := 2) hx hb hts hinX3 hown hK.1 hP 0 rfl rfl 1 (by decide) (hts _ mw_129) (fun _ h9 => h9) rfl dX3_isMisereWon_63 ?_
        refine lv_iload_n hx hb dX3_isMisereWon_66 rfl (lv_at hl 2 rfl) ?_
        refine iald_N hx hb hK.1 hP 3 0 rfl rfl (by omega) (by first | decide | assumption) dX3_isMisereWon_67 ?_
        refine tp_i (y := (nI x5)) (by rw [upN_s]) ?_
        refine lv_ldc (v := 67108864) hx hb hown (hts _ mw_165) dX3_isMisereWon_68 ?_
        refine tp_i (y := nI 67108864) (by decide +kernel) ?_
        refine lv_iand hx hb dX3_isMisereWon_70 ?_
        refine tp_i (y := (nI (x5 &&& 67108864))) (ni_and _ _) ?_
        refine nb_if_eq (tgt := 78) hx hb (Nat.lt_of_le_of_lt Nat.and_le_left (Nat.lt_trans hx2 (by decide))) dX3_isMisereWon_71 (by decide) (fun c_71 => ?_) (fun c_71 => ?_)
        · skip
          refine lv_iconst (v := (nI 0)) hx hb dX3_isMisereWon_78 (by decide) ?_
          exact hret (upN f9_36 S0 x5) hP hS (⟨by rw [hx1.mp c_71]; rfl, okF_up (hw36_0) hy5⟩) ⟨false, rfl⟩ dX3_isMisereWon_79
        · skip
          refine lv_iconst (v := (nI 1)) hx hb dX3_isMisereWon_74 (by decide) ?_
          refine lv_goto (tgt := 79) hx hb dX3_isMisereWon_75 (by decide) ?_
          exact hret (upN f9_36 S0 x5) hP hS (⟨by rw [nf_t (fun q9 => c_71 (hx1.mpr q9))]; rfl, okF_up (hw36_0) hy5⟩) ⟨true, rfl⟩ dX3_isMisereWon_79
      · skip
        refine lv_ldc (v := 67108864) hx hb hown (hts _ mw_165) dX3_isMisereWon_42 ?_
        refine tp_i (y := nI 67108864) (by decide +kernel) ?_
        refine lv_goto (tgt := 48) hx hb dX3_isMisereWon_44 (by decide) ?_
        refine lv_istore_n (lv' := [(3, .int (nI 67108864)), (0, .ref oa), (1, .int (nI S0)), (2, .int (nI d0))]) hx hb dX3_isMisereWon_48 rfl hl (by decide) rfl (fun ls hl => ?_)
        refine lv_aload_n hx hb dX3_isMisereWon_49 rfl (lv_at hl 1 rfl) ?_
        refine va_get (D := Γ.1) (ci := 3) (v := .ref oq) (C := RX3) (T := TX3) (N := 2) hx hb hts hinX3 hown hK.1 hP 0 rfl rfl 1 (by decide) (hts _ mw_129) (fun _ h9 => h9) rfl dX3_isMisereWon_50 ?_
        refine lv_iload_n hx hb dX3_isMisereWon_53 rfl (lv_at hl 2 rfl) ?_
        refine lv_dup2_11 hx hb dX3_isMisereWon_54 rfl rfl ?_
        refine iald_N hx hb hK.1 hP 3 0 rfl rfl (by omega) (by first | decide | assumption) dX3_isMisereWon_55 ?_
        refine lv_iload_n hx hb dX3_isMisereWon_56 rfl (lv_at hl 0 rfl) ?_
        refine lv_ldc (v := 33554432) hx hb hown (hts _ mw_164) dX3_isMisereWon_57 ?_
        refine tp_i (y := nI 33554432) (by decide +kernel) ?_
        refine lv_ior hx hb dX3_isMisereWon_59 ?_
        refine tp_i (y := (nI (67108864 ||| 33554432))) (ni_or _ _) ?_
        obtain ⟨x5, hx5, hy5, hx1, hx2⟩ := ok_insm hS0 (hw36_0 S0 hS0)
        refine lv_ior hx hb dX3_isMisereWon_60 ?_
        refine tp_i (y := (nI ((f9_36 S0) ||| (67108864 ||| 33554432)))) (ni_or _ _) ?_
        refine tp_i (y := (nI x5)) (by rw [← hx5, c_39]; rfl) ?_
        refine iast_N hx hb hK.1 hP hD hS 3 0 rfl rfl (by omega) (by first | decide | assumption) dX3_isMisereWon_61 (fun H locs hP hD hS => ?_)
        have hP : va_P Γ.1 vwCl [(oa, .inr (3, [.ref oz, .ref oq])), (oz, .inr (1, [.ref oe])), (oe, .inl (Γ.2 0, 14, .inl (aN g))), (oq, .inl (Γ.2 0, 16384, .inl (aN (upN f9_36 S0 x5))))] H := hP
        have hD : va_D A [(oa, .inr (3, [.ref oz, .ref oq])), (oz, .inr (1, [.ref oe])), (oe, .inl (Γ.2 0, 14, .inl (aN g))), (oq, .inl (Γ.2 0, 16384, .inl (aN (upN f9_36 S0 x5))))] := hD
        refine lv_aload_n hx hb dX3_isMisereWon_62 rfl (lv_at hl 1 rfl) ?_
        refine va_get (D := Γ.1) (ci := 3) (v := .ref oq) (C := RX3) (T := TX3) (N := 2) hx hb hts hinX3 hown hK.1 hP 0 rfl rfl 1 (by decide) (hts _ mw_129) (fun _ h9 => h9) rfl dX3_isMisereWon_63 ?_
        refine lv_iload_n hx hb dX3_isMisereWon_66 rfl (lv_at hl 2 rfl) ?_
        refine iald_N hx hb hK.1 hP 3 0 rfl rfl (by omega) (by first | decide | assumption) dX3_isMisereWon_67 ?_
        refine tp_i (y := (nI x5)) (by rw [upN_s]) ?_
        refine lv_ldc (v := 67108864) hx hb hown (hts _ mw_165) dX3_isMisereWon_68 ?_
        refine tp_i (y := nI 67108864) (by decide +kernel) ?_
        refine lv_iand hx hb dX3_isMisereWon_70 ?_
        refine tp_i (y := (nI (x5 &&& 67108864))) (ni_and _ _) ?_
        refine nb_if_eq (tgt := 78) hx hb (Nat.lt_of_le_of_lt Nat.and_le_left (Nat.lt_trans hx2 (by decide))) dX3_isMisereWon_71 (by decide) (fun c_71 => ?_) (fun c_71 => ?_)
        · skip
          refine lv_iconst (v := (nI 0)) hx hb dX3_isMisereWon_78 (by decide) ?_
          exact hret (upN f9_36 S0 x5) hP hS (⟨by rw [hx1.mp c_71]; rfl, okF_up (hw36_0) hy5⟩) ⟨false, rfl⟩ dX3_isMisereWon_79
        · skip
          refine lv_iconst (v := (nI 1)) hx hb dX3_isMisereWon_74 (by decide) ?_
          refine lv_goto (tgt := 79) hx hb dX3_isMisereWon_75 (by decide) ?_
          exact hret (upN f9_36 S0 x5) hP hS (⟨by rw [nf_t (fun q9 => c_71 (hx1.mpr q9))]; rfl, okF_up (hw36_0) hy5⟩) ⟨true, rfl⟩ dX3_isMisereWon_79
set_option maxHeartbeats 8000000 in
set_option maxRecDepth 100000 in
theorem c_X3_isMisereWon_z (l : Launch) (Γ : kG) (oa : Nat) (oz : Nat) (oe : Nat) (oq : Nat) (g : Nat → Nat) (ff : Nat → Nat) (S0 : Nat) (d0 : Nat) (hok : okF g ff) (hz : S0 = 0) : WRi l yX3_isMisereWon (wsq yX3_isMisereWon cX3_isMisereWon 4 (some .boolean)) (rmL 6) Γ [.ref oa, .int (nI S0), .int (nI d0)] [(oa, .inr (3, [.ref oz, .ref oq])), (oz, .inr (1, [.ref oe])), (oe, .inl (Γ.2 0, 14, .inl (aN g))), (oq, .inl (Γ.2 0, 16384, .inl (aN ff)))] (fun u : (Nat → Nat) => [(oa, .inr (3, [.ref oz, .ref oq])), (oz, .inr (1, [.ref oe])), (oe, .inl (Γ.2 0, 14, .inl (aN g))), (oq, .inl (Γ.2 0, 16384, .inl (aN u)))]) (fun (r : Int32) (u : (Nat → Nat)) => r = (bI (Mi g S0)) ∧ okF g u) := by
  refine wr_ofz (cc := cX3_isMisereWon) (maxL := 4) (by decide +kernel) (Nat.le_of_ble_eq_true rfl) rfl ?_
  intro p ev R st mi args below meth cd Q A ls C0 hR hret hP hD hS hl
  obtain ⟨hx, hb, hr, hml, hown, hts, hlk, hK, hnm⟩ := C0
  have hown : st.vm.findClass RX3 = some mi.cls := hown
  refine lv_iload_n hx hb dX3_isMisereWon_0 rfl (lv_at hl 1 rfl) ?_
  refine nb_if_le (tgt := 19) hx hb (by omega) dX3_isMisereWon_1 (by decide) (fun c_1 => ?_) (fun c_1 => by exfalso; omega)
  refine lv_iconst (v := (nI 1)) hx hb dX3_isMisereWon_19 (by decide) ?_
  exact hret ff hP hS (⟨by rw [hz, Mi_0]; rfl, hok⟩) ⟨true, rfl⟩ dX3_isMisereWon_20
theorem c_X3_isMisereWon_all (l : Launch) (Γ : kG) (oa oz oe oq : Nat) (g : Nat → Nat) (hg : ∀ i, i < 14 → g i < 16384) (hsy : ∀ i, i < 14 → ∀ j, j < 14 → (g i).testBit j = (g j).testBit i) : ∀ (n9 : Nat), ∀ (ff : Nat → Nat) (S0 : Nat) (d0 : Nat), okF g ff → S0 < 16384 → pc S0 ≤ n9 → pc S0 + d0 ≤ 14 → WRi l yX3_isMisereWon (wsq yX3_isMisereWon cX3_isMisereWon 4 (some .boolean)) (rmL (2 * n9 + 6)) Γ [.ref oa, .int (nI S0), .int (nI d0)] [(oa, .inr (3, [.ref oz, .ref oq])), (oz, .inr (1, [.ref oe])), (oe, .inl (Γ.2 0, 14, .inl (aN g))), (oq, .inl (Γ.2 0, 16384, .inl (aN ff)))] (fun u : (Nat → Nat) => [(oa, .inr (3, [.ref oz, .ref oq])), (oz, .inr (1, [.ref oe])), (oe, .inl (Γ.2 0, 14, .inl (aN g))), (oq, .inl (Γ.2 0, 16384, .inl (aN u)))]) (fun (r : Int32) (u : (Nat → Nat)) => r = (bI (Mi g S0)) ∧ okF g u) := by
  intro n9
  induction n9 with
  | zero =>
    intro ff S0 d0 hok hS0 hpn hpd
    refine c_X3_isMisereWon_z l Γ oa oz oe oq g ff S0 d0 hok ?_
    by_cases h : S0 = 0
    · exact h
    · have := pc_pos hS0 h
      omega
  | succ n9 ih =>
    intro ff S0 d0 hok hS0 hpn hpd
    rw [show 2 * (n9 + 1) + 6 = 2 * n9 + 8 by omega]
    exact c_X3_isMisereWon_s l Γ n9 oa oz oe oq g ff S0 d0 hg hsy hok hS0 hpn hpd ih
theorem c_X3_isMisereWon (l : Launch) (Γ : kG) (oa : Nat) (oz : Nat) (oe : Nat) (oq : Nat) (g : Nat → Nat) (ff : Nat → Nat) (S0 : Nat) (d0 : Nat) (hg : ∀ i, i < 14 → g i < 16384) (hsy : ∀ i, i < 14 → ∀ j, j < 14 → (g i).testBit j = (g j).testBit i) (hok : okF g ff) (hS0 : S0 < 16384) (hpd : pc S0 + d0 ≤ 14) : WRi l yX3_isMisereWon (wsq yX3_isMisereWon cX3_isMisereWon 4 (some .boolean)) (rmL 34) Γ [.ref oa, .int (nI S0), .int (nI d0)] [(oa, .inr (3, [.ref oz, .ref oq])), (oz, .inr (1, [.ref oe])), (oe, .inl (Γ.2 0, 14, .inl (aN g))), (oq, .inl (Γ.2 0, 16384, .inl (aN ff)))] (fun u : (Nat → Nat) => [(oa, .inr (3, [.ref oz, .ref oq])), (oz, .inr (1, [.ref oe])), (oe, .inl (Γ.2 0, 14, .inl (aN g))), (oq, .inl (Γ.2 0, 16384, .inl (aN u)))]) (fun (r : Int32) (u : (Nat → Nat)) => r = (bI (Mi g S0)) ∧ okF g u) := c_X3_isMisereWon_all l Γ oa oz oe oq g hg hsy 14 ff S0 d0 hok hS0 (pc_le _) hpd
set_option maxHeartbeats 8000000 in
set_option maxRecDepth 100000 in
theorem c_X3_isMisereWonFor (l : Launch) (Γ : kG) (oa : Nat) (oz : Nat) (oe : Nat) (oq : Nat) (g : Nat → Nat) (ff : Nat → Nat) (S0 : Nat) (hg : ∀ i, i < 14 → g i < 16384) (hsy : ∀ i, i < 14 → ∀ j, j < 14 → (g i).testBit j = (g j).testBit i) (hok : okF g ff) (hS0 : S0 < 16384) : WRi l yX3_isMisereWonFor (wsq yX3_isMisereWonFor cX3_isMisereWonFor 2 (some .boolean)) (rmL 35) Γ [.ref oa, .int (nI S0)] [(oa, .inr (3, [.ref oz, .ref oq])), (oz, .inr (1, [.ref oe])), (oe, .inl (Γ.2 0, 14, .inl (aN g))), (oq, .inl (Γ.2 0, 16384, .inl (aN ff)))] (fun u : (Nat → Nat) => [(oa, .inr (3, [.ref oz, .ref oq])), (oz, .inr (1, [.ref oe])), (oe, .inl (Γ.2 0, 14, .inl (aN g))), (oq, .inl (Γ.2 0, 16384, .inl (aN u)))]) (fun (r : Int32) (u : (Nat → Nat)) => r = (bI (Mi g S0)) ∧ okF g u) := by
  refine wr_ofz (cc := cX3_isMisereWonFor) (maxL := 2) (by decide +kernel) (Nat.le_of_ble_eq_true rfl) rfl ?_
  intro p ev R st mi args below meth cd Q A ls C0 hR hret hP hD hS hl
  obtain ⟨hx, hb, hr, hml, hown, hts, hlk, hK, hnm⟩ := C0
  have hown : st.vm.findClass RX3 = some mi.cls := hown
  refine lv_aload_n hx hb dX3_isMisereWonFor_0 rfl (lv_at hl 0 rfl) ?_
  refine lv_iload_n hx hb dX3_isMisereWonFor_1 rfl (lv_at hl 1 rfl) ?_
  refine lv_iconst (v := (nI 0)) hx hb dX3_isMisereWonFor_2 (by decide) ?_
  refine wr_fini (va_runV (As := [.int (nI S0), .int (nI 0)]) (rest := []) ⟨hx, hb, hml, hown, hts⟩ (c_X3_isMisereWon l Γ oa oz oe oq g ff S0 0 (by first | omega | assumption) (by first | omega | assumption) (by first | omega | assumption) (by first | omega | assumption) (by have := pc_le S0; omega)) (kcwV 2 hts kv_X3_isMisereWon mw_160 (rm_le hR (Nat.le_of_ble_eq_true rfl) (Nat.le_of_ble_eq_true rfl))) (kPw_V hK (va_recv hK.1 hP (ci := 3) (q0 := 0) rfl rfl) (hP.sub (ws' := [(oa, .inr (3, [.ref oz, .ref oq])), (oz, .inr (1, [.ref oe])), (oe, .inl (Γ.2 0, 14, .inl (aN g))), (oq, .inl (Γ.2 0, 16384, .inl (aN ff)))]) [0, 1, 2, 3] rfl) (hD.sub (ws' := [(oa, .inr (3, [.ref oz, .ref oq])), (oz, .inr (1, [.ref oe])), (oe, .inl (Γ.2 0, 14, .inl (aN g))), (oq, .inl (Γ.2 0, 16384, .inl (aN ff)))]) [0, 1, 2, 3] (by decide) rfl)) rfl rfl hl.1 rfl (lv_room (Nat.le_of_ble_eq_true rfl)) dX3_isMisereWonFor_3 ⟨Nat.zero_le _, Nat.zero_le _⟩) hP hD hS [0, 1, 2, 3] rfl (fun _ => rfl) (fun r f7 H locs hw hP hD hS => ?_)
  obtain ⟨rfl, hk7⟩ := hw
  have hP : va_P Γ.1 vwCl [(oa, .inr (3, [.ref oz, .ref oq])), (oz, .inr (1, [.ref oe])), (oe, .inl (Γ.2 0, 14, .inl (aN g))), (oq, .inl (Γ.2 0, 16384, .inl (aN f7)))] H := hP
  have hD : va_D A [(oa, .inr (3, [.ref oz, .ref oq])), (oz, .inr (1, [.ref oe])), (oe, .inl (Γ.2 0, 14, .inl (aN g))), (oq, .inl (Γ.2 0, 16384, .inl (aN f7)))] := hD
  exact hret f7 hP hS (⟨rfl, hk7⟩) ⟨_, rfl⟩ dX3_isMisereWonFor_6
