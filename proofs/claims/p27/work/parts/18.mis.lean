set_option maxHeartbeats 8000000 in
set_option maxRecDepth 100000 in
theorem c_X3_hasMisereWin (l : Launch) (Γ : kG) (n9 : Nat) (oa : Nat) (oz : Nat) (oe : Nat) (oq : Nat) (g : Nat → Nat) (ff : Nat → Nat) (S0 : Nat) (d0 : Nat) (hg : ∀ i, i < 14 → g i < 16384) (hsy : ∀ i, i < 14 → ∀ j, j < 14 → (g i).testBit j = (g j).testBit i) (hS0 : S0 < 16384) (h0 : S0 ≠ 0) (hpn : pc S0 ≤ n9 + 1) (hpd : pc S0 + d0 ≤ 14) (hok : okF g ff) (IH : ∀ (ff : Nat → Nat) (S0 : Nat) (d0 : Nat), okF g ff → S0 < 16384 → pc S0 ≤ n9 → pc S0 + d0 ≤ 14 → WRi l yX3_isMisereWon (wsq yX3_isMisereWon cX3_isMisereWon 4 (some .boolean)) (rmL (2 * n9 + 6)) Γ [.ref oa, .int (nI S0), .int (nI d0)] [(oa, .inr (3, [.ref oz, .ref oq])), (oz, .inr (1, [.ref oe])), (oe, .inl (Γ.2 0, 14, .inl (aN g))), (oq, .inl (Γ.2 0, 16384, .inl (aN ff)))] (fun u : (Nat → Nat) => [(oa, .inr (3, [.ref oz, .ref oq])), (oz, .inr (1, [.ref oe])), (oe, .inl (Γ.2 0, 14, .inl (aN g))), (oq, .inl (Γ.2 0, 16384, .inl (aN u)))]) (fun (r : Int32) (u : (Nat → Nat)) => r = (bI (Mi g S0)) ∧ okF g u)) : WRi l yX3_hasMisereWin (wsq yX3_hasMisereWin cX3_hasMisereWin 6 (some .boolean)) (rmL (2 * n9 + 7)) Γ [.ref oa, .int (nI S0), .int (nI d0)] [(oa, .inr (3, [.ref oz, .ref oq])), (oz, .inr (1, [.ref oe])), (oe, .inl (Γ.2 0, 14, .inl (aN g))), (oq, .inl (Γ.2 0, 16384, .inl (aN ff)))] (fun u : (Nat → Nat) => [(oa, .inr (3, [.ref oz, .ref oq])), (oz, .inr (1, [.ref oe])), (oe, .inl (Γ.2 0, 14, .inl (aN g))), (oq, .inl (Γ.2 0, 16384, .inl (aN u)))]) (fun (r : Int32) (u : (Nat → Nat)) => r = (bI (Mi g S0)) ∧ okF g u) := by
  refine wr_ofz (cc := cX3_hasMisereWin) (maxL := 6) (by decide +kernel) (Nat.le_of_ble_eq_true rfl) rfl ?_
  intro p ev R st mi args below meth cd Q A ls C0 hR hret hP hD hS hl
  obtain ⟨hx, hb, hr, hml, hown, hts, hlk, hK, hnm⟩ := C0
  have hown : st.vm.findClass RX3 = some mi.cls := hown
  refine lv_iconst (v := (nI 0)) hx hb dX3_hasMisereWin_0 (by decide) ?_
  refine lv_istore_n (lv' := [(3, .int (nI 0)), (0, .ref oa), (1, .int (nI S0)), (2, .int (nI d0))]) hx hb dX3_hasMisereWin_1 rfl hl (by decide) rfl (fun ls hl => ?_)
  refine lv_iconst (v := (nI 0)) hx hb dX3_hasMisereWin_2 (by decide) ?_
  refine lv_istore (lv' := [(4, .int (nI 0)), (3, .int (nI 0)), (0, .ref oa), (1, .int (nI S0)), (2, .int (nI d0))]) hx hb dX3_hasMisereWin_3 hl (by decide) rfl (fun ls hl => ?_)
  have LP5 : ∀ (fu : Nat) (k0 : Nat) (t8 : Bool) (f8 : Nat → Nat) (hk0 : k0 ≤ 14) (hok8 : okF g f8) (hm8 : mInv g S0 k0 t8), (14 - k0) < fu → ∀ (H : Heap) (locs : List Loc), va_P Γ.1 vwCl [(oa, .inr (3, [.ref oz, .ref oq])), (oz, .inr (1, [.ref oe])), (oe, .inl (Γ.2 0, 14, .inl (aN g))), (oq, .inl (Γ.2 0, 16384, .inl (aN f8)))] H → va_D A [(oa, .inr (3, [.ref oz, .ref oq])), (oz, .inr (1, [.ref oe])), (oe, .inl (Γ.2 0, 14, .inl (aN g))), (oq, .inl (Γ.2 0, 16384, .inl (aN f8)))] → va_S A st.heap H locs → ∀ (ls : Array Slot), lv_has ls 6 [(4, .int (nI k0)), (3, .int (bI t8)), (0, .ref oa), (1, .int (nI S0)), (2, .int (nI d0))] → W p l ev R st mi args below meth cd H locs 0 0 Q (F0 mi 5 ls []) := by
    intro fu
    induction fu with
    | zero => intro k0 t8 f8 hk0 hok8 hm8 hfu; exact absurd hfu (Nat.not_lt_zero _)
    | succ fu ih5 =>
      intro k0 t8 f8 hk0 hok8 hm8 hfu H locs hP hD hS ls hl
      refine lv_iload hx hb dX3_hasMisereWin_5 (lv_at hl 0 rfl) ?_
      refine lv_bipush (v := (nI 14)) hx hb dX3_hasMisereWin_7 (by decide) ?_
      refine nb_icmp_ge (tgt := 87) hx hb (by first | omega | assumption) (by first | omega | assumption) dX3_hasMisereWin_9 (by decide) (fun c_9 => ?_) (fun c_9 => ?_)
      · skip
        obtain rfl : k0 = 14 := by omega
        refine lv_iconst (v := (nI 0)) hx hb dX3_hasMisereWin_87 (by decide) ?_
        exact hret f8 hP hS (⟨by rw [mInv_end hS0 h0 hm8]; rfl, hok8⟩) ⟨false, rfl⟩ dX3_hasMisereWin_88
      · skip
        refine lv_aload_n hx hb dX3_hasMisereWin_12 rfl (lv_at hl 2 rfl) ?_
        refine va_get (D := Γ.1) (ci := 3) (v := .ref oz) (C := RX3) (T := TX3) (N := 2) hx hb hts hinX3 hown hK.1 hP 0 rfl rfl 0 (by decide) (hts _ mw_128) (fun _ h9 => h9) rfl dX3_hasMisereWin_13 ?_
        refine lv_iload hx hb dX3_hasMisereWin_16 (lv_at hl 0 rfl) ?_
        refine ro_fin (va_runVN (As := [.int (nI k0)]) (rest := []) ⟨hx, hb, hml, hown, hts⟩ (c_X1_around l Γ _ oz oe g k0 (hP.sub (ws' := [(oz, .inr (1, [.ref oe])), (oe, .inl (Γ.2 0, 14, .inl (aN g)))]) [1, 2] rfl) (by first | omega | assumption)) (kcwVN 1 hts kv_X1_around (hK.nw _ (nwL_at 65 rfl)) (rm_le hR (Nat.le_of_ble_eq_true rfl) (Nat.le_of_ble_eq_true rfl))) (kPc_V hK (va_recv hK.1 hP (ci := 1) (q0 := 1) rfl rfl)) rfl rfl hl.1 rfl (lv_room (Nat.le_of_ble_eq_true rfl)) dX3_hasMisereWin_18 ⟨Nat.zero_le _, Nat.zero_le _⟩) hS (fun locs hS => ?_)
        refine lv_iload_n hx hb dX3_hasMisereWin_21 rfl (lv_at hl 3 rfl) ?_
        refine lv_iand hx hb dX3_hasMisereWin_22 ?_
        refine tp_i (y := (nI ((g k0) &&& S0))) (ni_and _ _) ?_
        refine nb_if_ne (tgt := 30) hx hb (Nat.lt_trans (and_lt2 _ hS0) (by decide)) dX3_hasMisereWin_23 (by decide) (fun c_23 => ?_) (fun c_23 => ?_)
        · skip
          refine lv_iconst (v := (nI 0)) hx hb dX3_hasMisereWin_30 (by decide) ?_
          refine lv_istore (lv' := [(5, .int (nI 0)), (4, .int (nI k0)), (3, .int (bI t8)), (0, .ref oa), (1, .int (nI S0)), (2, .int (nI d0))]) hx hb dX3_hasMisereWin_31 hl (by decide) rfl (fun ls hl => ?_)
          refine lv_iload_n hx hb dX3_hasMisereWin_33 rfl (lv_at hl 4 rfl) ?_
          refine lv_iload hx hb dX3_hasMisereWin_34 (lv_at hl 1 rfl) ?_
          refine ro_fin (va_runSN (As := [.int (nI S0), .int (nI k0)]) (rest := []) ⟨hx, hb, hml, hown, hts⟩ (c_X6_has l Γ _ S0 k0 (by first | omega | assumption) (by first | omega | assumption)) (kcwSN 2 hts kv_X6_has (hK.nw _ (nwL_at 63 rfl)) (rm_le hR (Nat.le_of_ble_eq_true rfl) (Nat.le_of_ble_eq_true rfl))) (kPc_S hK) rfl rfl hl.1 rfl (lv_room (Nat.le_of_ble_eq_true rfl)) dX3_hasMisereWin_36 ⟨Nat.zero_le _, Nat.zero_le _⟩) hS (fun locs hS => ?_)
          refine nb_ifb_eq (tgt := 81) hx hb dX3_hasMisereWin_39 (by decide) (fun c_39 => ?_) (fun c_39 => ?_)
          · skip
            refine lv_iinc (v := (nI (k0 + 1))) (lv' := [(4, .int (nI (k0 + 1))), (5, .int (nI 0)), (3, .int (bI t8)), (0, .ref oa), (1, .int (nI S0)), (2, .int (nI d0))]) hx hb dX3_hasMisereWin_81 hl (k := 1) rfl (nI_1 _) (by decide) rfl (fun ls hl => ?_)
            refine lv_goto (tgt := 5) hx hb dX3_hasMisereWin_84 (by decide) ?_
            exact ih5 (k0 + 1) t8 f8 (by first | omega | assumption) (hok8) (by first | exact mInv_no hm8 c_39 | (rw [c_48]; rw [c_48] at hm8; exact mInv_lone hsy hS0 hm8 c_39 c_23) | exact mInv_tryl hm8 c_39 c_71 c_23 | exact mInv_try hm8 c_71) (by omega) _ _ hP hD hS ls (lv_sub hl [0, 2, 3, 4, 5] rfl)
          · skip
            have hp9 := lft_pc (g := g) hS0 c_39
            refine lv_iload hx hb dX3_hasMisereWin_42 (lv_at hl 0 rfl) ?_
            refine nb_if_eq (tgt := 51) hx hb (by decide) dX3_hasMisereWin_44 (by decide) (fun c_44 => ?_) (fun c_44 => by exfalso; omega)
            refine lv_aload_n hx hb dX3_hasMisereWin_51 rfl (lv_at hl 3 rfl) ?_
            refine lv_iload_n hx hb dX3_hasMisereWin_52 rfl (lv_at hl 4 rfl) ?_
            refine lv_aload_n hx hb dX3_hasMisereWin_53 rfl (lv_at hl 3 rfl) ?_
            refine va_get (D := Γ.1) (ci := 3) (v := .ref oz) (C := RX3) (T := TX3) (N := 2) hx hb hts hinX3 hown hK.1 hP 0 rfl rfl 0 (by decide) (hts _ mw_128) (fun _ h9 => h9) rfl dX3_hasMisereWin_54 ?_
            refine lv_iload hx hb dX3_hasMisereWin_57 (lv_at hl 1 rfl) ?_
            refine ro_fin (va_runVN (As := [.int (nI k0)]) (rest := [.int (nI S0), .ref oa]) ⟨hx, hb, hml, hown, hts⟩ (c_X1_takenWith l Γ _ oz oe g k0 (hP.sub (ws' := [(oz, .inr (1, [.ref oe])), (oe, .inl (Γ.2 0, 14, .inl (aN g)))]) [1, 2] rfl) (by first | omega | assumption)) (kcwVN 1 hts kv_X1_takenWith (hK.nw _ (nwL_at 64 rfl)) (rm_le hR (Nat.le_of_ble_eq_true rfl) (Nat.le_of_ble_eq_true rfl))) (kPc_V hK (va_recv hK.1 hP (ci := 1) (q0 := 1) rfl rfl)) rfl rfl hl.1 rfl (lv_room (Nat.le_of_ble_eq_true rfl)) dX3_hasMisereWin_59 ⟨Nat.zero_le _, Nat.zero_le _⟩) hS (fun locs hS => ?_)
            refine lv_iconst (v := (-1)) hx hb dX3_hasMisereWin_62 (by decide) ?_
            refine lv_ixor hx hb dX3_hasMisereWin_63 ?_
            refine lv_iand hx hb dX3_hasMisereWin_64 ?_
            refine tp_i (y := (nI (sd S0 (g k0 ||| 2 ^ k0)))) (ni_sd _ _) ?_
            refine tp_i (y := (nI (lft g S0 k0))) (by rw [lft, Nat.or_comm]) ?_
            refine lv_iload_n hx hb dX3_hasMisereWin_65 rfl (lv_at hl 5 rfl) ?_
            refine lv_iconst (v := (nI 1)) hx hb dX3_hasMisereWin_66 (by decide) ?_
            refine lv_iadd hx hb dX3_hasMisereWin_67 ?_
            refine tp_i (y := (nI (d0 + 1))) (nI_add _ _) ?_
            refine wr_fini (va_runV (As := [.int (nI (lft g S0 k0)), .int (nI (d0 + 1))]) (rest := []) ⟨hx, hb, hml, hown, hts⟩ (IH f8 (lft g S0 k0) (d0 + 1) (hok8) (lft_lt _ hS0) (by omega) (by omega)) (kcwV 2 hts kv_X3_isMisereWon mw_160 (rm_le hR (by omega) (Nat.le_of_ble_eq_true rfl))) (kPw_V hK (va_recv hK.1 hP (ci := 3) (q0 := 0) rfl rfl) (hP.sub (ws' := [(oa, .inr (3, [.ref oz, .ref oq])), (oz, .inr (1, [.ref oe])), (oe, .inl (Γ.2 0, 14, .inl (aN g))), (oq, .inl (Γ.2 0, 16384, .inl (aN f8)))]) [0, 1, 2, 3] rfl) (hD.sub (ws' := [(oa, .inr (3, [.ref oz, .ref oq])), (oz, .inr (1, [.ref oe])), (oe, .inl (Γ.2 0, 14, .inl (aN g))), (oq, .inl (Γ.2 0, 16384, .inl (aN f8)))]) [0, 1, 2, 3] (by decide) rfl)) rfl rfl hl.1 rfl (lv_room (Nat.le_of_ble_eq_true rfl)) dX3_hasMisereWin_68 ⟨Nat.zero_le _, Nat.zero_le _⟩) hP hD hS [0, 1, 2, 3] rfl (fun _ => rfl) (fun r f7 H locs hw hP hD hS => ?_)
            obtain ⟨rfl, hk7⟩ := hw
            have hP : va_P Γ.1 vwCl [(oa, .inr (3, [.ref oz, .ref oq])), (oz, .inr (1, [.ref oe])), (oe, .inl (Γ.2 0, 14, .inl (aN g))), (oq, .inl (Γ.2 0, 16384, .inl (aN f7)))] H := hP
            have hD : va_D A [(oa, .inr (3, [.ref oz, .ref oq])), (oz, .inr (1, [.ref oe])), (oe, .inl (Γ.2 0, 14, .inl (aN g))), (oq, .inl (Γ.2 0, 16384, .inl (aN f7)))] := hD
            refine nb_ifb_ne (tgt := 76) hx hb dX3_hasMisereWin_71 (by decide) (fun c_71 => ?_) (fun c_71 => ?_)
            · skip
              refine lv_iload_n hx hb dX3_hasMisereWin_76 rfl (lv_at hl 2 rfl) ?_
              refine lv_iload hx hb dX3_hasMisereWin_77 (lv_at hl 0 rfl) ?_
              refine lv_ior hx hb dX3_hasMisereWin_79 ?_
              refine tp_i (y := (bI t8)) (bI_or0 t8) ?_
              refine lv_istore_n (lv' := [(3, .int (bI t8)), (5, .int (nI 0)), (4, .int (nI k0)), (0, .ref oa), (1, .int (nI S0)), (2, .int (nI d0))]) hx hb dX3_hasMisereWin_80 rfl hl (by decide) rfl (fun ls hl => ?_)
              refine lv_iinc (v := (nI (k0 + 1))) (lv' := [(4, .int (nI (k0 + 1))), (3, .int (bI t8)), (5, .int (nI 0)), (0, .ref oa), (1, .int (nI S0)), (2, .int (nI d0))]) hx hb dX3_hasMisereWin_81 hl (k := 2) rfl (nI_1 _) (by decide) rfl (fun ls hl => ?_)
              refine lv_goto (tgt := 5) hx hb dX3_hasMisereWin_84 (by decide) ?_
              exact ih5 (k0 + 1) t8 f7 (by first | omega | assumption) (hk7) (by first | exact mInv_no hm8 c_39 | (rw [c_48]; rw [c_48] at hm8; exact mInv_lone hsy hS0 hm8 c_39 c_23) | exact mInv_tryl hm8 c_39 c_71 c_23 | exact mInv_try hm8 c_71) (by omega) _ _ hP hD hS ls (lv_sub hl [0, 1, 3, 4, 5] rfl)
            · skip
              refine lv_iconst (v := (nI 1)) hx hb dX3_hasMisereWin_74 (by decide) ?_
              exact hret f7 hP hS (⟨by rw [mis_win hS0 c_39 c_71]; rfl, hk7⟩) ⟨true, rfl⟩ dX3_hasMisereWin_75
        · skip
          refine lv_iconst (v := (nI 1)) hx hb dX3_hasMisereWin_26 (by decide) ?_
          refine lv_goto (tgt := 31) hx hb dX3_hasMisereWin_27 (by decide) ?_
          refine lv_istore (lv' := [(5, .int (nI 1)), (4, .int (nI k0)), (3, .int (bI t8)), (0, .ref oa), (1, .int (nI S0)), (2, .int (nI d0))]) hx hb dX3_hasMisereWin_31 hl (by decide) rfl (fun ls hl => ?_)
          refine lv_iload_n hx hb dX3_hasMisereWin_33 rfl (lv_at hl 4 rfl) ?_
          refine lv_iload hx hb dX3_hasMisereWin_34 (lv_at hl 1 rfl) ?_
          refine ro_fin (va_runSN (As := [.int (nI S0), .int (nI k0)]) (rest := []) ⟨hx, hb, hml, hown, hts⟩ (c_X6_has l Γ _ S0 k0 (by first | omega | assumption) (by first | omega | assumption)) (kcwSN 2 hts kv_X6_has (hK.nw _ (nwL_at 63 rfl)) (rm_le hR (Nat.le_of_ble_eq_true rfl) (Nat.le_of_ble_eq_true rfl))) (kPc_S hK) rfl rfl hl.1 rfl (lv_room (Nat.le_of_ble_eq_true rfl)) dX3_hasMisereWin_36 ⟨Nat.zero_le _, Nat.zero_le _⟩) hS (fun locs hS => ?_)
          refine nb_ifb_eq (tgt := 81) hx hb dX3_hasMisereWin_39 (by decide) (fun c_39 => ?_) (fun c_39 => ?_)
          · skip
            refine lv_iinc (v := (nI (k0 + 1))) (lv' := [(4, .int (nI (k0 + 1))), (5, .int (nI 1)), (3, .int (bI t8)), (0, .ref oa), (1, .int (nI S0)), (2, .int (nI d0))]) hx hb dX3_hasMisereWin_81 hl (k := 1) rfl (nI_1 _) (by decide) rfl (fun ls hl => ?_)
            refine lv_goto (tgt := 5) hx hb dX3_hasMisereWin_84 (by decide) ?_
            exact ih5 (k0 + 1) t8 f8 (by first | omega | assumption) (hok8) (by first | exact mInv_no hm8 c_39 | (rw [c_48]; rw [c_48] at hm8; exact mInv_lone hsy hS0 hm8 c_39 c_23) | exact mInv_tryl hm8 c_39 c_71 c_23 | exact mInv_try hm8 c_71) (by omega) _ _ hP hD hS ls (lv_sub hl [0, 2, 3, 4, 5] rfl)
          · skip
            have hp9 := lft_pc (g := g) hS0 c_39
            refine lv_iload hx hb dX3_hasMisereWin_42 (lv_at hl 0 rfl) ?_
            refine nb_if_eq (tgt := 51) hx hb (by decide) dX3_hasMisereWin_44 (by decide) (fun c_44 => by exfalso; omega) (fun c_44 => ?_)
            refine lv_iload_n hx hb dX3_hasMisereWin_47 rfl (lv_at hl 2 rfl) ?_
            refine nb_ifb_ne (tgt := 81) hx hb dX3_hasMisereWin_48 (by decide) (fun c_48 => ?_) (fun c_48 => ?_)
            · skip
              refine lv_iinc (v := (nI (k0 + 1))) (lv' := [(4, .int (nI (k0 + 1))), (5, .int (nI 1)), (3, .int (bI t8)), (0, .ref oa), (1, .int (nI S0)), (2, .int (nI d0))]) hx hb dX3_hasMisereWin_81 hl (k := 1) rfl (nI_1 _) (by decide) rfl (fun ls hl => ?_)
              refine lv_goto (tgt := 5) hx hb dX3_hasMisereWin_84 (by decide) ?_
              exact ih5 (k0 + 1) t8 f8 (by first | omega | assumption) (hok8) (by first | exact mInv_no hm8 c_39 | (rw [c_48]; rw [c_48] at hm8; exact mInv_lone hsy hS0 hm8 c_39 c_23) | exact mInv_tryl hm8 c_39 c_71 c_23 | exact mInv_try hm8 c_71) (by omega) _ _ hP hD hS ls (lv_sub hl [0, 2, 3, 4, 5] rfl)
            · skip
              refine lv_aload_n hx hb dX3_hasMisereWin_51 rfl (lv_at hl 3 rfl) ?_
              refine lv_iload_n hx hb dX3_hasMisereWin_52 rfl (lv_at hl 4 rfl) ?_
              refine lv_aload_n hx hb dX3_hasMisereWin_53 rfl (lv_at hl 3 rfl) ?_
              refine va_get (D := Γ.1) (ci := 3) (v := .ref oz) (C := RX3) (T := TX3) (N := 2) hx hb hts hinX3 hown hK.1 hP 0 rfl rfl 0 (by decide) (hts _ mw_128) (fun _ h9 => h9) rfl dX3_hasMisereWin_54 ?_
              refine lv_iload hx hb dX3_hasMisereWin_57 (lv_at hl 1 rfl) ?_
              refine ro_fin (va_runVN (As := [.int (nI k0)]) (rest := [.int (nI S0), .ref oa]) ⟨hx, hb, hml, hown, hts⟩ (c_X1_takenWith l Γ _ oz oe g k0 (hP.sub (ws' := [(oz, .inr (1, [.ref oe])), (oe, .inl (Γ.2 0, 14, .inl (aN g)))]) [1, 2] rfl) (by first | omega | assumption)) (kcwVN 1 hts kv_X1_takenWith (hK.nw _ (nwL_at 64 rfl)) (rm_le hR (Nat.le_of_ble_eq_true rfl) (Nat.le_of_ble_eq_true rfl))) (kPc_V hK (va_recv hK.1 hP (ci := 1) (q0 := 1) rfl rfl)) rfl rfl hl.1 rfl (lv_room (Nat.le_of_ble_eq_true rfl)) dX3_hasMisereWin_59 ⟨Nat.zero_le _, Nat.zero_le _⟩) hS (fun locs hS => ?_)
              refine lv_iconst (v := (-1)) hx hb dX3_hasMisereWin_62 (by decide) ?_
              refine lv_ixor hx hb dX3_hasMisereWin_63 ?_
              refine lv_iand hx hb dX3_hasMisereWin_64 ?_
              refine tp_i (y := (nI (sd S0 (g k0 ||| 2 ^ k0)))) (ni_sd _ _) ?_
              refine tp_i (y := (nI (lft g S0 k0))) (by rw [lft, Nat.or_comm]) ?_
              refine lv_iload_n hx hb dX3_hasMisereWin_65 rfl (lv_at hl 5 rfl) ?_
              refine lv_iconst (v := (nI 1)) hx hb dX3_hasMisereWin_66 (by decide) ?_
              refine lv_iadd hx hb dX3_hasMisereWin_67 ?_
              refine tp_i (y := (nI (d0 + 1))) (nI_add _ _) ?_
              refine wr_fini (va_runV (As := [.int (nI (lft g S0 k0)), .int (nI (d0 + 1))]) (rest := []) ⟨hx, hb, hml, hown, hts⟩ (IH f8 (lft g S0 k0) (d0 + 1) (hok8) (lft_lt _ hS0) (by omega) (by omega)) (kcwV 2 hts kv_X3_isMisereWon mw_160 (rm_le hR (by omega) (Nat.le_of_ble_eq_true rfl))) (kPw_V hK (va_recv hK.1 hP (ci := 3) (q0 := 0) rfl rfl) (hP.sub (ws' := [(oa, .inr (3, [.ref oz, .ref oq])), (oz, .inr (1, [.ref oe])), (oe, .inl (Γ.2 0, 14, .inl (aN g))), (oq, .inl (Γ.2 0, 16384, .inl (aN f8)))]) [0, 1, 2, 3] rfl) (hD.sub (ws' := [(oa, .inr (3, [.ref oz, .ref oq])), (oz, .inr (1, [.ref oe])), (oe, .inl (Γ.2 0, 14, .inl (aN g))), (oq, .inl (Γ.2 0, 16384, .inl (aN f8)))]) [0, 1, 2, 3] (by decide) rfl)) rfl rfl hl.1 rfl (lv_room (Nat.le_of_ble_eq_true rfl)) dX3_hasMisereWin_68 ⟨Nat.zero_le _, Nat.zero_le _⟩) hP hD hS [0, 1, 2, 3] rfl (fun _ => rfl) (fun r f7 H locs hw hP hD hS => ?_)
              obtain ⟨rfl, hk7⟩ := hw
              have hP : va_P Γ.1 vwCl [(oa, .inr (3, [.ref oz, .ref oq])), (oz, .inr (1, [.ref oe])), (oe, .inl (Γ.2 0, 14, .inl (aN g))), (oq, .inl (Γ.2 0, 16384, .inl (aN f7)))] H := hP
              have hD : va_D A [(oa, .inr (3, [.ref oz, .ref oq])), (oz, .inr (1, [.ref oe])), (oe, .inl (Γ.2 0, 14, .inl (aN g))), (oq, .inl (Γ.2 0, 16384, .inl (aN f7)))] := hD
              refine nb_ifb_ne (tgt := 76) hx hb dX3_hasMisereWin_71 (by decide) (fun c_71 => ?_) (fun c_71 => ?_)
              · skip
                refine lv_iload_n hx hb dX3_hasMisereWin_76 rfl (lv_at hl 2 rfl) ?_
                refine lv_iload hx hb dX3_hasMisereWin_77 (lv_at hl 0 rfl) ?_
                refine lv_ior hx hb dX3_hasMisereWin_79 ?_
                refine tp_i (y := (bI true)) (bI_or t8) ?_
                refine lv_istore_n (lv' := [(3, .int (bI true)), (5, .int (nI 1)), (4, .int (nI k0)), (0, .ref oa), (1, .int (nI S0)), (2, .int (nI d0))]) hx hb dX3_hasMisereWin_80 rfl hl (by decide) rfl (fun ls hl => ?_)
                refine lv_iinc (v := (nI (k0 + 1))) (lv' := [(4, .int (nI (k0 + 1))), (3, .int (bI true)), (5, .int (nI 1)), (0, .ref oa), (1, .int (nI S0)), (2, .int (nI d0))]) hx hb dX3_hasMisereWin_81 hl (k := 2) rfl (nI_1 _) (by decide) rfl (fun ls hl => ?_)
                refine lv_goto (tgt := 5) hx hb dX3_hasMisereWin_84 (by decide) ?_
                exact ih5 (k0 + 1) true f7 (by first | omega | assumption) (hk7) (by first | exact mInv_no hm8 c_39 | (rw [c_48]; rw [c_48] at hm8; exact mInv_lone hsy hS0 hm8 c_39 c_23) | exact mInv_tryl hm8 c_39 c_71 c_23 | exact mInv_try hm8 c_71) (by omega) _ _ hP hD hS ls (lv_sub hl [0, 1, 3, 4, 5] rfl)
              · skip
                refine lv_iconst (v := (nI 1)) hx hb dX3_hasMisereWin_74 (by decide) ?_
                exact hret f7 hP hS (⟨by rw [mis_win hS0 c_39 c_71]; rfl, hk7⟩) ⟨true, rfl⟩ dX3_hasMisereWin_75
  exact LP5 ((14 - 0) + 1) 0 false ff (by first | omega | assumption) (hok) (mInv_0 g S0) (Nat.lt_succ_self _) _ _ hP hD hS ls (lv_sub hl [0, 1, 2, 3, 4] rfl)
