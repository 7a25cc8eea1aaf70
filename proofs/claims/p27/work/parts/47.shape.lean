set_option maxHeartbeats 8000000 in
set_option maxRecDepth 100000 in
theorem c_X4_codeOver (l : Launch) (Γ : kG) (H0 : Heap) (sa : Nat) (sc : Nat) (cf : Nat → Nat) (w0 : Nat → Nat) (B0 : Nat) (hP : va_P Γ.1 vwCl [(sa, .inr (4, [.ref sc])), (sc, .inl (Γ.2 0, 14, .inl (aN cf)))] H0) (hB0 : B0 < 16384) (hcw : ∀ b, B0.testBit b = true → cdW (w0 b) (cf b)) (hwl : ∀ b, B0.testBit b = true → w0 b ≤ 14) (hsum : 1 + sm w0 B0 14 ≤ 14) : RO l yX4_codeOver (wsq yX4_codeOver cX4_codeOver 8 (some .int)) (rmL 2) Γ H0 [.ref sa, .int (nI B0)] (nI (2 * selV cf B0 1)) := by
  refine ro_ofi (cc := cX4_codeOver) (maxL := 8) (by decide +kernel) (Nat.le_of_ble_eq_true rfl) rfl ?_
  intro p ev R st mi args below meth cd Q ls C0 hR hret hh hS hl
  obtain ⟨hx, hb, hr, hml, hown, hts, hlk, hK, hnm⟩ := C0
  have hown : st.vm.findClass RX4 = some mi.cls := hown
  refine lv_iconst (v := (nI 1)) hx hb dX4_codeOver_0 (by decide) ?_
  refine lv_istore_n (lv' := [(2, .int (nI 1)), (0, .ref sa), (1, .int (nI B0))]) hx hb dX4_codeOver_1 rfl hl (by decide) rfl (fun ls hl => ?_)
  refine lv_iload_n hx hb dX4_codeOver_2 rfl (lv_at hl 2 rfl) ?_
  refine lv_istore_n (lv' := [(3, .int (nI B0)), (2, .int (nI 1)), (0, .ref sa), (1, .int (nI B0))]) hx hb dX4_codeOver_3 rfl hl (by decide) rfl (fun ls hl => ?_)
  refine lv_iconst (v := (nI 0)) hx hb dX4_codeOver_4 (by decide) ?_
  refine lv_istore (lv' := [(4, .int (nI 0)), (3, .int (nI B0)), (2, .int (nI 1)), (0, .ref sa), (1, .int (nI B0))]) hx hb dX4_codeOver_5 hl (by decide) rfl (fun ls hl => ?_)
  have LP7 : ∀ (fu : Nat) (t0 : Nat) (X0 : Nat) (Y0 : Nat) (s0 : Nat) (hO : OInv cf w0 B0 Y0 X0 s0 t0) (ht0 : t0 ≤ 14), (14 - t0) < fu → ∀ (locs : List Loc), va_S (fun _ => False) H0 H0 locs → ∀ (ls : Array Slot), lv_has ls 8 [(4, .int (nI t0)), (3, .int (nI Y0)), (2, .int (nI X0)), (0, .ref sa), (1, .int (nI B0))] → W p l ev R st mi args below meth cd H0 locs 0 0 Q (F0 mi 7 ls []) := by
    intro fu
    induction fu with
    | zero => intro t0 X0 Y0 s0 hO ht0 hfu; exact absurd hfu (Nat.not_lt_zero _)
    | succ fu ih7 =>
      intro t0 X0 Y0 s0 hO ht0 hfu locs hS ls hl
      refine lv_iload hx hb dX4_codeOver_7 (lv_at hl 0 rfl) ?_
      refine lv_bipush (v := (nI 14)) hx hb dX4_codeOver_9 (by decide) ?_
      refine nb_icmp_ge (tgt := 108) hx hb (by first | omega | assumption) (by first | omega | assumption) dX4_codeOver_11 (by decide) (fun c_11 => ?_) (fun c_11 => ?_)
      · skip
        have hz9 := OInv_14 hO c_11
        refine lv_iload_n hx hb dX4_codeOver_108 rfl (lv_at hl 2 rfl) ?_
        refine lv_iconst (v := (nI 1)) hx hb dX4_codeOver_109 (by decide) ?_
        have hX9 := OInv_X hO
        refine lv_ishl hx hb dX4_codeOver_110 ?_
        refine tp_i (y := (nI (X0 * 2 ^ 1))) (ni_shl (by omega) (by omega)) ?_
        exact hret hS (by rw [OInv_v hO hz9, Nat.mul_comm]) dX4_codeOver_111
      · skip
        have hY9 := hO.1
        refine lv_iload_n hx hb dX4_codeOver_14 rfl (lv_at hl 1 rfl) ?_
        refine nb_if_eq (tgt := 108) hx hb (Nat.lt_trans hY9 (by decide)) dX4_codeOver_15 (by decide) (fun c_15 => ?_) (fun c_15 => ?_)
        · skip
          have hz9 := c_15
          refine lv_iload_n hx hb dX4_codeOver_108 rfl (lv_at hl 2 rfl) ?_
          refine lv_iconst (v := (nI 1)) hx hb dX4_codeOver_109 (by decide) ?_
          have hX9 := OInv_X hO
          refine lv_ishl hx hb dX4_codeOver_110 ?_
          refine tp_i (y := (nI (X0 * 2 ^ 1))) (ni_shl (by omega) (by omega)) ?_
          exact hret hS (by rw [OInv_v hO hz9, Nat.mul_comm]) dX4_codeOver_111
        · skip
          refine lv_iconst (v := (nI 0)) hx hb dX4_codeOver_18 (by decide) ?_
          refine lv_istore (lv' := [(5, .int (nI 0)), (4, .int (nI t0)), (3, .int (nI Y0)), (2, .int (nI X0)), (0, .ref sa), (1, .int (nI B0))]) hx hb dX4_codeOver_19 hl (by decide) rfl (fun ls hl => ?_)
          refine lv_iconst (v := (nI 0)) hx hb dX4_codeOver_21 (by decide) ?_
          refine lv_istore (lv' := [(6, .int (nI 0)), (5, .int (nI 0)), (4, .int (nI t0)), (3, .int (nI Y0)), (2, .int (nI X0)), (0, .ref sa), (1, .int (nI B0))]) hx hb dX4_codeOver_22 hl (by decide) rfl (fun ls hl => ?_)
          refine lv_iconst (v := (nI 0)) hx hb dX4_codeOver_24 (by decide) ?_
          refine lv_istore (lv' := [(7, .int (nI 0)), (6, .int (nI 0)), (5, .int (nI 0)), (4, .int (nI t0)), (3, .int (nI Y0)), (2, .int (nI X0)), (0, .ref sa), (1, .int (nI B0))]) hx hb dX4_codeOver_25 hl (by decide) rfl (fun ls hl => ?_)
          have LP27 : ∀ (fu : Nat) (b0 : Nat) (p0 : Nat) (q0 : Nat) (hb0 : b0 ≤ 14) (hI : InvM cf Y0 b0 p0 q0), (14 - b0) < fu → ∀ (locs : List Loc), va_S (fun _ => False) H0 H0 locs → ∀ (ls : Array Slot), lv_has ls 8 [(7, .int (nI b0)), (6, .int (nI q0)), (5, .int (nI p0)), (4, .int (nI t0)), (3, .int (nI Y0)), (2, .int (nI X0)), (0, .ref sa), (1, .int (nI B0))] → W p l ev R st mi args below meth cd H0 locs 0 0 Q (F0 mi 27 ls []) := by
            intro fu
            induction fu with
            | zero => intro b0 p0 q0 hb0 hI hfu; exact absurd hfu (Nat.not_lt_zero _)
            | succ fu ih27 =>
              intro b0 p0 q0 hb0 hI hfu locs hS ls hl
              refine lv_iload hx hb dX4_codeOver_27 (lv_at hl 0 rfl) ?_
              refine lv_bipush (v := (nI 14)) hx hb dX4_codeOver_29 (by decide) ?_
              refine nb_icmp_ge (tgt := 74) hx hb (by first | omega | assumption) (by first | omega | assumption) dX4_codeOver_31 (by decide) (fun c_31 => ?_) (fun c_31 => ?_)
              · skip
                have he9 : 14 = b0 := by omega
                subst he9
                obtain ⟨hmx, hq9⟩ := InvM_end hI hY9 c_15 (fun b9 h9 => cdW_1 (hcw b9 (hO.2.1 b9 h9)))
                subst hq9
                have hcp := hcw p0 (hO.2.1 p0 hmx.1)
                have hlg := (cdW_l hcp (hwl p0 (hO.2.1 p0 hmx.1))).1
                have hXs := OInv_Xs hO hmx.1 hcp
                refine lv_bipush (v := (nI 32)) hx hb dX4_codeOver_74 (by decide) ?_
                refine lv_iload hx hb dX4_codeOver_76 (lv_at hl 1 rfl) ?_
                refine ro_fin (va_runS (As := [.int (nI (cf p0))]) (rest := [.int (nI 32)]) ⟨hx, hb, hml, hown, hts⟩ (c_J6_numberOfLeadingZeros_0f7a4 l Γ H0 (cf p0) (Nat.log2 (cf p0)) (by omega) (log_le (cdW_1 hcp)) (log_lt _)) (kcwS 1 hts kv_J6_numberOfLeadingZeros_0f7a4 mw_175 (rm_le hR (Nat.le_of_ble_eq_true rfl) (Nat.le_of_ble_eq_true rfl))) (kPc_S hK) rfl rfl hl.1 rfl (lv_room (Nat.le_of_ble_eq_true rfl)) dX4_codeOver_78 ⟨Nat.zero_le _, Nat.zero_le _⟩) hS (fun locs hS => ?_)
                refine lv_isub hx hb dX4_codeOver_81 ?_
                refine tp_i (y := (nI (32 - (31 - (Nat.log2 (cf p0)))))) (ni_sub (by omega)) ?_
                refine tp_i (y := (nI (Nat.log2 (cf p0) + 1))) (congrArg nI (by omega)) ?_
                refine lv_istore (lv' := [(7, .int (nI (Nat.log2 (cf p0) + 1))), (6, .int (nI (cf p0))), (5, .int (nI p0)), (4, .int (nI t0)), (3, .int (nI Y0)), (2, .int (nI X0)), (0, .ref sa), (1, .int (nI B0))]) hx hb dX4_codeOver_82 hl (by decide) rfl (fun ls hl => ?_)
                refine lv_iload_n hx hb dX4_codeOver_84 rfl (lv_at hl 5 rfl) ?_
                refine lv_iload hx hb dX4_codeOver_85 (lv_at hl 0 rfl) ?_
                refine lv_ishl hx hb dX4_codeOver_87 ?_
                refine tp_i (y := (nI (X0 * 2 ^ (Nat.log2 (cf p0) + 1)))) (ni_shl (by omega) (Nat.lt_trans hXs (by decide))) ?_
                refine lv_iload hx hb dX4_codeOver_88 (lv_at hl 1 rfl) ?_
                refine lv_ior hx hb dX4_codeOver_90 ?_
                refine tp_i (y := (nI ((X0 * 2 ^ (Nat.log2 (cf p0) + 1)) ||| (cf p0)))) (ni_or _ _) ?_
                refine tp_i (y := (nI (ctA X0 (cf p0)))) (by rw [ctA_or]) ?_
                refine lv_istore_n (lv' := [(2, .int (nI (ctA X0 (cf p0)))), (7, .int (nI (Nat.log2 (cf p0) + 1))), (6, .int (nI (cf p0))), (5, .int (nI p0)), (4, .int (nI t0)), (3, .int (nI Y0)), (0, .ref sa), (1, .int (nI B0))]) hx hb dX4_codeOver_91 rfl hl (by decide) rfl (fun ls hl => ?_)
                refine lv_iload_n hx hb dX4_codeOver_92 rfl (lv_at hl 5 rfl) ?_
                refine lv_iload hx hb dX4_codeOver_93 (lv_at hl 3 rfl) ?_
                refine ro_fin (va_runSN (As := [.int (nI p0)]) (rest := [.int (nI Y0)]) ⟨hx, hb, hml, hown, hts⟩ (c_X6_bit l Γ H0 p0 (bit_in hY9 hmx.1)) (kcwSN 1 hts kv_X6_bit (hK.nw _ (nwL_at 67 rfl)) (rm_le hR (Nat.le_of_ble_eq_true rfl) (Nat.le_of_ble_eq_true rfl))) (kPc_S hK) rfl rfl hl.1 rfl (lv_room (Nat.le_of_ble_eq_true rfl)) dX4_codeOver_95 ⟨Nat.zero_le _, Nat.zero_le _⟩) hS (fun locs hS => ?_)
                refine lv_iconst (v := (-1)) hx hb dX4_codeOver_98 (by decide) ?_
                refine lv_ixor hx hb dX4_codeOver_99 ?_
                refine lv_iand hx hb dX4_codeOver_100 ?_
                refine tp_i (y := (nI (sd Y0 (2 ^ p0)))) (ni_sd _ _) ?_
                refine lv_istore_n (lv' := [(3, .int (nI (sd Y0 (2 ^ p0)))), (2, .int (nI (ctA X0 (cf p0)))), (7, .int (nI (Nat.log2 (cf p0) + 1))), (6, .int (nI (cf p0))), (5, .int (nI p0)), (4, .int (nI t0)), (0, .ref sa), (1, .int (nI B0))]) hx hb dX4_codeOver_101 rfl hl (by decide) rfl (fun ls hl => ?_)
                refine lv_iinc (v := (nI (t0 + 1))) (lv' := [(4, .int (nI (t0 + 1))), (3, .int (nI (sd Y0 (2 ^ p0)))), (2, .int (nI (ctA X0 (cf p0)))), (7, .int (nI (Nat.log2 (cf p0) + 1))), (6, .int (nI (cf p0))), (5, .int (nI p0)), (0, .ref sa), (1, .int (nI B0))]) hx hb dX4_codeOver_102 hl (k := 5) rfl (nI_1 _) (by decide) rfl (fun ls hl => ?_)
                refine lv_goto (tgt := 7) hx hb dX4_codeOver_105 (by decide) ?_
                exact ih7 (t0 + 1) (ctA X0 (cf p0)) (sd Y0 (2 ^ p0)) (s0 + w0 p0) (OInv_s hO hmx hcp) (by first | omega | assumption) (by omega) _ hS ls (lv_sub hl [0, 1, 2, 6, 7] rfl)
              · skip
                refine lv_iload_n hx hb dX4_codeOver_34 rfl (lv_at hl 4 rfl) ?_
                refine lv_iload hx hb dX4_codeOver_35 (lv_at hl 0 rfl) ?_
                refine ro_fin (va_runSN (As := [.int (nI Y0), .int (nI b0)]) (rest := []) ⟨hx, hb, hml, hown, hts⟩ (c_X6_has l Γ H0 Y0 b0 (by first | omega | assumption) (by first | omega | assumption)) (kcwSN 2 hts kv_X6_has (hK.nw _ (nwL_at 66 rfl)) (rm_le hR (Nat.le_of_ble_eq_true rfl) (Nat.le_of_ble_eq_true rfl))) (kPc_S hK) rfl rfl hl.1 rfl (lv_room (Nat.le_of_ble_eq_true rfl)) dX4_codeOver_37 ⟨Nat.zero_le _, Nat.zero_le _⟩) hS (fun locs hS => ?_)
                refine nb_ifb_eq (tgt := 68) hx hb dX4_codeOver_40 (by decide) (fun c_40 => ?_) (fun c_40 => ?_)
                · skip
                  skip
                  refine lv_iinc (v := (nI (b0 + 1))) (lv' := [(7, .int (nI (b0 + 1))), (6, .int (nI q0)), (5, .int (nI p0)), (4, .int (nI t0)), (3, .int (nI Y0)), (2, .int (nI X0)), (0, .ref sa), (1, .int (nI B0))]) hx hb dX4_codeOver_68 hl (k := 0) rfl (nI_1 _) (by decide) rfl (fun ls hl => ?_)
                  refine lv_goto (tgt := 27) hx hb dX4_codeOver_71 (by decide) ?_
                  exact ih27 (b0 + 1) p0 q0 (by first | omega | assumption) (by first | exact InvM_no hI c_40 | exact InvM_le hI c_52 | exact InvM_up hI (by omega) c_40 c_52 hcl9) (by omega) _ hS ls (lv_sub hl [0, 1, 2, 3, 4, 5, 6, 7] rfl)
                · skip
                  have hcl9 : cf b0 < 2 ^ 28 := (cdW_l (hcw b0 (hO.2.1 b0 c_40)) (hwl b0 (hO.2.1 b0 c_40))).2
                  refine lv_aload_n hx hb dX4_codeOver_43 rfl (lv_at hl 6 rfl) ?_
                  refine va_get (D := Γ.1) (ci := 4) (v := .ref sc) (C := RX4) (T := TX4) (N := 1) hx hb hts hinX4 hown hK.1 hP 0 rfl rfl 0 (by decide) (hts _ mw_172) (fun _ h9 => h9) rfl dX4_codeOver_44 ?_
                  refine lv_iload hx hb dX4_codeOver_47 (lv_at hl 0 rfl) ?_
                  refine iald_N hx hb hK.1 hP 1 0 rfl rfl (by omega) (by first | decide | assumption) dX4_codeOver_49 ?_
                  refine lv_iload hx hb dX4_codeOver_50 (lv_at hl 1 rfl) ?_
                  refine nb_icmp_le (tgt := 68) hx hb (Nat.lt_trans hcl9 (by decide)) (Nat.lt_trans hI.2.2.2 (by decide)) dX4_codeOver_52 (by decide) (fun c_52 => ?_) (fun c_52 => ?_)
                  · skip
                    refine lv_iinc (v := (nI (b0 + 1))) (lv' := [(7, .int (nI (b0 + 1))), (6, .int (nI q0)), (5, .int (nI p0)), (4, .int (nI t0)), (3, .int (nI Y0)), (2, .int (nI X0)), (0, .ref sa), (1, .int (nI B0))]) hx hb dX4_codeOver_68 hl (k := 0) rfl (nI_1 _) (by decide) rfl (fun ls hl => ?_)
                    refine lv_goto (tgt := 27) hx hb dX4_codeOver_71 (by decide) ?_
                    exact ih27 (b0 + 1) p0 q0 (by first | omega | assumption) (by first | exact InvM_no hI c_40 | exact InvM_le hI c_52 | exact InvM_up hI (by omega) c_40 c_52 hcl9) (by omega) _ hS ls (lv_sub hl [0, 1, 2, 3, 4, 5, 6, 7] rfl)
                  · skip
                    refine lv_iload hx hb dX4_codeOver_55 (lv_at hl 0 rfl) ?_
                    refine lv_istore (lv' := [(5, .int (nI b0)), (7, .int (nI b0)), (6, .int (nI q0)), (4, .int (nI t0)), (3, .int (nI Y0)), (2, .int (nI X0)), (0, .ref sa), (1, .int (nI B0))]) hx hb dX4_codeOver_57 hl (by decide) rfl (fun ls hl => ?_)
                    refine lv_aload_n hx hb dX4_codeOver_59 rfl (lv_at hl 6 rfl) ?_
                    refine va_get (D := Γ.1) (ci := 4) (v := .ref sc) (C := RX4) (T := TX4) (N := 1) hx hb hts hinX4 hown hK.1 hP 0 rfl rfl 0 (by decide) (hts _ mw_172) (fun _ h9 => h9) rfl dX4_codeOver_60 ?_
                    refine lv_iload hx hb dX4_codeOver_63 (lv_at hl 1 rfl) ?_
                    refine iald_N hx hb hK.1 hP 1 0 rfl rfl (by omega) (by first | decide | assumption) dX4_codeOver_65 ?_
                    refine lv_istore (lv' := [(6, .int (nI (cf b0))), (5, .int (nI b0)), (7, .int (nI b0)), (4, .int (nI t0)), (3, .int (nI Y0)), (2, .int (nI X0)), (0, .ref sa), (1, .int (nI B0))]) hx hb dX4_codeOver_66 hl (by decide) rfl (fun ls hl => ?_)
                    refine lv_iinc (v := (nI (b0 + 1))) (lv' := [(7, .int (nI (b0 + 1))), (6, .int (nI (cf b0))), (5, .int (nI b0)), (4, .int (nI t0)), (3, .int (nI Y0)), (2, .int (nI X0)), (0, .ref sa), (1, .int (nI B0))]) hx hb dX4_codeOver_68 hl (k := 2) rfl (nI_1 _) (by decide) rfl (fun ls hl => ?_)
                    refine lv_goto (tgt := 27) hx hb dX4_codeOver_71 (by decide) ?_
                    exact ih27 (b0 + 1) b0 (cf b0) (by first | omega | assumption) (by first | exact InvM_no hI c_40 | exact InvM_le hI c_52 | exact InvM_up hI (by omega) c_40 c_52 hcl9) (by omega) _ hS ls (lv_sub hl [0, 1, 2, 3, 4, 5, 6, 7] rfl)
          exact LP27 ((14 - 0) + 1) 0 0 0 (by first | omega | assumption) (InvM_0 cf Y0) (Nat.lt_succ_self _) _ hS ls (lv_sub hl [0, 1, 2, 3, 4, 5, 6, 7] rfl)
  exact LP7 ((14 - 0) + 1) 0 1 B0 1 (OInv_0 hB0 hsum) (by first | omega | assumption) (Nat.lt_succ_self _) _ hS ls (lv_sub hl [0, 1, 2, 3, 4] rfl)
set_option maxHeartbeats 8000000 in
set_option maxRecDepth 100000 in
theorem c_X4_codeFrom_s (l : Launch) (Γ : kG) (n9 : Nat) (sa : Nat) (sc : Nat) (cf : Nat → Nat) (a : Nat) (e : Nat) (g : Nat → Nat) (W0 : Nat) (r0 : Nat) (d0 : Nat) (hfg : FG g) (hW0 : W0 < 16384) (hr0 : W0.testBit r0 = true) (hpn : pc W0 ≤ n9 + 1) (hpd : d0 + pc W0 ≤ 15) (IH : ∀ (cf : Nat → Nat) (W0 r0 d0 : Nat), W0 < 16384 → W0.testBit r0 = true → pc W0 ≤ n9 → d0 + pc W0 ≤ 15 → WRi l yX4_codeFrom (wsq yX4_codeFrom cX4_codeFrom 8 (some .int)) (rmL (n9 + 4)) Γ [.ref sa, .ref a, .int (nI W0), .int (nI r0), .int (nI d0)] [(sa, .inr (4, [.ref sc])), (sc, .inl (Γ.2 0, 14, .inl (aN cf))), (a, .inr (1, [.ref e])), (e, .inl (Γ.2 0, 14, .inl (aN g)))] (fun u : (Nat → Nat) => [(sa, .inr (4, [.ref sc])), (sc, .inl (Γ.2 0, 14, .inl (aN u))), (a, .inr (1, [.ref e])), (e, .inl (Γ.2 0, 14, .inl (aN g)))]) (fun (r : Int32) (u : (Nat → Nat)) => r = (nI (CD g W0 r0)) ∧ ∀ x, ((comp g W0 r0).testBit x = false ∨ x = r0) → u x = cf x)) : WRi l yX4_codeFrom (wsq yX4_codeFrom cX4_codeFrom 8 (some .int)) (rmL (n9 + 5)) Γ [.ref sa, .ref a, .int (nI W0), .int (nI r0), .int (nI d0)] [(sa, .inr (4, [.ref sc])), (sc, .inl (Γ.2 0, 14, .inl (aN cf))), (a, .inr (1, [.ref e])), (e, .inl (Γ.2 0, 14, .inl (aN g)))] (fun u : (Nat → Nat) => [(sa, .inr (4, [.ref sc])), (sc, .inl (Γ.2 0, 14, .inl (aN u))), (a, .inr (1, [.ref e])), (e, .inl (Γ.2 0, 14, .inl (aN g)))]) (fun (r : Int32) (u : (Nat → Nat)) => r = (nI (CD g W0 r0)) ∧ ∀ x, ((comp g W0 r0).testBit x = false ∨ x = r0) → u x = cf x) := by
  refine wr_ofi (cc := cX4_codeFrom) (maxL := 8) (by decide +kernel) (Nat.le_of_ble_eq_true rfl) rfl ?_
  intro p ev R st mi args below meth cd Q A ls C0 hR hret hP hD hS hl
  obtain ⟨hx, hb, hr, hml, hown, hts, hlk, hK, hnm⟩ := C0
  have hown : st.vm.findClass RX4 = some mi.cls := hown
  have hp9 := pc_rm hW0 hr0
  have hr9 := bit_in hW0 hr0
  have hs9 := sd_14 (2 ^ r0) hW0
  have hc9 := chd_lt (g := g) (r := r0) hW0
  refine lv_iload hx hb dX4_codeFrom_0 (lv_at hl 4 rfl) ?_
  refine lv_bipush (v := (nI 14)) hx hb dX4_codeFrom_2 (by decide) ?_
  refine nb_icmp_le (tgt := 9) hx hb (by first | omega | assumption) (by first | omega | assumption) dX4_codeFrom_4 (by decide) (fun c_4 => ?_) (fun c_4 => by exfalso; omega)
  refine lv_iload_n hx hb dX4_codeFrom_9 rfl (lv_at hl 2 rfl) ?_
  refine lv_iload_n hx hb dX4_codeFrom_10 rfl (lv_at hl 3 rfl) ?_
  refine ro_fin (va_runSN (As := [.int (nI r0)]) (rest := [.int (nI W0)]) ⟨hx, hb, hml, hown, hts⟩ (c_X6_bit l Γ _ r0 (by first | omega | assumption)) (kcwSN 1 hts kv_X6_bit (hK.nw _ (nwL_at 67 rfl)) (rm_le hR (by omega) (Nat.le_of_ble_eq_true rfl))) (kPc_S hK) rfl rfl hl.1 rfl (lv_room (Nat.le_of_ble_eq_true rfl)) dX4_codeFrom_11 ⟨Nat.zero_le _, Nat.zero_le _⟩) hS (fun locs hS => ?_)
  refine lv_iconst (v := (-1)) hx hb dX4_codeFrom_14 (by decide) ?_
  refine lv_ixor hx hb dX4_codeFrom_15 ?_
  refine lv_iand hx hb dX4_codeFrom_16 ?_
  refine tp_i (y := (nI (sd W0 (2 ^ r0)))) (ni_sd _ _) ?_
  refine lv_istore (lv' := [(5, .int (nI (sd W0 (2 ^ r0)))), (0, .ref sa), (1, .ref a), (2, .int (nI W0)), (3, .int (nI r0)), (4, .int (nI d0))]) hx hb dX4_codeFrom_17 hl (by decide) rfl (fun ls hl => ?_)
  refine lv_aload_n hx hb dX4_codeFrom_19 rfl (lv_at hl 2 rfl) ?_
  refine lv_iload_n hx hb dX4_codeFrom_20 rfl (lv_at hl 4 rfl) ?_
  refine ro_fin (va_runVN (As := [.int (nI r0)]) (rest := []) ⟨hx, hb, hml, hown, hts⟩ (c_X1_around l Γ _ a e g r0 (hP.sub (ws' := [(a, .inr (1, [.ref e])), (e, .inl (Γ.2 0, 14, .inl (aN g)))]) [2, 3] rfl) (by first | omega | assumption)) (kcwVN 1 hts kv_X1_around (hK.nw _ (nwL_at 68 rfl)) (rm_le hR (by omega) (Nat.le_of_ble_eq_true rfl))) (kPc_V hK (va_recv hK.1 hP (ci := 1) (q0 := 2) rfl rfl)) rfl rfl hl.1 rfl (lv_room (Nat.le_of_ble_eq_true rfl)) dX4_codeFrom_21 ⟨Nat.zero_le _, Nat.zero_le _⟩) hS (fun locs hS => ?_)
  refine lv_iload hx hb dX4_codeFrom_24 (lv_at hl 0 rfl) ?_
  refine lv_iand hx hb dX4_codeFrom_26 ?_
  refine tp_i (y := (nI ((g r0) &&& (sd W0 (2 ^ r0))))) (ni_and _ _) ?_
  refine lv_istore (lv' := [(6, .int (nI ((g r0) &&& (sd W0 (2 ^ r0))))), (5, .int (nI (sd W0 (2 ^ r0)))), (0, .ref sa), (1, .ref a), (2, .int (nI W0)), (3, .int (nI r0)), (4, .int (nI d0))]) hx hb dX4_codeFrom_27 hl (by decide) rfl (fun ls hl => ?_)
  refine lv_iconst (v := (nI 0)) hx hb dX4_codeFrom_29 (by decide) ?_
  refine lv_istore (lv' := [(7, .int (nI 0)), (6, .int (nI ((g r0) &&& (sd W0 (2 ^ r0))))), (5, .int (nI (sd W0 (2 ^ r0)))), (0, .ref sa), (1, .ref a), (2, .int (nI W0)), (3, .int (nI r0)), (4, .int (nI d0))]) hx hb dX4_codeFrom_30 hl (by decide) rfl (fun ls hl => ?_)
  have LP32 : ∀ (fu : Nat) (k0 : Nat) (c8 : Nat → Nat) (hk0 : k0 ≤ 14) (hin : ∀ b, b < k0 → (g r0 &&& (sd W0 (2 ^ r0))).testBit b = true → c8 b = CD g (sd W0 (2 ^ r0)) b) (hou : ∀ x, ((comp g W0 r0).testBit x = false ∨ x = r0) → c8 x = cf x), (14 - k0) < fu → ∀ (H : Heap) (locs : List Loc), va_P Γ.1 vwCl [(sa, .inr (4, [.ref sc])), (sc, .inl (Γ.2 0, 14, .inl (aN c8))), (a, .inr (1, [.ref e])), (e, .inl (Γ.2 0, 14, .inl (aN g)))] H → va_D A [(sa, .inr (4, [.ref sc])), (sc, .inl (Γ.2 0, 14, .inl (aN c8))), (a, .inr (1, [.ref e])), (e, .inl (Γ.2 0, 14, .inl (aN g)))] → va_S A st.heap H locs → ∀ (ls : Array Slot), lv_has ls 8 [(7, .int (nI k0)), (6, .int (nI ((g r0) &&& (sd W0 (2 ^ r0))))), (5, .int (nI (sd W0 (2 ^ r0)))), (0, .ref sa), (1, .ref a), (2, .int (nI W0)), (3, .int (nI r0)), (4, .int (nI d0))] → W p l ev R st mi args below meth cd H locs 0 0 Q (F0 mi 32 ls []) := by
    intro fu
    induction fu with
    | zero => intro k0 c8 hk0 hin hou hfu; exact absurd hfu (Nat.not_lt_zero _)
    | succ fu ih32 =>
      intro k0 c8 hk0 hin hou hfu H locs hP hD hS ls hl
      refine lv_iload hx hb dX4_codeFrom_32 (lv_at hl 0 rfl) ?_
      refine lv_bipush (v := (nI 14)) hx hb dX4_codeFrom_34 (by decide) ?_
      refine nb_icmp_ge (tgt := 75) hx hb (by first | omega | assumption) (by first | omega | assumption) dX4_codeFrom_36 (by decide) (fun c_36 => ?_) (fun c_36 => ?_)
      · skip
        have he9 : 14 = k0 := by omega
        subst he9
        refine lv_aload_n hx hb dX4_codeFrom_75 rfl (lv_at hl 3 rfl) ?_
        refine lv_iload hx hb dX4_codeFrom_76 (lv_at hl 1 rfl) ?_
        refine ro_fin (va_runV (As := [.int (nI ((g r0) &&& (sd W0 (2 ^ r0))))]) (rest := []) ⟨hx, hb, hml, hown, hts⟩ (c_X4_codeOver l Γ _ sa sc c8 (fun b => wtD g (sd W0 (2 ^ r0)) b) ((g r0) &&& (sd W0 (2 ^ r0))) (hP.sub (ws' := [(sa, .inr (4, [.ref sc])), (sc, .inl (Γ.2 0, 14, .inl (aN c8)))]) [0, 1] rfl) (by first | omega | assumption) (fun b9 h9 => by rw [hin b9 (bit_in hc9 h9) h9]; exact CD_w hfg hs9 (sd_sub.mpr (chd_bit.mp h9).2)) (fun b9 _ => wt_le _ _ _) (by rw [← wt_eq hfg hW0 hr0]; exact wt_le _ _ _)) (kcwV 1 hts kv_X4_codeOver mw_182 (rm_le hR (by omega) (Nat.le_of_ble_eq_true rfl))) (kPc_V hK (va_recv hK.1 hP (ci := 4) (q0 := 0) rfl rfl)) rfl rfl hl.1 rfl (lv_room (Nat.le_of_ble_eq_true rfl)) dX4_codeFrom_78 ⟨Nat.zero_le _, Nat.zero_le _⟩) hS (fun locs hS => ?_)
        refine tp_i (y := (nI (CD g W0 r0))) (by rw [CD_eq g hW0 hr0, selV_congr 14 _ 1 hc9 (pc_le _) (fun b9 h9 => hin b9 (bit_in hc9 h9) h9)]) ?_
        exact hret c8 hP hS (⟨rfl, hou⟩) dX4_codeFrom_81
      · skip
        refine lv_iload hx hb dX4_codeFrom_39 (lv_at hl 1 rfl) ?_
        refine lv_iload hx hb dX4_codeFrom_41 (lv_at hl 0 rfl) ?_
        refine ro_fin (va_runSN (As := [.int (nI ((g r0) &&& (sd W0 (2 ^ r0)))), .int (nI k0)]) (rest := []) ⟨hx, hb, hml, hown, hts⟩ (c_X6_has l Γ _ ((g r0) &&& (sd W0 (2 ^ r0))) k0 (by first | omega | assumption) (by first | omega | assumption)) (kcwSN 2 hts kv_X6_has (hK.nw _ (nwL_at 66 rfl)) (rm_le hR (by omega) (Nat.le_of_ble_eq_true rfl))) (kPc_S hK) rfl rfl hl.1 rfl (lv_room (Nat.le_of_ble_eq_true rfl)) dX4_codeFrom_43 ⟨Nat.zero_le _, Nat.zero_le _⟩) hS (fun locs hS => ?_)
        refine nb_ifb_eq (tgt := 69) hx hb dX4_codeFrom_46 (by decide) (fun c_46 => ?_) (fun c_46 => ?_)
        · skip
          refine lv_iinc (v := (nI (k0 + 1))) (lv' := [(7, .int (nI (k0 + 1))), (6, .int (nI ((g r0) &&& (sd W0 (2 ^ r0))))), (5, .int (nI (sd W0 (2 ^ r0)))), (0, .ref sa), (1, .ref a), (2, .int (nI W0)), (3, .int (nI r0)), (4, .int (nI d0))]) hx hb dX4_codeFrom_69 hl (k := 0) rfl (nI_1 _) (by decide) rfl (fun ls hl => ?_)
          refine lv_goto (tgt := 32) hx hb dX4_codeFrom_72 (by decide) ?_
          exact ih32 (k0 + 1) c8 (by first | omega | assumption) (cd_in0 hin c_46) (hou) (by omega) _ _ hP hD hS ls (lv_sub hl [0, 1, 2, 3, 4, 5, 6, 7] rfl)
        · skip
          have hb9 := chd_bit.mp c_46
          refine lv_aload_n hx hb dX4_codeFrom_49 rfl (lv_at hl 3 rfl) ?_
          refine va_get (D := Γ.1) (ci := 4) (v := .ref sc) (C := RX4) (T := TX4) (N := 1) hx hb hts hinX4 hown hK.1 hP 0 rfl rfl 0 (by decide) (hts _ mw_172) (fun _ h9 => h9) rfl dX4_codeFrom_50 ?_
          refine lv_iload hx hb dX4_codeFrom_53 (lv_at hl 0 rfl) ?_
          refine lv_aload_n hx hb dX4_codeFrom_55 rfl (lv_at hl 3 rfl) ?_
          refine lv_aload_n hx hb dX4_codeFrom_56 rfl (lv_at hl 4 rfl) ?_
          refine lv_iload hx hb dX4_codeFrom_57 (lv_at hl 2 rfl) ?_
          refine lv_iload hx hb dX4_codeFrom_59 (lv_at hl 0 rfl) ?_
          refine lv_iload hx hb dX4_codeFrom_61 (lv_at hl 7 rfl) ?_
          refine lv_iconst (v := (nI 1)) hx hb dX4_codeFrom_63 (by decide) ?_
          refine lv_iadd hx hb dX4_codeFrom_64 ?_
          refine tp_i (y := (nI (d0 + 1))) (nI_add _ _) ?_
          refine wr_fini (va_runV (As := [.ref a, .int (nI (sd W0 (2 ^ r0))), .int (nI k0), .int (nI (d0 + 1))]) (rest := [.int (nI k0), .ref sc]) ⟨hx, hb, hml, hown, hts⟩ (IH c8 (sd W0 (2 ^ r0)) k0 (d0 + 1) (hs9) (sd_sub.mpr hb9.2) (by omega) (by omega)) (kcwV 4 hts kv_X4_codeFrom mw_178 (rm_le hR (by omega) (Nat.le_of_ble_eq_true rfl))) (kPw_V hK (va_recv hK.1 hP (ci := 4) (q0 := 0) rfl rfl) (hP.sub (ws' := [(sa, .inr (4, [.ref sc])), (sc, .inl (Γ.2 0, 14, .inl (aN c8))), (a, .inr (1, [.ref e])), (e, .inl (Γ.2 0, 14, .inl (aN g)))]) [0, 1, 2, 3] rfl) (hD.sub (ws' := [(sa, .inr (4, [.ref sc])), (sc, .inl (Γ.2 0, 14, .inl (aN c8))), (a, .inr (1, [.ref e])), (e, .inl (Γ.2 0, 14, .inl (aN g)))]) [0, 1, 2, 3] (by decide) rfl)) rfl rfl hl.1 rfl (lv_room (Nat.le_of_ble_eq_true rfl)) dX4_codeFrom_65 ⟨Nat.zero_le _, Nat.zero_le _⟩) hP hD hS [0, 1, 2, 3] rfl (fun _ => rfl) (fun r c7 H locs hw hP hD hS => ?_)
          obtain ⟨rfl, ho7⟩ := hw
          have hP : va_P Γ.1 vwCl [(sa, .inr (4, [.ref sc])), (sc, .inl (Γ.2 0, 14, .inl (aN c7))), (a, .inr (1, [.ref e])), (e, .inl (Γ.2 0, 14, .inl (aN g)))] H := hP
          have hD : va_D A [(sa, .inr (4, [.ref sc])), (sc, .inl (Γ.2 0, 14, .inl (aN c7))), (a, .inr (1, [.ref e])), (e, .inl (Γ.2 0, 14, .inl (aN g)))] := hD
          refine iast_N hx hb hK.1 hP hD hS 1 0 rfl rfl (by omega) (by first | decide | assumption) dX4_codeFrom_68 (fun H locs hP hD hS => ?_)
          have hP : va_P Γ.1 vwCl [(sa, .inr (4, [.ref sc])), (sc, .inl (Γ.2 0, 14, .inl (aN (upN c7 k0 (CD g (sd W0 (2 ^ r0)) k0))))), (a, .inr (1, [.ref e])), (e, .inl (Γ.2 0, 14, .inl (aN g)))] H := hP
          have hD : va_D A [(sa, .inr (4, [.ref sc])), (sc, .inl (Γ.2 0, 14, .inl (aN (upN c7 k0 (CD g (sd W0 (2 ^ r0)) k0))))), (a, .inr (1, [.ref e])), (e, .inl (Γ.2 0, 14, .inl (aN g)))] := hD
          refine lv_iinc (v := (nI (k0 + 1))) (lv' := [(7, .int (nI (k0 + 1))), (6, .int (nI ((g r0) &&& (sd W0 (2 ^ r0))))), (5, .int (nI (sd W0 (2 ^ r0)))), (0, .ref sa), (1, .ref a), (2, .int (nI W0)), (3, .int (nI r0)), (4, .int (nI d0))]) hx hb dX4_codeFrom_69 hl (k := 0) rfl (nI_1 _) (by decide) rfl (fun ls hl => ?_)
          refine lv_goto (tgt := 32) hx hb dX4_codeFrom_72 (by decide) ?_
          exact ih32 (k0 + 1) (upN c7 k0 (CD g (sd W0 (2 ^ r0)) k0)) (by first | omega | assumption) (cd_in hfg hW0 hr9 hin c_46 ho7) (cd_ou hW0 hr0 hou c_46 ho7) (by omega) _ _ hP hD hS ls (lv_sub hl [0, 1, 2, 3, 4, 5, 6, 7] rfl)
  exact LP32 ((14 - 0) + 1) 0 cf (by first | omega | assumption) (fun b9 h9 => absurd h9 (Nat.not_lt_zero _)) (fun _ _ => rfl) (Nat.lt_succ_self _) _ _ hP hD hS ls (lv_sub hl [0, 1, 2, 3, 4, 5, 6, 7] rfl)
theorem c_X4_codeFrom_all (l : Launch) (Γ : kG) (sa sc a e : Nat) (g : Nat → Nat) (hfg : FG g) : ∀ (n9 : Nat), ∀ (cf : Nat → Nat) (W0 r0 d0 : Nat), W0 < 16384 → W0.testBit r0 = true → pc W0 ≤ n9 → d0 + pc W0 ≤ 15 → WRi l yX4_codeFrom (wsq yX4_codeFrom cX4_codeFrom 8 (some .int)) (rmL (n9 + 4)) Γ [.ref sa, .ref a, .int (nI W0), .int (nI r0), .int (nI d0)] [(sa, .inr (4, [.ref sc])), (sc, .inl (Γ.2 0, 14, .inl (aN cf))), (a, .inr (1, [.ref e])), (e, .inl (Γ.2 0, 14, .inl (aN g)))] (fun u : (Nat → Nat) => [(sa, .inr (4, [.ref sc])), (sc, .inl (Γ.2 0, 14, .inl (aN u))), (a, .inr (1, [.ref e])), (e, .inl (Γ.2 0, 14, .inl (aN g)))]) (fun (r : Int32) (u : (Nat → Nat)) => r = (nI (CD g W0 r0)) ∧ ∀ x, ((comp g W0 r0).testBit x = false ∨ x = r0) → u x = cf x) := by
  intro n9
  induction n9 with
  | zero =>
    intro cf W0 r0 d0 hW0 hr0 hpn hpd
    have := pc_rm hW0 hr0
    exact absurd hpn (by omega)
  | succ n9 ih =>
    intro cf W0 r0 d0 hW0 hr0 hpn hpd
    rw [show n9 + 1 + 4 = n9 + 5 by omega]
    exact c_X4_codeFrom_s l Γ n9 sa sc cf a e g W0 r0 d0 hfg hW0 hr0 hpn hpd ih
theorem c_X4_codeFrom (l : Launch) (Γ : kG) (sa : Nat) (sc : Nat) (cf : Nat → Nat) (a : Nat) (e : Nat) (g : Nat → Nat) (W0 : Nat) (r0 : Nat) (d0 : Nat) (hfg : FG g) (hW0 : W0 < 16384) (hr0 : W0.testBit r0 = true) (hpd : d0 + pc W0 ≤ 15) : WRi l yX4_codeFrom (wsq yX4_codeFrom cX4_codeFrom 8 (some .int)) (rmL 18) Γ [.ref sa, .ref a, .int (nI W0), .int (nI r0), .int (nI d0)] [(sa, .inr (4, [.ref sc])), (sc, .inl (Γ.2 0, 14, .inl (aN cf))), (a, .inr (1, [.ref e])), (e, .inl (Γ.2 0, 14, .inl (aN g)))] (fun u : (Nat → Nat) => [(sa, .inr (4, [.ref sc])), (sc, .inl (Γ.2 0, 14, .inl (aN u))), (a, .inr (1, [.ref e])), (e, .inl (Γ.2 0, 14, .inl (aN g)))]) (fun (r : Int32) (u : (Nat → Nat)) => r = (nI (CD g W0 r0)) ∧ ∀ x, ((comp g W0 r0).testBit x = false ∨ x = r0) → u x = cf x) := c_X4_codeFrom_all l Γ sa sc a e g hfg 14 cf W0 r0 d0 hW0 hr0 (pc_le _) hpd
set_option maxHeartbeats 8000000 in
set_option maxRecDepth 100000 in
theorem c_X4_classFor (l : Launch) (Γ : kG) (sa : Nat) (sc : Nat) (cf : Nat → Nat) (a : Nat) (e : Nat) (g : Nat → Nat) (W0 : Nat) (hfg : FG g) (hW0 : W0 < 16384) : WRi l yX4_classFor (wsq yX4_classFor cX4_classFor 5 (some .int)) (rmL 19) Γ [.ref sa, .ref a, .int (nI W0)] [(sa, .inr (4, [.ref sc])), (sc, .inl (Γ.2 0, 14, .inl (aN cf))), (a, .inr (1, [.ref e])), (e, .inl (Γ.2 0, 14, .inl (aN g)))] (fun u : (Nat → Nat) => [(sa, .inr (4, [.ref sc])), (sc, .inl (Γ.2 0, 14, .inl (aN u))), (a, .inr (1, [.ref e])), (e, .inl (Γ.2 0, 14, .inl (aN g)))]) (fun (r : Int32) (u : (Nat → Nat)) => r = (nI (mxC g W0 14))) := by
  refine wr_ofi (cc := cX4_classFor) (maxL := 5) (by decide +kernel) (Nat.le_of_ble_eq_true rfl) rfl ?_
  intro p ev R st mi args below meth cd Q A ls C0 hR hret hP hD hS hl
  obtain ⟨hx, hb, hr, hml, hown, hts, hlk, hK, hnm⟩ := C0
  have hown : st.vm.findClass RX4 = some mi.cls := hown
  refine lv_iconst (v := (nI 0)) hx hb dX4_classFor_0 (by decide) ?_
  refine lv_istore_n (lv' := [(3, .int (nI 0)), (0, .ref sa), (1, .ref a), (2, .int (nI W0))]) hx hb dX4_classFor_1 rfl hl (by decide) rfl (fun ls hl => ?_)
  refine lv_iconst (v := (nI 0)) hx hb dX4_classFor_2 (by decide) ?_
  refine lv_istore (lv' := [(4, .int (nI 0)), (3, .int (nI 0)), (0, .ref sa), (1, .ref a), (2, .int (nI W0))]) hx hb dX4_classFor_3 hl (by decide) rfl (fun ls hl => ?_)
  have LP5 : ∀ (fu : Nat) (k0 : Nat) (c8 : Nat → Nat) (hk0 : k0 ≤ 14), (14 - k0) < fu → ∀ (H : Heap) (locs : List Loc), va_P Γ.1 vwCl [(sa, .inr (4, [.ref sc])), (sc, .inl (Γ.2 0, 14, .inl (aN c8))), (a, .inr (1, [.ref e])), (e, .inl (Γ.2 0, 14, .inl (aN g)))] H → va_D A [(sa, .inr (4, [.ref sc])), (sc, .inl (Γ.2 0, 14, .inl (aN c8))), (a, .inr (1, [.ref e])), (e, .inl (Γ.2 0, 14, .inl (aN g)))] → va_S A st.heap H locs → ∀ (ls : Array Slot), lv_has ls 5 [(4, .int (nI k0)), (3, .int (nI (mxC g W0 k0))), (0, .ref sa), (1, .ref a), (2, .int (nI W0))] → W p l ev R st mi args below meth cd H locs 0 0 Q (F0 mi 5 ls []) := by
    intro fu
    induction fu with
    | zero => intro k0 c8 hk0 hfu; exact absurd hfu (Nat.not_lt_zero _)
    | succ fu ih5 =>
      intro k0 c8 hk0 hfu H locs hP hD hS ls hl
      refine lv_iload hx hb dX4_classFor_5 (lv_at hl 0 rfl) ?_
      refine lv_bipush (v := (nI 14)) hx hb dX4_classFor_7 (by decide) ?_
      refine nb_icmp_ge (tgt := 41) hx hb (by first | omega | assumption) (by first | omega | assumption) dX4_classFor_9 (by decide) (fun c_9 => ?_) (fun c_9 => ?_)
      · skip
        have he9 : 14 = k0 := by omega
        subst he9
        refine lv_iload_n hx hb dX4_classFor_41 rfl (lv_at hl 1 rfl) ?_
        exact hret c8 hP hS (rfl) dX4_classFor_42
      · skip
        refine lv_iload_n hx hb dX4_classFor_12 rfl (lv_at hl 4 rfl) ?_
        refine lv_iload hx hb dX4_classFor_13 (lv_at hl 0 rfl) ?_
        refine ro_fin (va_runSN (As := [.int (nI W0), .int (nI k0)]) (rest := []) ⟨hx, hb, hml, hown, hts⟩ (c_X6_has l Γ _ W0 k0 (by first | omega | assumption) (by first | omega | assumption)) (kcwSN 2 hts kv_X6_has (hK.nw _ (nwL_at 66 rfl)) (rm_le hR (Nat.le_of_ble_eq_true rfl) (Nat.le_of_ble_eq_true rfl))) (kPc_S hK) rfl rfl hl.1 rfl (lv_room (Nat.le_of_ble_eq_true rfl)) dX4_classFor_15 ⟨Nat.zero_le _, Nat.zero_le _⟩) hS (fun locs hS => ?_)
        refine nb_ifb_eq (tgt := 35) hx hb dX4_classFor_18 (by decide) (fun c_18 => ?_) (fun c_18 => ?_)
        · skip
          have hl : lv_has ls 5 [(4, .int (nI k0)), (3, .int (nI (mxC g W0 (k0 + 1)))), (0, .ref sa), (1, .ref a), (2, .int (nI W0))] := lv_cast hl (by rw [mxC, if_f c_18])
          refine lv_iinc (v := (nI (k0 + 1))) (lv' := [(4, .int (nI (k0 + 1))), (3, .int (nI (mxC g W0 (k0 + 1)))), (0, .ref sa), (1, .ref a), (2, .int (nI W0))]) hx hb dX4_classFor_35 hl (k := 0) rfl (nI_1 _) (by decide) rfl (fun ls hl => ?_)
          refine lv_goto (tgt := 5) hx hb dX4_classFor_38 (by decide) ?_
          exact ih5 (k0 + 1) c8 (by first | omega | assumption) (by omega) _ _ hP hD hS ls (lv_sub hl [0, 1, 2, 3, 4] rfl)
        · skip
          refine lv_iload_n hx hb dX4_classFor_21 rfl (lv_at hl 1 rfl) ?_
          refine lv_aload_n hx hb dX4_classFor_22 rfl (lv_at hl 2 rfl) ?_
          refine lv_aload_n hx hb dX4_classFor_23 rfl (lv_at hl 3 rfl) ?_
          refine lv_iload_n hx hb dX4_classFor_24 rfl (lv_at hl 4 rfl) ?_
          refine lv_iload hx hb dX4_classFor_25 (lv_at hl 0 rfl) ?_
          refine lv_iconst (v := (nI 0)) hx hb dX4_classFor_27 (by decide) ?_
          refine wr_fini (va_runV (As := [.ref a, .int (nI W0), .int (nI k0), .int (nI 0)]) (rest := [.int (nI (mxC g W0 k0))]) ⟨hx, hb, hml, hown, hts⟩ (c_X4_codeFrom l Γ sa sc c8 a e g W0 k0 0 (by first | omega | assumption) (by first | omega | assumption) (c_18) (by have h9 := pc_le W0; omega)) (kcwV 4 hts kv_X4_codeFrom mw_178 (rm_le hR (Nat.le_of_ble_eq_true rfl) (Nat.le_of_ble_eq_true rfl))) (kPw_V hK (va_recv hK.1 hP (ci := 4) (q0 := 0) rfl rfl) (hP.sub (ws' := [(sa, .inr (4, [.ref sc])), (sc, .inl (Γ.2 0, 14, .inl (aN c8))), (a, .inr (1, [.ref e])), (e, .inl (Γ.2 0, 14, .inl (aN g)))]) [0, 1, 2, 3] rfl) (hD.sub (ws' := [(sa, .inr (4, [.ref sc])), (sc, .inl (Γ.2 0, 14, .inl (aN c8))), (a, .inr (1, [.ref e])), (e, .inl (Γ.2 0, 14, .inl (aN g)))]) [0, 1, 2, 3] (by decide) rfl)) rfl rfl hl.1 rfl (lv_room (Nat.le_of_ble_eq_true rfl)) dX4_classFor_28 ⟨Nat.zero_le _, Nat.zero_le _⟩) hP hD hS [0, 1, 2, 3] rfl (fun _ => rfl) (fun r c7 H locs hw hP hD hS => ?_)
          obtain ⟨rfl, ho7⟩ := hw
          have hP : va_P Γ.1 vwCl [(sa, .inr (4, [.ref sc])), (sc, .inl (Γ.2 0, 14, .inl (aN c7))), (a, .inr (1, [.ref e])), (e, .inl (Γ.2 0, 14, .inl (aN g)))] H := hP
          have hD : va_D A [(sa, .inr (4, [.ref sc])), (sc, .inl (Γ.2 0, 14, .inl (aN c7))), (a, .inr (1, [.ref e])), (e, .inl (Γ.2 0, 14, .inl (aN g)))] := hD
          refine va_mmax hx hb (hml.trans hl.1.symm) hown (hts _ mw_185) (hts _ mw_103) (hts _ mw_104) (hts _ mw_105) (by subst hR; exact Nat.le_of_ble_eq_true rfl) (by subst hR; exact Nat.le_of_ble_eq_true rfl) (Nat.zero_le _) (Nat.zero_le _) dX4_classFor_31 ?_
          refine tp_i (y := (nI (max (mxC g W0 k0) (CD g W0 k0)))) (nmax (Nat.lt_trans (mxC_lt hfg hW0 k0) (by decide)) (Nat.lt_trans (CD_lt hfg hW0 c_18) (by decide))) ?_
          refine tp_i (y := (nI (mxC g W0 (k0 + 1)))) (by rw [mxC, if_t c_18]) ?_
          refine lv_istore_n (lv' := [(3, .int (nI (mxC g W0 (k0 + 1)))), (4, .int (nI k0)), (0, .ref sa), (1, .ref a), (2, .int (nI W0))]) hx hb dX4_classFor_34 rfl hl (by decide) rfl (fun ls hl => ?_)
          refine lv_iinc (v := (nI (k0 + 1))) (lv' := [(4, .int (nI (k0 + 1))), (3, .int (nI (mxC g W0 (k0 + 1)))), (0, .ref sa), (1, .ref a), (2, .int (nI W0))]) hx hb dX4_classFor_35 hl (k := 1) rfl (nI_1 _) (by decide) rfl (fun ls hl => ?_)
          refine lv_goto (tgt := 5) hx hb dX4_classFor_38 (by decide) ?_
          exact ih5 (k0 + 1) c7 (by first | omega | assumption) (by omega) _ _ hP hD hS ls (lv_sub hl [0, 1, 2, 3, 4] rfl)
  exact LP5 ((14 - 0) + 1) 0 cf (by first | omega | assumption) (Nat.lt_succ_self _) _ _ hP hD hS ls (lv_sub hl [0, 1, 2, 3, 4] rfl)
