set_option maxHeartbeats 8000000 in
set_option maxRecDepth 100000 in
theorem c_X7_isEdge (l : Launch) (Γ : kG) (H0 : Heap) (ma : Nat) (ms : Nat) (sn0 : Nat) (mk : Nat) (tw0 : Nat) (mt : Nat) (ty0 : Nat) (mb : Nat) (il0 : Bool) (me : Nat) (mr : Nat) (my0 : Nat) (mq : Nat) (mp : Nat) (mw : Nat) (mc : Nat) (ss : Nat → Nat) (i0 : Nat) (j0 : Nat) (hP : va_P Γ.1 vwCl [(ma, .inr (7, [.ref ms, .int (nI sn0), .ref mk, .int (nI tw0), .ref mt, .int (nI ty0), .ref mb, .int (bI il0), .ref me, .ref mr, .int (nI my0), .ref mq, .ref mp, .ref mw, .ref mc])), (ms, .inl (Γ.2 0, 162, .inl (aN ss)))] H0) (h1 : ss 1 < 16384) (hgs : ∀ i, i < 14 → gS ss i < 16384) (hi0 : i0 < 14) (hj0 : j0 < 14) : RO l yX7_isEdge (wsq yX7_isEdge cX7_isEdge 3 (some .boolean)) (rmL 2) Γ H0 [.ref ma, .int (nI i0), .int (nI j0)] (bI ((ss 1).testBit i0 && (ss 1).testBit j0 && (gS ss i0).testBit j0)) := by
  refine ro_ofz (cc := cX7_isEdge) (maxL := 3) (by decide +kernel) (Nat.le_of_ble_eq_true rfl) rfl ?_
  intro p ev R st mi args below meth cd Q ls C0 hR hret hh hS hl
  obtain ⟨hx, hb, hr, hml, hown, hts, hlk, hK, hnm⟩ := C0
  have hown : st.vm.findClass RX7 = some mi.cls := hown
  refine lv_aload_n hx hb dX7_isEdge_0 rfl (lv_at hl 0 rfl) ?_
  refine lv_iload_n hx hb dX7_isEdge_1 rfl (lv_at hl 1 rfl) ?_
  refine ro_fin (va_runV (As := [.int (nI i0)]) (rest := []) ⟨hx, hb, hml, hown, hts⟩ (c_X7_isThere l Γ H0 ma ms sn0 mk tw0 mt ty0 mb il0 me mr my0 mq mp mw mc ss i0 (hP.sub (ws' := [(ma, .inr (7, [.ref ms, .int (nI sn0), .ref mk, .int (nI tw0), .ref mt, .int (nI ty0), .ref mb, .int (bI il0), .ref me, .ref mr, .int (nI my0), .ref mq, .ref mp, .ref mw, .ref mc])), (ms, .inl (Γ.2 0, 162, .inl (aN ss)))]) [0, 1] rfl) (by first | omega | assumption) (by first | omega | assumption)) (kcwV 1 hts kv_X7_isThere mw_470 (rm_le hR (Nat.le_of_ble_eq_true rfl) (Nat.le_of_ble_eq_true rfl))) (kPc_V hK (va_recv hK.1 hP (ci := 7) (q0 := 0) rfl rfl)) rfl rfl hl.1 rfl (lv_room (Nat.le_of_ble_eq_true rfl)) dX7_isEdge_2 ⟨Nat.zero_le _, Nat.zero_le _⟩) hS (fun locs hS => ?_)
  refine nb_ifb_eq (tgt := 36) hx hb dX7_isEdge_5 (by decide) (fun c_5 => ?_) (fun c_5 => ?_)
  · skip
    refine lv_iconst (v := (nI 0)) hx hb dX7_isEdge_36 (by decide) ?_
    exact hret hS (by first | (rw [c_5, c_13, hb9]; rfl) | (rw [c_5, c_13]; rfl) | (rw [c_5]; rfl)) dX7_isEdge_37
  · skip
    refine lv_aload_n hx hb dX7_isEdge_8 rfl (lv_at hl 0 rfl) ?_
    refine lv_iload_n hx hb dX7_isEdge_9 rfl (lv_at hl 2 rfl) ?_
    refine ro_fin (va_runV (As := [.int (nI j0)]) (rest := []) ⟨hx, hb, hml, hown, hts⟩ (c_X7_isThere l Γ H0 ma ms sn0 mk tw0 mt ty0 mb il0 me mr my0 mq mp mw mc ss j0 (hP.sub (ws' := [(ma, .inr (7, [.ref ms, .int (nI sn0), .ref mk, .int (nI tw0), .ref mt, .int (nI ty0), .ref mb, .int (bI il0), .ref me, .ref mr, .int (nI my0), .ref mq, .ref mp, .ref mw, .ref mc])), (ms, .inl (Γ.2 0, 162, .inl (aN ss)))]) [0, 1] rfl) (by first | omega | assumption) (by first | omega | assumption)) (kcwV 1 hts kv_X7_isThere mw_470 (rm_le hR (Nat.le_of_ble_eq_true rfl) (Nat.le_of_ble_eq_true rfl))) (kPc_V hK (va_recv hK.1 hP (ci := 7) (q0 := 0) rfl rfl)) rfl rfl hl.1 rfl (lv_room (Nat.le_of_ble_eq_true rfl)) dX7_isEdge_10 ⟨Nat.zero_le _, Nat.zero_le _⟩) hS (fun locs hS => ?_)
    refine nb_ifb_eq (tgt := 36) hx hb dX7_isEdge_13 (by decide) (fun c_13 => ?_) (fun c_13 => ?_)
    · skip
      refine lv_iconst (v := (nI 0)) hx hb dX7_isEdge_36 (by decide) ?_
      exact hret hS (by first | (rw [c_5, c_13, hb9]; rfl) | (rw [c_5, c_13]; rfl) | (rw [c_5]; rfl)) dX7_isEdge_37
    · skip
      refine lv_aload_n hx hb dX7_isEdge_16 rfl (lv_at hl 0 rfl) ?_
      refine va_get (D := Γ.1) (ci := 7) (v := .ref ms) (C := RX7) (T := TX7) (N := 15) hx hb hts hinX7 hown hK.1 hP 0 rfl rfl 0 (by decide) (hts _ mw_400) (fun _ h9 => h9) rfl dX7_isEdge_17 ?_
      refine lv_iconst (v := (nI 4)) hx hb dX7_isEdge_20 (by decide) ?_
      refine lv_iload_n hx hb dX7_isEdge_21 rfl (lv_at hl 1 rfl) ?_
      refine lv_iadd hx hb dX7_isEdge_22 ?_
      refine tp_i (y := (nI (4 + i0))) (nI_add _ _) ?_
      refine iald_N hx hb hK.1 hP 1 0 rfl rfl (by omega) (by first | decide | assumption) dX7_isEdge_23 ?_
      refine lv_iload_n hx hb dX7_isEdge_24 rfl (lv_at hl 2 rfl) ?_
      refine lv_ishr hx hb dX7_isEdge_25 ?_
      refine tp_i (y := (nI ((ss (4 + i0)) >>> j0))) (ni_shr (by omega) (Nat.lt_trans (hgs _ hi0) (by decide))) ?_
      refine lv_iconst (v := (nI 1)) hx hb dX7_isEdge_26 (by decide) ?_
      refine lv_iand hx hb dX7_isEdge_27 ?_
      refine tp_i (y := (nI ((Nat.testBit (ss (4 + i0)) j0).toNat))) (ni_bit _ _) ?_
      refine lv_iconst (v := (nI 1)) hx hb dX7_isEdge_28 (by decide) ?_
      refine nb_icmp_ne (tgt := 36) hx hb (tn_lt _) (by omega) dX7_isEdge_29 (by decide) (fun c_29 => ?_) (fun c_29 => ?_)
      · skip
        have hb9 : (gS ss i0).testBit j0 = false := ts_f (fun q9 => c_29 (tn_1.mpr q9))
        refine lv_iconst (v := (nI 0)) hx hb dX7_isEdge_36 (by decide) ?_
        exact hret hS (by first | (rw [c_5, c_13, hb9]; rfl) | (rw [c_5, c_13]; rfl) | (rw [c_5]; rfl)) dX7_isEdge_37
      · skip
        have hb9 : (gS ss i0).testBit j0 = true := tn_1.mp c_29
        refine lv_iconst (v := (nI 1)) hx hb dX7_isEdge_32 (by decide) ?_
        refine lv_goto (tgt := 37) hx hb dX7_isEdge_33 (by decide) ?_
        exact hret hS (by first | (rw [c_5, c_13, hb9]; rfl) | (rw [c_5, c_13]; rfl) | (rw [c_5]; rfl)) dX7_isEdge_37
set_option maxHeartbeats 8000000 in
set_option maxRecDepth 100000 in
theorem c_X7_reached (l : Launch) (Γ : kG) (H0 : Heap) (ma : Nat) (ms : Nat) (sn0 : Nat) (mk : Nat) (tw0 : Nat) (mt : Nat) (ty0 : Nat) (mb : Nat) (il0 : Bool) (me : Nat) (mr : Nat) (my0 : Nat) (mq : Nat) (mp : Nat) (mw : Nat) (mc : Nat) (ss : Nat → Nat) (r0 : Nat) (W0 : Nat) (hP : va_P Γ.1 vwCl [(ma, .inr (7, [.ref ms, .int (nI sn0), .ref mk, .int (nI tw0), .ref mt, .int (nI ty0), .ref mb, .int (bI il0), .ref me, .ref mr, .int (nI my0), .ref mq, .ref mp, .ref mw, .ref mc])), (ms, .inl (Γ.2 0, 162, .inl (aN ss)))] H0) (h0 : ss 0 ≤ 14) (hr0 : r0 < ss 0) (hW0 : W0 < 2 ^ ss 0) : RO l yX7_reached (wsq yX7_reached cX7_reached 6 (some .int)) (rmL 1) Γ H0 [.ref ma, .int (nI r0), .int (nI W0)] (nI (comp (gS ss) W0 r0)) := by
  refine ro_ofi (cc := cX7_reached) (maxL := 6) (by decide +kernel) (Nat.le_of_ble_eq_true rfl) rfl ?_
  intro p ev R st mi args below meth cd Q ls C0 hR hret hh hS hl
  obtain ⟨hx, hb, hr, hml, hown, hts, hlk, hK, hnm⟩ := C0
  have hown : st.vm.findClass RX7 = some mi.cls := hown
  refine lv_iconst (v := (nI 1)) hx hb dX7_reached_0 (by decide) ?_
  refine lv_iload_n hx hb dX7_reached_1 rfl (lv_at hl 1 rfl) ?_
  refine lv_ishl hx hb dX7_reached_2 ?_
  refine tp_i (y := (nI (2 ^ r0))) (ni_shl1 (by omega)) ?_
  refine lv_istore_n (lv' := [(3, .int (nI (2 ^ r0))), (0, .ref ma), (1, .int (nI r0)), (2, .int (nI W0))]) hx hb dX7_reached_3 rfl hl (by decide) rfl (fun ls hl => ?_)
  refine lv_iconst (v := (nI 0)) hx hb dX7_reached_4 (by decide) ?_
  refine lv_istore (lv' := [(4, .int (nI 0)), (3, .int (nI (2 ^ r0))), (0, .ref ma), (1, .int (nI r0)), (2, .int (nI W0))]) hx hb dX7_reached_5 hl (by decide) rfl (fun ls hl => ?_)
  have LP7 : ∀ (fu : Nat) (X0 : Nat) (B0 : Nat) (hm : MInv (gS ss) W0 r0 (ss 0) X0 B0), (15 - pc B0) < fu → ∀ (locs : List Loc), va_S (fun _ => False) H0 H0 locs → ∀ (ls : Array Slot), lv_has ls 6 [(4, .int (nI B0)), (3, .int (nI X0)), (0, .ref ma), (1, .int (nI r0)), (2, .int (nI W0))] → W p l ev R st mi args below meth cd H0 locs 0 0 Q (F0 mi 7 ls []) := by
    intro fu
    induction fu with
    | zero => intro X0 B0 hm hfu; exact absurd hfu (Nat.not_lt_zero _)
    | succ fu ih7 =>
      intro X0 B0 hm hfu locs hS ls hl
      refine lv_iload_n hx hb dX7_reached_7 rfl (lv_at hl 1 rfl) ?_
      refine lv_iload hx hb dX7_reached_8 (lv_at hl 0 rfl) ?_
      refine nb_icmp_eq (tgt := 68) hx hb (Nat.lt_trans (MInv_lt h0 hm) (by decide)) (Nat.lt_trans (MInv_ltB h0 hm) (by decide)) dX7_reached_10 (by decide) (fun c_10 => ?_) (fun c_10 => ?_)
      · skip
        subst c_10
        refine lv_iload_n hx hb dX7_reached_68 rfl (lv_at hl 1 rfl) ?_
        exact hret hS (by rw [MInv_x h0 hm]) dX7_reached_69
      · skip
        refine lv_iload_n hx hb dX7_reached_13 rfl (lv_at hl 1 rfl) ?_
        refine lv_istore (lv' := [(4, .int (nI X0)), (3, .int (nI X0)), (0, .ref ma), (1, .int (nI r0)), (2, .int (nI W0))]) hx hb dX7_reached_14 hl (by decide) rfl (fun ls hl => ?_)
        refine lv_iconst (v := (nI 0)) hx hb dX7_reached_16 (by decide) ?_
        refine lv_istore (lv' := [(5, .int (nI 0)), (4, .int (nI X0)), (3, .int (nI X0)), (0, .ref ma), (1, .int (nI r0)), (2, .int (nI W0))]) hx hb dX7_reached_17 hl (by decide) rfl (fun ls hl => ?_)
        have LP19 : ∀ (fu : Nat) (k0 : Nat) (hk0 : k0 ≤ ss 0), (ss 0 - k0) < fu → ∀ (locs : List Loc), va_S (fun _ => False) H0 H0 locs → ∀ (ls : Array Slot), lv_has ls 6 [(5, .int (nI k0)), (4, .int (nI X0)), (3, .int (nI (stpF (gS ss) W0 X0 k0))), (0, .ref ma), (1, .int (nI r0)), (2, .int (nI W0))] → W p l ev R st mi args below meth cd H0 locs 0 0 Q (F0 mi 19 ls []) := by
          intro fu
          induction fu with
          | zero => intro k0 hk0 hfu; exact absurd hfu (Nat.not_lt_zero _)
          | succ fu ih19 =>
            intro k0 hk0 hfu locs hS ls hl
            refine lv_iload hx hb dX7_reached_19 (lv_at hl 0 rfl) ?_
            refine lv_aload_n hx hb dX7_reached_21 rfl (lv_at hl 3 rfl) ?_
            refine va_get (D := Γ.1) (ci := 7) (v := .ref ms) (C := RX7) (T := TX7) (N := 15) hx hb hts hinX7 hown hK.1 hP 0 rfl rfl 0 (by decide) (hts _ mw_400) (fun _ h9 => h9) rfl dX7_reached_22 ?_
            refine lv_iconst (v := (nI 0)) hx hb dX7_reached_25 (by decide) ?_
            refine iald_N hx hb hK.1 hP 1 0 rfl rfl (by omega) (by first | decide | assumption) dX7_reached_26 ?_
            refine nb_icmp_ge (tgt := 65) hx hb (by first | omega | assumption) (by first | omega | assumption) dX7_reached_27 (by decide) (fun c_27 => ?_) (fun c_27 => ?_)
            · skip
              obtain rfl : k0 = ss 0 := by omega
              refine lv_goto (tgt := 7) hx hb dX7_reached_65 (by decide) ?_
              exact ih7 (stpF (gS ss) W0 X0 (ss 0)) X0 (MInv_s hW0 hm) (by have h9 := MInv_pc h0 hm c_10; have h8 := pc_le X0; omega) _ hS ls (lv_sub hl [1, 2, 3, 4, 5] rfl)
            · skip
              refine lv_iload_n hx hb dX7_reached_30 rfl (lv_at hl 2 rfl) ?_
              refine lv_iload hx hb dX7_reached_31 (lv_at hl 1 rfl) ?_
              refine lv_iload hx hb dX7_reached_33 (lv_at hl 0 rfl) ?_
              refine lv_ishr hx hb dX7_reached_35 ?_
              refine tp_i (y := (nI (X0 >>> k0))) (ni_shr (by omega) (Nat.lt_trans (MInv_lt h0 hm) (by decide))) ?_
              refine lv_iconst (v := (nI 1)) hx hb dX7_reached_36 (by decide) ?_
              refine lv_iand hx hb dX7_reached_37 ?_
              refine tp_i (y := (nI ((Nat.testBit X0 k0).toNat))) (ni_bit _ _) ?_
              refine lv_iconst (v := (nI 1)) hx hb dX7_reached_38 (by decide) ?_
              refine nb_icmp_ne (tgt := 56) hx hb (tn_lt _) (by omega) dX7_reached_39 (by decide) (fun c_39 => ?_) (fun c_39 => ?_)
              · skip
                have hb9 : X0.testBit k0 = false := ts_f (fun q9 => c_39 (tn_1.mpr q9))
                refine lv_iconst (v := (nI 0)) hx hb dX7_reached_56 (by decide) ?_
                refine lv_ior hx hb dX7_reached_57 ?_
                refine tp_i (y := (nI ((stpF (gS ss) W0 X0 k0) ||| 0))) (ni_or _ _) ?_
                refine tp_i (y := (nI (stpF (gS ss) W0 X0 (k0 + 1)))) (by first | (rw [stpF, if_t hb9]; rfl) | (rw [stpF, if_f hb9])) ?_
                refine lv_istore_n (lv' := [(3, .int (nI (stpF (gS ss) W0 X0 (k0 + 1)))), (5, .int (nI k0)), (4, .int (nI X0)), (0, .ref ma), (1, .int (nI r0)), (2, .int (nI W0))]) hx hb dX7_reached_58 rfl hl (by decide) rfl (fun ls hl => ?_)
                refine lv_iinc (v := (nI (k0 + 1))) (lv' := [(5, .int (nI (k0 + 1))), (3, .int (nI (stpF (gS ss) W0 X0 (k0 + 1)))), (4, .int (nI X0)), (0, .ref ma), (1, .int (nI r0)), (2, .int (nI W0))]) hx hb dX7_reached_59 hl (k := 1) rfl (nI_1 _) (by decide) rfl (fun ls hl => ?_)
                refine lv_goto (tgt := 19) hx hb dX7_reached_62 (by decide) ?_
                exact ih19 (k0 + 1) (by first | omega | assumption) (by omega) _ hS ls (lv_sub hl [0, 2, 1, 3, 4, 5] rfl)
              · skip
                have hb9 : X0.testBit k0 = true := tn_1.mp c_39
                refine lv_aload_n hx hb dX7_reached_42 rfl (lv_at hl 3 rfl) ?_
                refine va_get (D := Γ.1) (ci := 7) (v := .ref ms) (C := RX7) (T := TX7) (N := 15) hx hb hts hinX7 hown hK.1 hP 0 rfl rfl 0 (by decide) (hts _ mw_400) (fun _ h9 => h9) rfl dX7_reached_43 ?_
                refine lv_iconst (v := (nI 4)) hx hb dX7_reached_46 (by decide) ?_
                refine lv_iload hx hb dX7_reached_47 (lv_at hl 0 rfl) ?_
                refine lv_iadd hx hb dX7_reached_49 ?_
                refine tp_i (y := (nI (4 + k0))) (nI_add _ _) ?_
                refine iald_N hx hb hK.1 hP 1 0 rfl rfl (by omega) (by first | decide | assumption) dX7_reached_50 ?_
                refine lv_iload_n hx hb dX7_reached_51 rfl (lv_at hl 5 rfl) ?_
                refine lv_iand hx hb dX7_reached_52 ?_
                refine tp_i (y := (nI ((ss (4 + k0)) &&& W0))) (ni_and _ _) ?_
                refine lv_goto (tgt := 57) hx hb dX7_reached_53 (by decide) ?_
                refine lv_ior hx hb dX7_reached_57 ?_
                refine tp_i (y := (nI ((stpF (gS ss) W0 X0 k0) ||| ((ss (4 + k0)) &&& W0)))) (ni_or _ _) ?_
                refine tp_i (y := (nI (stpF (gS ss) W0 X0 (k0 + 1)))) (by first | (rw [stpF, if_t hb9]; rfl) | (rw [stpF, if_f hb9])) ?_
                refine lv_istore_n (lv' := [(3, .int (nI (stpF (gS ss) W0 X0 (k0 + 1)))), (5, .int (nI k0)), (4, .int (nI X0)), (0, .ref ma), (1, .int (nI r0)), (2, .int (nI W0))]) hx hb dX7_reached_58 rfl hl (by decide) rfl (fun ls hl => ?_)
                refine lv_iinc (v := (nI (k0 + 1))) (lv' := [(5, .int (nI (k0 + 1))), (3, .int (nI (stpF (gS ss) W0 X0 (k0 + 1)))), (4, .int (nI X0)), (0, .ref ma), (1, .int (nI r0)), (2, .int (nI W0))]) hx hb dX7_reached_59 hl (k := 1) rfl (nI_1 _) (by decide) rfl (fun ls hl => ?_)
                refine lv_goto (tgt := 19) hx hb dX7_reached_62 (by decide) ?_
                exact ih19 (k0 + 1) (by first | omega | assumption) (by omega) _ hS ls (lv_sub hl [0, 2, 1, 3, 4, 5] rfl)
        exact LP19 ((ss 0 - 0) + 1) 0 (by first | omega | assumption) (Nat.lt_succ_self _) _ hS ls (lv_sub hl [0, 1, 2, 3, 4, 5] rfl)
  exact LP7 ((15 - pc 0) + 1) (2 ^ r0) 0 (MInv_0 hr0) (Nat.lt_succ_self _) _ hS ls (lv_sub hl [0, 1, 2, 3, 4] rfl)
