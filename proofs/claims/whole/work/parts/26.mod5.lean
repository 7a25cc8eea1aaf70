set_option maxHeartbeats 8000000 in
set_option maxRecDepth 100000 in
theorem c_X7_copies (l : Launch) (Γ : kG) (ma : Nat) (ms : Nat) (sn0 : Nat) (mk : Nat) (tw0 : Nat) (mt : Nat) (ty0 : Nat) (mb : Nat) (il0 : Bool) (me : Nat) (mr : Nat) (my0 : Nat) (mq : Nat) (mp : Nat) (mw : Nat) (mc : Nat) (ss : Nat → Nat) (fr0 : Nat) (to0 : Nat) (hf0 : fr0 ≤ 8) (ht0 : to0 ≤ 8) (hne : fr0 ≠ to0) : WRv l yX7_copies (wsq yX7_copies cX7_copies 4 none) (rmL 1) Γ [.ref ma, .int (nI fr0), .int (nI to0)] [(ma, .inr (7, [.ref ms, .int (nI sn0), .ref mk, .int (nI tw0), .ref mt, .int (nI ty0), .ref mb, .int (bI il0), .ref me, .ref mr, .int (nI my0), .ref mq, .ref mp, .ref mw, .ref mc])), (ms, .inl (Γ.2 0, 162, .inl (aN ss)))] (fun u : Unit => [(ma, .inr (7, [.ref ms, .int (nI sn0), .ref mk, .int (nI tw0), .ref mt, .int (nI ty0), .ref mb, .int (bI false), .ref me, .ref mr, .int (nI my0), .ref mq, .ref mp, .ref mw, .ref mc])), (ms, .inl (Γ.2 0, 162, .inl (aN (cpB ss fr0 to0 18))))]) (fun u : Unit => True) := by
  refine wr_ofv (cc := cX7_copies) (maxL := 4) (by decide +kernel) (Nat.le_of_ble_eq_true rfl) rfl ?_
  intro p ev R st mi args below meth cd Q A ls C0 hR hret hP hD hS hl
  obtain ⟨hx, hb, hr, hml, hown, hts, hlk, hK, hnm⟩ := C0
  have hown : st.vm.findClass RX7 = some mi.cls := hown
  refine lv_iconst (v := (nI 0)) hx hb dX7_copies_0 (by decide) ?_
  refine lv_istore_n (lv' := [(3, .int (nI 0)), (0, .ref ma), (1, .int (nI fr0)), (2, .int (nI to0))]) hx hb dX7_copies_1 rfl hl (by decide) rfl (fun ls hl => ?_)
  have LP2 : ∀ (fu : Nat) (k0 : Nat) (hk0 : k0 ≤ 18), (18 - k0) < fu → ∀ (H : Heap) (locs : List Loc), va_P Γ.1 vwCl [(ma, .inr (7, [.ref ms, .int (nI sn0), .ref mk, .int (nI tw0), .ref mt, .int (nI ty0), .ref mb, .int (bI il0), .ref me, .ref mr, .int (nI my0), .ref mq, .ref mp, .ref mw, .ref mc])), (ms, .inl (Γ.2 0, 162, .inl (aN (cpB ss fr0 to0 k0))))] H → va_D A [(ma, .inr (7, [.ref ms, .int (nI sn0), .ref mk, .int (nI tw0), .ref mt, .int (nI ty0), .ref mb, .int (bI il0), .ref me, .ref mr, .int (nI my0), .ref mq, .ref mp, .ref mw, .ref mc])), (ms, .inl (Γ.2 0, 162, .inl (aN (cpB ss fr0 to0 k0))))] → va_S A st.heap H locs → ∀ (ls : Array Slot), lv_has ls 4 [(3, .int (nI k0)), (0, .ref ma), (1, .int (nI fr0)), (2, .int (nI to0))] → W p l ev R st mi args below meth cd H locs 0 0 Q (F0 mi 2 ls []) := by
    intro fu
    induction fu with
    | zero => intro k0 hk0 hfu; exact absurd hfu (Nat.not_lt_zero _)
    | succ fu ih2 =>
      intro k0 hk0 hfu H locs hP hD hS ls hl
      refine lv_iload_n hx hb dX7_copies_2 rfl (lv_at hl 0 rfl) ?_
      refine lv_bipush (v := (nI 18)) hx hb dX7_copies_3 (by decide) ?_
      refine nb_icmp_ge (tgt := 36) hx hb (by first | omega | assumption) (by first | omega | assumption) dX7_copies_5 (by decide) (fun c_5 => ?_) (fun c_5 => ?_)
      · skip
        obtain rfl : k0 = 18 := by omega
        refine lv_aload_n hx hb dX7_copies_36 rfl (lv_at hl 1 rfl) ?_
        refine lv_iconst (v := (nI 0)) hx hb dX7_copies_37 (by decide) ?_
        refine tp_i (y := (bI false)) (rfl) ?_
        refine va_put (D := Γ.1) (ci := 7) (v := .int (bI false)) (ty := .boolean) (C := RX7) (T := TX7) (N := 15) hx hb hts hinX7 tyX7 tyX7_ok nmX7 hown hK.1 hP hD hS 0 rfl rfl 7 (by decide) (hts _ mw_419) (fun _ h9 => h9) rfl (by decide +kernel) (bI_nar _) (bI_fit _) (Nat.le_of_ble_eq_true rfl) dX7_copies_38 (fun H locs hP hD hS => ?_)
        have hP : va_P Γ.1 vwCl [(ma, .inr (7, [.ref ms, .int (nI sn0), .ref mk, .int (nI tw0), .ref mt, .int (nI ty0), .ref mb, .int (bI false), .ref me, .ref mr, .int (nI my0), .ref mq, .ref mp, .ref mw, .ref mc])), (ms, .inl (Γ.2 0, 162, .inl (aN (cpB ss fr0 to0 18))))] H := hP
        have hD : va_D A [(ma, .inr (7, [.ref ms, .int (nI sn0), .ref mk, .int (nI tw0), .ref mt, .int (nI ty0), .ref mb, .int (bI false), .ref me, .ref mr, .int (nI my0), .ref mq, .ref mp, .ref mw, .ref mc])), (ms, .inl (Γ.2 0, 162, .inl (aN (cpB ss fr0 to0 18))))] := hD
        exact hret () hP hS (trivial) dX7_copies_41
      · skip
        refine lv_aload_n hx hb dX7_copies_8 rfl (lv_at hl 1 rfl) ?_
        refine va_get (D := Γ.1) (ci := 7) (v := .ref ms) (C := RX7) (T := TX7) (N := 15) hx hb hts hinX7 hown hK.1 hP 0 rfl rfl 0 (by decide) (hts _ mw_400) (fun _ h9 => h9) rfl dX7_copies_9 ?_
        refine lv_bipush (v := (nI 18)) hx hb dX7_copies_12 (by decide) ?_
        refine lv_iload_n hx hb dX7_copies_14 rfl (lv_at hl 3 rfl) ?_
        refine lv_imul hx hb dX7_copies_15 ?_
        refine tp_i (y := (nI (18 * to0))) (pk_mul _ _) ?_
        refine lv_iload_n hx hb dX7_copies_16 rfl (lv_at hl 0 rfl) ?_
        refine lv_iadd hx hb dX7_copies_17 ?_
        refine tp_i (y := (nI ((18 * to0) + k0))) (nI_add _ _) ?_
        refine lv_aload_n hx hb dX7_copies_18 rfl (lv_at hl 1 rfl) ?_
        refine va_get (D := Γ.1) (ci := 7) (v := .ref ms) (C := RX7) (T := TX7) (N := 15) hx hb hts hinX7 hown hK.1 hP 0 rfl rfl 0 (by decide) (hts _ mw_400) (fun _ h9 => h9) rfl dX7_copies_19 ?_
        refine lv_bipush (v := (nI 18)) hx hb dX7_copies_22 (by decide) ?_
        refine lv_iload_n hx hb dX7_copies_24 rfl (lv_at hl 2 rfl) ?_
        refine lv_imul hx hb dX7_copies_25 ?_
        refine tp_i (y := (nI (18 * fr0))) (pk_mul _ _) ?_
        refine lv_iload_n hx hb dX7_copies_26 rfl (lv_at hl 0 rfl) ?_
        refine lv_iadd hx hb dX7_copies_27 ?_
        refine tp_i (y := (nI ((18 * fr0) + k0))) (nI_add _ _) ?_
        refine iald_N hx hb hK.1 hP 1 0 rfl rfl (by omega) (by first | decide | assumption) dX7_copies_28 ?_
        refine tp_i (y := (nI (ss ((18 * fr0) + k0)))) (by rw [cpB_o hne c_5]) ?_
        refine iast_N hx hb hK.1 hP hD hS 1 0 rfl rfl (by omega) (by first | decide | assumption) dX7_copies_29 (fun H locs hP hD hS => ?_)
        have hP : va_P Γ.1 vwCl [(ma, .inr (7, [.ref ms, .int (nI sn0), .ref mk, .int (nI tw0), .ref mt, .int (nI ty0), .ref mb, .int (bI il0), .ref me, .ref mr, .int (nI my0), .ref mq, .ref mp, .ref mw, .ref mc])), (ms, .inl (Γ.2 0, 162, .inl (aN (upN (cpB ss fr0 to0 k0) ((18 * to0) + k0) (ss ((18 * fr0) + k0))))))] H := hP
        have hD : va_D A [(ma, .inr (7, [.ref ms, .int (nI sn0), .ref mk, .int (nI tw0), .ref mt, .int (nI ty0), .ref mb, .int (bI il0), .ref me, .ref mr, .int (nI my0), .ref mq, .ref mp, .ref mw, .ref mc])), (ms, .inl (Γ.2 0, 162, .inl (aN (upN (cpB ss fr0 to0 k0) ((18 * to0) + k0) (ss ((18 * fr0) + k0))))))] := hD
        refine lv_iinc (v := (nI (k0 + 1))) (lv' := [(3, .int (nI (k0 + 1))), (0, .ref ma), (1, .int (nI fr0)), (2, .int (nI to0))]) hx hb dX7_copies_30 hl (k := 0) rfl (nI_1 _) (by decide) rfl (fun ls hl => ?_)
        refine lv_goto (tgt := 2) hx hb dX7_copies_33 (by decide) ?_
        exact ih2 (k0 + 1) (by first | omega | assumption) (by omega) _ _ (cp_w hP (by rw [cpB_s])) (va_D_fst (by rfl) hD) hS ls (lv_sub hl [0, 1, 2, 3] rfl)
  exact LP2 ((18 - 0) + 1) 0 (by first | omega | assumption) (Nat.lt_succ_self _) _ _ (cp_w hP (by rw [cpB_0])) (va_D_fst (by rfl) hD) hS ls (lv_sub hl [0, 1, 2, 3] rfl)
set_option maxHeartbeats 8000000 in
set_option maxRecDepth 100000 in
theorem c_X7_links (l : Launch) (Γ : kG) (ma : Nat) (ms : Nat) (sn0 : Nat) (mk : Nat) (tw0 : Nat) (mt : Nat) (ty0 : Nat) (mb : Nat) (il0 : Bool) (me : Nat) (mr : Nat) (my0 : Nat) (mq : Nat) (mp : Nat) (mw : Nat) (mc : Nat) (ss : Nat → Nat) (i0 : Nat) (j0 : Nat) (b0 : Bool) (hi0 : i0 < 14) (hj0 : j0 < 14) : WRv l yX7_links (wsq yX7_links cX7_links 4 none) (rmL 1) Γ [.ref ma, .int (nI i0), .int (nI j0), .int (bI b0)] [(ma, .inr (7, [.ref ms, .int (nI sn0), .ref mk, .int (nI tw0), .ref mt, .int (nI ty0), .ref mb, .int (bI il0), .ref me, .ref mr, .int (nI my0), .ref mq, .ref mp, .ref mw, .ref mc])), (ms, .inl (Γ.2 0, 162, .inl (aN ss)))] (fun u : Unit => [(ma, .inr (7, [.ref ms, .int (nI sn0), .ref mk, .int (nI tw0), .ref mt, .int (nI ty0), .ref mb, .int (bI false), .ref me, .ref mr, .int (nI my0), .ref mq, .ref mp, .ref mw, .ref mc])), (ms, .inl (Γ.2 0, 162, .inl (aN (lkS ss i0 j0 b0))))]) (fun u : Unit => True) := by
  refine wr_ofv (cc := cX7_links) (maxL := 4) (by decide +kernel) (Nat.le_of_ble_eq_true rfl) rfl ?_
  intro p ev R st mi args below meth cd Q A ls C0 hR hret hP hD hS hl
  obtain ⟨hx, hb, hr, hml, hown, hts, hlk, hK, hnm⟩ := C0
  have hown : st.vm.findClass RX7 = some mi.cls := hown
  cases b0
  · skip
    refine lv_aload_n hx hb dX7_links_0 rfl (lv_at hl 0 rfl) ?_
    refine va_get (D := Γ.1) (ci := 7) (v := .ref ms) (C := RX7) (T := TX7) (N := 15) hx hb hts hinX7 hown hK.1 hP 0 rfl rfl 0 (by decide) (hts _ mw_400) (fun _ h9 => h9) rfl dX7_links_1 ?_
    refine lv_iconst (v := (nI 4)) hx hb dX7_links_4 (by decide) ?_
    refine lv_iload_n hx hb dX7_links_5 rfl (lv_at hl 1 rfl) ?_
    refine lv_iadd hx hb dX7_links_6 ?_
    refine tp_i (y := (nI (4 + i0))) (nI_add _ _) ?_
    refine lv_iload_n hx hb dX7_links_7 rfl (lv_at hl 3 rfl) ?_
    refine nb_ifb_eq (tgt := 26) hx hb dX7_links_8 (by decide) (fun c_8 => ?_) (fun c_8 => by exfalso; exact absurd c_8 (by decide))
    refine lv_aload_n hx hb dX7_links_26 rfl (lv_at hl 0 rfl) ?_
    refine va_get (D := Γ.1) (ci := 7) (v := .ref ms) (C := RX7) (T := TX7) (N := 15) hx hb hts hinX7 hown hK.1 hP 0 rfl rfl 0 (by decide) (hts _ mw_400) (fun _ h9 => h9) rfl dX7_links_27 ?_
    refine lv_iconst (v := (nI 4)) hx hb dX7_links_30 (by decide) ?_
    refine lv_iload_n hx hb dX7_links_31 rfl (lv_at hl 1 rfl) ?_
    refine lv_iadd hx hb dX7_links_32 ?_
    refine tp_i (y := (nI (4 + i0))) (nI_add _ _) ?_
    refine iald_N hx hb hK.1 hP 1 0 rfl rfl (by omega) (by first | decide | assumption) dX7_links_33 ?_
    refine lv_iconst (v := (nI 1)) hx hb dX7_links_34 (by decide) ?_
    refine lv_iload_n hx hb dX7_links_35 rfl (lv_at hl 2 rfl) ?_
    refine lv_ishl hx hb dX7_links_36 ?_
    refine tp_i (y := (nI (2 ^ j0))) (ni_shl1 (by omega)) ?_
    refine lv_iconst (v := (-1)) hx hb dX7_links_37 (by decide) ?_
    refine lv_ixor hx hb dX7_links_38 ?_
    refine lv_iand hx hb dX7_links_39 ?_
    refine tp_i (y := (nI (sd (ss (4 + i0)) (2 ^ j0)))) (ni_sd _ _) ?_
    refine iast_N hx hb hK.1 hP hD hS 1 0 rfl rfl (by omega) (by first | decide | assumption) dX7_links_40 (fun H locs hP hD hS => ?_)
    have hP : va_P Γ.1 vwCl [(ma, .inr (7, [.ref ms, .int (nI sn0), .ref mk, .int (nI tw0), .ref mt, .int (nI ty0), .ref mb, .int (bI il0), .ref me, .ref mr, .int (nI my0), .ref mq, .ref mp, .ref mw, .ref mc])), (ms, .inl (Γ.2 0, 162, .inl (aN (upN ss (4 + i0) (sd (ss (4 + i0)) (2 ^ j0))))))] H := hP
    have hD : va_D A [(ma, .inr (7, [.ref ms, .int (nI sn0), .ref mk, .int (nI tw0), .ref mt, .int (nI ty0), .ref mb, .int (bI il0), .ref me, .ref mr, .int (nI my0), .ref mq, .ref mp, .ref mw, .ref mc])), (ms, .inl (Γ.2 0, 162, .inl (aN (upN ss (4 + i0) (sd (ss (4 + i0)) (2 ^ j0))))))] := hD
    refine lv_aload_n hx hb dX7_links_41 rfl (lv_at hl 0 rfl) ?_
    refine va_get (D := Γ.1) (ci := 7) (v := .ref ms) (C := RX7) (T := TX7) (N := 15) hx hb hts hinX7 hown hK.1 hP 0 rfl rfl 0 (by decide) (hts _ mw_400) (fun _ h9 => h9) rfl dX7_links_42 ?_
    refine lv_iconst (v := (nI 4)) hx hb dX7_links_45 (by decide) ?_
    refine lv_iload_n hx hb dX7_links_46 rfl (lv_at hl 2 rfl) ?_
    refine lv_iadd hx hb dX7_links_47 ?_
    refine tp_i (y := (nI (4 + j0))) (nI_add _ _) ?_
    refine lv_iload_n hx hb dX7_links_48 rfl (lv_at hl 3 rfl) ?_
    refine nb_ifb_eq (tgt := 67) hx hb dX7_links_49 (by decide) (fun c_49 => ?_) (fun c_49 => by exfalso; exact absurd c_49 (by decide))
    refine lv_aload_n hx hb dX7_links_67 rfl (lv_at hl 0 rfl) ?_
    refine va_get (D := Γ.1) (ci := 7) (v := .ref ms) (C := RX7) (T := TX7) (N := 15) hx hb hts hinX7 hown hK.1 hP 0 rfl rfl 0 (by decide) (hts _ mw_400) (fun _ h9 => h9) rfl dX7_links_68 ?_
    refine lv_iconst (v := (nI 4)) hx hb dX7_links_71 (by decide) ?_
    refine lv_iload_n hx hb dX7_links_72 rfl (lv_at hl 2 rfl) ?_
    refine lv_iadd hx hb dX7_links_73 ?_
    refine tp_i (y := (nI (4 + j0))) (nI_add _ _) ?_
    refine iald_N hx hb hK.1 hP 1 0 rfl rfl (by omega) (by first | decide | assumption) dX7_links_74 ?_
    refine lv_iconst (v := (nI 1)) hx hb dX7_links_75 (by decide) ?_
    refine lv_iload_n hx hb dX7_links_76 rfl (lv_at hl 1 rfl) ?_
    refine lv_ishl hx hb dX7_links_77 ?_
    refine tp_i (y := (nI (2 ^ i0))) (ni_shl1 (by omega)) ?_
    refine lv_iconst (v := (-1)) hx hb dX7_links_78 (by decide) ?_
    refine lv_ixor hx hb dX7_links_79 ?_
    refine lv_iand hx hb dX7_links_80 ?_
    refine tp_i (y := (nI (sd ((upN ss (4 + i0) (sd (ss (4 + i0)) (2 ^ j0))) (4 + j0)) (2 ^ i0)))) (ni_sd _ _) ?_
    refine iast_N hx hb hK.1 hP hD hS 1 0 rfl rfl (by omega) (by first | decide | assumption) dX7_links_81 (fun H locs hP hD hS => ?_)
    have hP : va_P Γ.1 vwCl [(ma, .inr (7, [.ref ms, .int (nI sn0), .ref mk, .int (nI tw0), .ref mt, .int (nI ty0), .ref mb, .int (bI il0), .ref me, .ref mr, .int (nI my0), .ref mq, .ref mp, .ref mw, .ref mc])), (ms, .inl (Γ.2 0, 162, .inl (aN (upN (upN ss (4 + i0) (sd (ss (4 + i0)) (2 ^ j0))) (4 + j0) (sd ((upN ss (4 + i0) (sd (ss (4 + i0)) (2 ^ j0))) (4 + j0)) (2 ^ i0))))))] H := hP
    have hD : va_D A [(ma, .inr (7, [.ref ms, .int (nI sn0), .ref mk, .int (nI tw0), .ref mt, .int (nI ty0), .ref mb, .int (bI il0), .ref me, .ref mr, .int (nI my0), .ref mq, .ref mp, .ref mw, .ref mc])), (ms, .inl (Γ.2 0, 162, .inl (aN (upN (upN ss (4 + i0) (sd (ss (4 + i0)) (2 ^ j0))) (4 + j0) (sd ((upN ss (4 + i0) (sd (ss (4 + i0)) (2 ^ j0))) (4 + j0)) (2 ^ i0))))))] := hD
    refine lv_aload_n hx hb dX7_links_82 rfl (lv_at hl 0 rfl) ?_
    refine lv_iconst (v := (nI 0)) hx hb dX7_links_83 (by decide) ?_
    refine tp_i (y := (bI false)) (rfl) ?_
    refine va_put (D := Γ.1) (ci := 7) (v := .int (bI false)) (ty := .boolean) (C := RX7) (T := TX7) (N := 15) hx hb hts hinX7 tyX7 tyX7_ok nmX7 hown hK.1 hP hD hS 0 rfl rfl 7 (by decide) (hts _ mw_419) (fun _ h9 => h9) rfl (by decide +kernel) (bI_nar _) (bI_fit _) (Nat.le_of_ble_eq_true rfl) dX7_links_84 (fun H locs hP hD hS => ?_)
    have hP : va_P Γ.1 vwCl [(ma, .inr (7, [.ref ms, .int (nI sn0), .ref mk, .int (nI tw0), .ref mt, .int (nI ty0), .ref mb, .int (bI false), .ref me, .ref mr, .int (nI my0), .ref mq, .ref mp, .ref mw, .ref mc])), (ms, .inl (Γ.2 0, 162, .inl (aN (upN (upN ss (4 + i0) (sd (ss (4 + i0)) (2 ^ j0))) (4 + j0) (sd ((upN ss (4 + i0) (sd (ss (4 + i0)) (2 ^ j0))) (4 + j0)) (2 ^ i0))))))] H := hP
    have hD : va_D A [(ma, .inr (7, [.ref ms, .int (nI sn0), .ref mk, .int (nI tw0), .ref mt, .int (nI ty0), .ref mb, .int (bI false), .ref me, .ref mr, .int (nI my0), .ref mq, .ref mp, .ref mw, .ref mc])), (ms, .inl (Γ.2 0, 162, .inl (aN (upN (upN ss (4 + i0) (sd (ss (4 + i0)) (2 ^ j0))) (4 + j0) (sd ((upN ss (4 + i0) (sd (ss (4 + i0)) (2 ^ j0))) (4 + j0)) (2 ^ i0))))))] := hD
    exact hret () hP hS (trivial) dX7_links_87
  · skip
    refine lv_aload_n hx hb dX7_links_0 rfl (lv_at hl 0 rfl) ?_
    refine va_get (D := Γ.1) (ci := 7) (v := .ref ms) (C := RX7) (T := TX7) (N := 15) hx hb hts hinX7 hown hK.1 hP 0 rfl rfl 0 (by decide) (hts _ mw_400) (fun _ h9 => h9) rfl dX7_links_1 ?_
    refine lv_iconst (v := (nI 4)) hx hb dX7_links_4 (by decide) ?_
    refine lv_iload_n hx hb dX7_links_5 rfl (lv_at hl 1 rfl) ?_
    refine lv_iadd hx hb dX7_links_6 ?_
    refine tp_i (y := (nI (4 + i0))) (nI_add _ _) ?_
    refine lv_iload_n hx hb dX7_links_7 rfl (lv_at hl 3 rfl) ?_
    refine nb_ifb_eq (tgt := 26) hx hb dX7_links_8 (by decide) (fun c_8 => by exfalso; exact absurd c_8 (by decide)) (fun c_8 => ?_)
    refine lv_aload_n hx hb dX7_links_11 rfl (lv_at hl 0 rfl) ?_
    refine va_get (D := Γ.1) (ci := 7) (v := .ref ms) (C := RX7) (T := TX7) (N := 15) hx hb hts hinX7 hown hK.1 hP 0 rfl rfl 0 (by decide) (hts _ mw_400) (fun _ h9 => h9) rfl dX7_links_12 ?_
    refine lv_iconst (v := (nI 4)) hx hb dX7_links_15 (by decide) ?_
    refine lv_iload_n hx hb dX7_links_16 rfl (lv_at hl 1 rfl) ?_
    refine lv_iadd hx hb dX7_links_17 ?_
    refine tp_i (y := (nI (4 + i0))) (nI_add _ _) ?_
    refine iald_N hx hb hK.1 hP 1 0 rfl rfl (by omega) (by first | decide | assumption) dX7_links_18 ?_
    refine lv_iconst (v := (nI 1)) hx hb dX7_links_19 (by decide) ?_
    refine lv_iload_n hx hb dX7_links_20 rfl (lv_at hl 2 rfl) ?_
    refine lv_ishl hx hb dX7_links_21 ?_
    refine tp_i (y := (nI (2 ^ j0))) (ni_shl1 (by omega)) ?_
    refine lv_ior hx hb dX7_links_22 ?_
    refine tp_i (y := (nI ((ss (4 + i0)) ||| (2 ^ j0)))) (ni_or _ _) ?_
    refine lv_goto (tgt := 40) hx hb dX7_links_23 (by decide) ?_
    refine iast_N hx hb hK.1 hP hD hS 1 0 rfl rfl (by omega) (by first | decide | assumption) dX7_links_40 (fun H locs hP hD hS => ?_)
    have hP : va_P Γ.1 vwCl [(ma, .inr (7, [.ref ms, .int (nI sn0), .ref mk, .int (nI tw0), .ref mt, .int (nI ty0), .ref mb, .int (bI il0), .ref me, .ref mr, .int (nI my0), .ref mq, .ref mp, .ref mw, .ref mc])), (ms, .inl (Γ.2 0, 162, .inl (aN (upN ss (4 + i0) ((ss (4 + i0)) ||| (2 ^ j0))))))] H := hP
    have hD : va_D A [(ma, .inr (7, [.ref ms, .int (nI sn0), .ref mk, .int (nI tw0), .ref mt, .int (nI ty0), .ref mb, .int (bI il0), .ref me, .ref mr, .int (nI my0), .ref mq, .ref mp, .ref mw, .ref mc])), (ms, .inl (Γ.2 0, 162, .inl (aN (upN ss (4 + i0) ((ss (4 + i0)) ||| (2 ^ j0))))))] := hD
    refine lv_aload_n hx hb dX7_links_41 rfl (lv_at hl 0 rfl) ?_
    refine va_get (D := Γ.1) (ci := 7) (v := .ref ms) (C := RX7) (T := TX7) (N := 15) hx hb hts hinX7 hown hK.1 hP 0 rfl rfl 0 (by decide) (hts _ mw_400) (fun _ h9 => h9) rfl dX7_links_42 ?_
    refine lv_iconst (v := (nI 4)) hx hb dX7_links_45 (by decide) ?_
    refine lv_iload_n hx hb dX7_links_46 rfl (lv_at hl 2 rfl) ?_
    refine lv_iadd hx hb dX7_links_47 ?_
    refine tp_i (y := (nI (4 + j0))) (nI_add _ _) ?_
    refine lv_iload_n hx hb dX7_links_48 rfl (lv_at hl 3 rfl) ?_
    refine nb_ifb_eq (tgt := 67) hx hb dX7_links_49 (by decide) (fun c_49 => by exfalso; exact absurd c_49 (by decide)) (fun c_49 => ?_)
    refine lv_aload_n hx hb dX7_links_52 rfl (lv_at hl 0 rfl) ?_
    refine va_get (D := Γ.1) (ci := 7) (v := .ref ms) (C := RX7) (T := TX7) (N := 15) hx hb hts hinX7 hown hK.1 hP 0 rfl rfl 0 (by decide) (hts _ mw_400) (fun _ h9 => h9) rfl dX7_links_53 ?_
    refine lv_iconst (v := (nI 4)) hx hb dX7_links_56 (by decide) ?_
    refine lv_iload_n hx hb dX7_links_57 rfl (lv_at hl 2 rfl) ?_
    refine lv_iadd hx hb dX7_links_58 ?_
    refine tp_i (y := (nI (4 + j0))) (nI_add _ _) ?_
    refine iald_N hx hb hK.1 hP 1 0 rfl rfl (by omega) (by first | decide | assumption) dX7_links_59 ?_
    refine lv_iconst (v := (nI 1)) hx hb dX7_links_60 (by decide) ?_
    refine lv_iload_n hx hb dX7_links_61 rfl (lv_at hl 1 rfl) ?_
    refine lv_ishl hx hb dX7_links_62 ?_
    refine tp_i (y := (nI (2 ^ i0))) (ni_shl1 (by omega)) ?_
    refine lv_ior hx hb dX7_links_63 ?_
    refine tp_i (y := (nI (((upN ss (4 + i0) ((ss (4 + i0)) ||| (2 ^ j0))) (4 + j0)) ||| (2 ^ i0)))) (ni_or _ _) ?_
    refine lv_goto (tgt := 81) hx hb dX7_links_64 (by decide) ?_
    refine iast_N hx hb hK.1 hP hD hS 1 0 rfl rfl (by omega) (by first | decide | assumption) dX7_links_81 (fun H locs hP hD hS => ?_)
    have hP : va_P Γ.1 vwCl [(ma, .inr (7, [.ref ms, .int (nI sn0), .ref mk, .int (nI tw0), .ref mt, .int (nI ty0), .ref mb, .int (bI il0), .ref me, .ref mr, .int (nI my0), .ref mq, .ref mp, .ref mw, .ref mc])), (ms, .inl (Γ.2 0, 162, .inl (aN (upN (upN ss (4 + i0) ((ss (4 + i0)) ||| (2 ^ j0))) (4 + j0) (((upN ss (4 + i0) ((ss (4 + i0)) ||| (2 ^ j0))) (4 + j0)) ||| (2 ^ i0))))))] H := hP
    have hD : va_D A [(ma, .inr (7, [.ref ms, .int (nI sn0), .ref mk, .int (nI tw0), .ref mt, .int (nI ty0), .ref mb, .int (bI il0), .ref me, .ref mr, .int (nI my0), .ref mq, .ref mp, .ref mw, .ref mc])), (ms, .inl (Γ.2 0, 162, .inl (aN (upN (upN ss (4 + i0) ((ss (4 + i0)) ||| (2 ^ j0))) (4 + j0) (((upN ss (4 + i0) ((ss (4 + i0)) ||| (2 ^ j0))) (4 + j0)) ||| (2 ^ i0))))))] := hD
    refine lv_aload_n hx hb dX7_links_82 rfl (lv_at hl 0 rfl) ?_
    refine lv_iconst (v := (nI 0)) hx hb dX7_links_83 (by decide) ?_
    refine tp_i (y := (bI false)) (rfl) ?_
    refine va_put (D := Γ.1) (ci := 7) (v := .int (bI false)) (ty := .boolean) (C := RX7) (T := TX7) (N := 15) hx hb hts hinX7 tyX7 tyX7_ok nmX7 hown hK.1 hP hD hS 0 rfl rfl 7 (by decide) (hts _ mw_419) (fun _ h9 => h9) rfl (by decide +kernel) (bI_nar _) (bI_fit _) (Nat.le_of_ble_eq_true rfl) dX7_links_84 (fun H locs hP hD hS => ?_)
    have hP : va_P Γ.1 vwCl [(ma, .inr (7, [.ref ms, .int (nI sn0), .ref mk, .int (nI tw0), .ref mt, .int (nI ty0), .ref mb, .int (bI false), .ref me, .ref mr, .int (nI my0), .ref mq, .ref mp, .ref mw, .ref mc])), (ms, .inl (Γ.2 0, 162, .inl (aN (upN (upN ss (4 + i0) ((ss (4 + i0)) ||| (2 ^ j0))) (4 + j0) (((upN ss (4 + i0) ((ss (4 + i0)) ||| (2 ^ j0))) (4 + j0)) ||| (2 ^ i0))))))] H := hP
    have hD : va_D A [(ma, .inr (7, [.ref ms, .int (nI sn0), .ref mk, .int (nI tw0), .ref mt, .int (nI ty0), .ref mb, .int (bI false), .ref me, .ref mr, .int (nI my0), .ref mq, .ref mp, .ref mw, .ref mc])), (ms, .inl (Γ.2 0, 162, .inl (aN (upN (upN ss (4 + i0) ((ss (4 + i0)) ||| (2 ^ j0))) (4 + j0) (((upN ss (4 + i0) ((ss (4 + i0)) ||| (2 ^ j0))) (4 + j0)) ||| (2 ^ i0))))))] := hD
    exact hret () hP hS (trivial) dX7_links_87
set_option maxHeartbeats 8000000 in
set_option maxRecDepth 100000 in
theorem c_X7_canJoin (l : Launch) (Γ : kG) (H0 : Heap) (ma : Nat) (ms : Nat) (sn0 : Nat) (mk : Nat) (tw0 : Nat) (mt : Nat) (ty0 : Nat) (mb : Nat) (il0 : Bool) (me : Nat) (mr : Nat) (my0 : Nat) (mq : Nat) (mp : Nat) (mw : Nat) (mc : Nat) (ss : Nat → Nat) (i0 : Nat) (j0 : Nat) (hP : va_P Γ.1 vwCl [(ma, .inr (7, [.ref ms, .int (nI sn0), .ref mk, .int (nI tw0), .ref mt, .int (nI ty0), .ref mb, .int (bI il0), .ref me, .ref mr, .int (nI my0), .ref mq, .ref mp, .ref mw, .ref mc])), (ms, .inl (Γ.2 0, 162, .inl (aN ss)))] H0) (h0 : ss 0 ≤ 14) (h1 : ss 1 < 16384) (hi0 : i0 < ss 0) (hj0 : j0 < ss 0) : RO l yX7_canJoin (wsq yX7_canJoin cX7_canJoin 3 (some .boolean)) (rmL 2) Γ H0 [.ref ma, .int (nI i0), .int (nI j0)] (bI ((ss 1).testBit i0 && (ss 1).testBit j0 && !(comp (gS ss) (2 ^ ss 0 - 1) i0).testBit j0)) := by
  refine ro_ofz (cc := cX7_canJoin) (maxL := 3) (by decide +kernel) (Nat.le_of_ble_eq_true rfl) rfl ?_
  intro p ev R st mi args below meth cd Q ls C0 hR hret hh hS hl
  obtain ⟨hx, hb, hr, hml, hown, hts, hlk, hK, hnm⟩ := C0
  have hown : st.vm.findClass RX7 = some mi.cls := hown
  refine lv_aload_n hx hb dX7_canJoin_0 rfl (lv_at hl 0 rfl) ?_
  refine lv_iload_n hx hb dX7_canJoin_1 rfl (lv_at hl 1 rfl) ?_
  refine ro_fin (va_runV (As := [.int (nI i0)]) (rest := []) ⟨hx, hb, hml, hown, hts⟩ (c_X7_isThere l Γ H0 ma ms sn0 mk tw0 mt ty0 mb il0 me mr my0 mq mp mw mc ss i0 (hP.sub (ws' := [(ma, .inr (7, [.ref ms, .int (nI sn0), .ref mk, .int (nI tw0), .ref mt, .int (nI ty0), .ref mb, .int (bI il0), .ref me, .ref mr, .int (nI my0), .ref mq, .ref mp, .ref mw, .ref mc])), (ms, .inl (Γ.2 0, 162, .inl (aN ss)))]) [0, 1] rfl) (by first | omega | assumption) (by first | omega | assumption)) (kcwV 1 hts kv_X7_isThere mw_470 (rm_le hR (Nat.le_of_ble_eq_true rfl) (Nat.le_of_ble_eq_true rfl))) (kPc_V hK (va_recv hK.1 hP (ci := 7) (q0 := 0) rfl rfl)) rfl rfl hl.1 rfl (lv_room (Nat.le_of_ble_eq_true rfl)) dX7_canJoin_2 ⟨Nat.zero_le _, Nat.zero_le _⟩) hS (fun locs hS => ?_)
  refine nb_ifb_eq (tgt := 42) hx hb dX7_canJoin_5 (by decide) (fun c_5 => ?_) (fun c_5 => ?_)
  · skip
    refine lv_iconst (v := (nI 0)) hx hb dX7_canJoin_42 (by decide) ?_
    exact hret hS (by first | (rw [c_5, c_13, hb9]; rfl) | (rw [c_5, c_13]; rfl) | (rw [c_5]; rfl)) dX7_canJoin_43
  · skip
    refine lv_aload_n hx hb dX7_canJoin_8 rfl (lv_at hl 0 rfl) ?_
    refine lv_iload_n hx hb dX7_canJoin_9 rfl (lv_at hl 2 rfl) ?_
    refine ro_fin (va_runV (As := [.int (nI j0)]) (rest := []) ⟨hx, hb, hml, hown, hts⟩ (c_X7_isThere l Γ H0 ma ms sn0 mk tw0 mt ty0 mb il0 me mr my0 mq mp mw mc ss j0 (hP.sub (ws' := [(ma, .inr (7, [.ref ms, .int (nI sn0), .ref mk, .int (nI tw0), .ref mt, .int (nI ty0), .ref mb, .int (bI il0), .ref me, .ref mr, .int (nI my0), .ref mq, .ref mp, .ref mw, .ref mc])), (ms, .inl (Γ.2 0, 162, .inl (aN ss)))]) [0, 1] rfl) (by first | omega | assumption) (by first | omega | assumption)) (kcwV 1 hts kv_X7_isThere mw_470 (rm_le hR (Nat.le_of_ble_eq_true rfl) (Nat.le_of_ble_eq_true rfl))) (kPc_V hK (va_recv hK.1 hP (ci := 7) (q0 := 0) rfl rfl)) rfl rfl hl.1 rfl (lv_room (Nat.le_of_ble_eq_true rfl)) dX7_canJoin_10 ⟨Nat.zero_le _, Nat.zero_le _⟩) hS (fun locs hS => ?_)
    refine nb_ifb_eq (tgt := 42) hx hb dX7_canJoin_13 (by decide) (fun c_13 => ?_) (fun c_13 => ?_)
    · skip
      refine lv_iconst (v := (nI 0)) hx hb dX7_canJoin_42 (by decide) ?_
      exact hret hS (by first | (rw [c_5, c_13, hb9]; rfl) | (rw [c_5, c_13]; rfl) | (rw [c_5]; rfl)) dX7_canJoin_43
    · skip
      refine lv_aload_n hx hb dX7_canJoin_16 rfl (lv_at hl 0 rfl) ?_
      refine lv_iload_n hx hb dX7_canJoin_17 rfl (lv_at hl 1 rfl) ?_
      refine lv_iconst (v := (nI 1)) hx hb dX7_canJoin_18 (by decide) ?_
      refine lv_aload_n hx hb dX7_canJoin_19 rfl (lv_at hl 0 rfl) ?_
      refine va_get (D := Γ.1) (ci := 7) (v := .ref ms) (C := RX7) (T := TX7) (N := 15) hx hb hts hinX7 hown hK.1 hP 0 rfl rfl 0 (by decide) (hts _ mw_400) (fun _ h9 => h9) rfl dX7_canJoin_20 ?_
      refine lv_iconst (v := (nI 0)) hx hb dX7_canJoin_23 (by decide) ?_
      refine iald_N hx hb hK.1 hP 1 0 rfl rfl (by omega) (by first | decide | assumption) dX7_canJoin_24 ?_
      refine lv_ishl hx hb dX7_canJoin_25 ?_
      refine tp_i (y := (nI (2 ^ (ss 0)))) (ni_shl1 (by omega)) ?_
      refine lv_iconst (v := (nI 1)) hx hb dX7_canJoin_26 (by decide) ?_
      refine lv_isub hx hb dX7_canJoin_27 ?_
      refine tp_i (y := (nI ((2 ^ (ss 0)) - 1))) (ni_sub (Nat.one_le_two_pow)) ?_
      refine ro_fin (va_runV (As := [.int (nI i0), .int (nI ((2 ^ (ss 0)) - 1))]) (rest := []) ⟨hx, hb, hml, hown, hts⟩ (c_X7_reached l Γ H0 ma ms sn0 mk tw0 mt ty0 mb il0 me mr my0 mq mp mw mc ss i0 ((2 ^ (ss 0)) - 1) (hP.sub (ws' := [(ma, .inr (7, [.ref ms, .int (nI sn0), .ref mk, .int (nI tw0), .ref mt, .int (nI ty0), .ref mb, .int (bI il0), .ref me, .ref mr, .int (nI my0), .ref mq, .ref mp, .ref mw, .ref mc])), (ms, .inl (Γ.2 0, 162, .inl (aN ss)))]) [0, 1] rfl) (by first | omega | assumption) (by first | omega | assumption) (by have h9 : 0 < 2 ^ ss 0 := Nat.pow_pos (by omega); omega)) (kcwV 2 hts kv_X7_reached mw_453 (rm_le hR (Nat.le_of_ble_eq_true rfl) (Nat.le_of_ble_eq_true rfl))) (kPc_V hK (va_recv hK.1 hP (ci := 7) (q0 := 0) rfl rfl)) rfl rfl hl.1 rfl (lv_room (Nat.le_of_ble_eq_true rfl)) dX7_canJoin_28 ⟨Nat.zero_le _, Nat.zero_le _⟩) hS (fun locs hS => ?_)
      refine lv_iload_n hx hb dX7_canJoin_31 rfl (lv_at hl 2 rfl) ?_
      refine lv_ishr hx hb dX7_canJoin_32 ?_
      refine tp_i (y := (nI ((comp (gS ss) ((2 ^ (ss 0)) - 1) i0) >>> j0))) (ni_shr (by omega) (Nat.lt_trans (comp_lt _ _ _) (by decide))) ?_
      refine lv_iconst (v := (nI 1)) hx hb dX7_canJoin_33 (by decide) ?_
      refine lv_iand hx hb dX7_canJoin_34 ?_
      refine tp_i (y := (nI ((Nat.testBit (comp (gS ss) ((2 ^ (ss 0)) - 1) i0) j0).toNat))) (ni_bit _ _) ?_
      refine nb_if_ne (tgt := 42) hx hb (tn_lt _) dX7_canJoin_35 (by decide) (fun c_35 => ?_) (fun c_35 => ?_)
      · skip
        have hb9 := nf_t (fun q9 => c_35 (tn_0.mpr q9))
        refine lv_iconst (v := (nI 0)) hx hb dX7_canJoin_42 (by decide) ?_
        exact hret hS (by first | (rw [c_5, c_13, hb9]; rfl) | (rw [c_5, c_13]; rfl) | (rw [c_5]; rfl)) dX7_canJoin_43
      · skip
        have hb9 := tn_0.mp c_35
        refine lv_iconst (v := (nI 1)) hx hb dX7_canJoin_38 (by decide) ?_
        refine lv_goto (tgt := 43) hx hb dX7_canJoin_39 (by decide) ?_
        exact hret hS (by first | (rw [c_5, c_13, hb9]; rfl) | (rw [c_5, c_13]; rfl) | (rw [c_5]; rfl)) dX7_canJoin_43
