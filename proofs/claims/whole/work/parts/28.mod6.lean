set_option maxHeartbeats 8000000 in
set_option maxRecDepth 100000 in
theorem c_X7_finds (l : Launch) (Γ : kG) (ma : Nat) (ms : Nat) (sn0 : Nat) (mk : Nat) (tw0 : Nat) (mt : Nat) (ty0 : Nat) (mb : Nat) (il0 : Bool) (me : Nat) (mr : Nat) (my0 : Nat) (mq : Nat) (mp : Nat) (mw : Nat) (mc : Nat) (ss : Nat → Nat) (tr : Nat → Nat) (h0 : ss 0 ≤ 14) (h1 : ss 1 < 2 ^ ss 0) : WRv l yX7_finds (wsq yX7_finds cX7_finds 2 none) (rmL 3) Γ [.ref ma] [(ma, .inr (7, [.ref ms, .int (nI sn0), .ref mk, .int (nI tw0), .ref mt, .int (nI ty0), .ref mb, .int (bI il0), .ref me, .ref mr, .int (nI my0), .ref mq, .ref mp, .ref mw, .ref mc])), (ms, .inl (Γ.2 0, 162, .inl (aN ss))), (mr, .inl (Γ.2 0, 14, .inl (aN tr)))] (fun u : Unit => [(ma, .inr (7, [.ref ms, .int (nI sn0), .ref mk, .int (nI tw0), .ref mt, .int (nI ty0), .ref mb, .int (bI il0), .ref me, .ref mr, .int (nI (trC (gS ss) (ss 1))), .ref mq, .ref mp, .ref mw, .ref mc])), (ms, .inl (Γ.2 0, 162, .inl (aN ss))), (mr, .inl (Γ.2 0, 14, .inl (aN (trS tr (gS ss) (ss 1) (trC (gS ss) (ss 1))))))]) (fun u : Unit => True) := by
  refine wr_ofv (cc := cX7_finds) (maxL := 2) (by decide +kernel) (Nat.le_of_ble_eq_true rfl) rfl ?_
  intro p ev R st mi args below meth cd Q A ls C0 hR hret hP hD hS hl
  obtain ⟨hx, hb, hr, hml, hown, hts, hlk, hK, hnm⟩ := C0
  have hown : st.vm.findClass RX7 = some mi.cls := hown
  have hw := w14 h1 h0
  refine lv_aload_n hx hb dX7_finds_0 rfl (lv_at hl 0 rfl) ?_
  refine lv_iconst (v := (nI 0)) hx hb dX7_finds_1 (by decide) ?_
  refine va_put (D := Γ.1) (ci := 7) (v := .int (nI 0)) (ty := .int) (C := RX7) (T := TX7) (N := 15) hx hb hts hinX7 tyX7 tyX7_ok nmX7 hown hK.1 hP hD hS 0 rfl rfl 10 (by decide) (hts _ mw_450) (fun _ h9 => h9) rfl (by decide +kernel) rfl rfl (Nat.le_of_ble_eq_true rfl) dX7_finds_2 (fun H locs hP hD hS => ?_)
  have hP : va_P Γ.1 vwCl [(ma, .inr (7, [.ref ms, .int (nI sn0), .ref mk, .int (nI tw0), .ref mt, .int (nI ty0), .ref mb, .int (bI il0), .ref me, .ref mr, .int (nI 0), .ref mq, .ref mp, .ref mw, .ref mc])), (ms, .inl (Γ.2 0, 162, .inl (aN ss))), (mr, .inl (Γ.2 0, 14, .inl (aN tr)))] H := hP
  have hD : va_D A [(ma, .inr (7, [.ref ms, .int (nI sn0), .ref mk, .int (nI tw0), .ref mt, .int (nI ty0), .ref mb, .int (bI il0), .ref me, .ref mr, .int (nI 0), .ref mq, .ref mp, .ref mw, .ref mc])), (ms, .inl (Γ.2 0, 162, .inl (aN ss))), (mr, .inl (Γ.2 0, 14, .inl (aN tr)))] := hD
  refine lv_aload_n hx hb dX7_finds_5 rfl (lv_at hl 0 rfl) ?_
  refine va_get (D := Γ.1) (ci := 7) (v := .ref ms) (C := RX7) (T := TX7) (N := 15) hx hb hts hinX7 hown hK.1 hP 0 rfl rfl 0 (by decide) (hts _ mw_400) (fun _ h9 => h9) rfl dX7_finds_6 ?_
  refine lv_iconst (v := (nI 1)) hx hb dX7_finds_9 (by decide) ?_
  refine iald_N hx hb hK.1 hP 1 0 rfl rfl (by omega) (by first | decide | assumption) dX7_finds_10 ?_
  refine lv_istore_n (lv' := [(1, .int (nI (ss 1))), (0, .ref ma)]) hx hb dX7_finds_11 rfl hl (by decide) rfl (fun ls hl => ?_)
  have LP12 : ∀ (fu : Nat) (m0 : Nat) (hm0 : m0 ≤ 14) (hs0 : ∀ i, i < m0 → (trL (gS ss) (ss 1) i) ≠ 0), (14 - m0) < fu → ∀ (H : Heap) (locs : List Loc), va_P Γ.1 vwCl [(ma, .inr (7, [.ref ms, .int (nI sn0), .ref mk, .int (nI tw0), .ref mt, .int (nI ty0), .ref mb, .int (bI il0), .ref me, .ref mr, .int (nI m0), .ref mq, .ref mp, .ref mw, .ref mc])), (ms, .inl (Γ.2 0, 162, .inl (aN ss))), (mr, .inl (Γ.2 0, 14, .inl (aN (trS tr (gS ss) (ss 1) m0))))] H → va_D A [(ma, .inr (7, [.ref ms, .int (nI sn0), .ref mk, .int (nI tw0), .ref mt, .int (nI ty0), .ref mb, .int (bI il0), .ref me, .ref mr, .int (nI m0), .ref mq, .ref mp, .ref mw, .ref mc])), (ms, .inl (Γ.2 0, 162, .inl (aN ss))), (mr, .inl (Γ.2 0, 14, .inl (aN (trS tr (gS ss) (ss 1) m0))))] → va_S A st.heap H locs → ∀ (ls : Array Slot), lv_has ls 2 [(1, .int (nI (trL (gS ss) (ss 1) m0))), (0, .ref ma)] → W p l ev R st mi args below meth cd H locs 0 0 Q (F0 mi 12 ls []) := by
    intro fu
    induction fu with
    | zero => intro m0 hm0 hs0 hfu; exact absurd hfu (Nat.not_lt_zero _)
    | succ fu ih12 =>
      intro m0 hm0 hs0 hfu H locs hP hD hS ls hl
      refine lv_iload_n hx hb dX7_finds_12 rfl (lv_at hl 0 rfl) ?_
      refine nb_if_eq (tgt := 66) hx hb (Nat.lt_trans (trL_lt _ hw _) (by decide)) dX7_finds_13 (by decide) (fun c_13 => ?_) (fun c_13 => ?_)
      · skip
        have hc9 := trC_eq hw c_13 hs0
        exact hret () (cp_w hP (by rw [hc9])) hS (trivial) dX7_finds_66
      · skip
        obtain ⟨hl0, hl1, hl2⟩ := low_spec (trL_lt (gS ss) hw m0) c_13
        have hn9 := lt_n h1 (trL_in hl1)
        have hm9 := (trC_iff hw).mp c_13
        have hm8 := (trC_spec (gS ss) hw).1
        refine lv_aload_n hx hb dX7_finds_16 rfl (lv_at hl 1 rfl) ?_
        refine va_get (D := Γ.1) (ci := 7) (v := .ref mr) (C := RX7) (T := TX7) (N := 15) hx hb hts hinX7 hown hK.1 hP 0 rfl rfl 9 (by decide) (hts _ mw_406) (fun _ h9 => h9) rfl dX7_finds_17 ?_
        refine lv_aload_n hx hb dX7_finds_20 rfl (lv_at hl 1 rfl) ?_
        refine va_get (D := Γ.1) (ci := 7) (v := .int (nI m0)) (C := RX7) (T := TX7) (N := 15) hx hb hts hinX7 hown hK.1 hP 0 rfl rfl 10 (by decide) (hts _ mw_450) (fun _ h9 => h9) rfl dX7_finds_21 ?_
        refine lv_aload_n hx hb dX7_finds_24 rfl (lv_at hl 1 rfl) ?_
        refine lv_iload_n hx hb dX7_finds_25 rfl (lv_at hl 0 rfl) ?_
        refine ro_fin (va_runS (As := [.int (nI (trL (gS ss) (ss 1) m0))]) (rest := [.ref ma, .int (nI m0), .ref mr]) ⟨hx, hb, hml, hown, hts⟩ (c_X7_lowest l Γ _ (trL (gS ss) (ss 1) m0) (trL_lt _ hw _)) (kcwS 1 hts kv_X7_lowest mw_451 (rm_le hR (Nat.le_of_ble_eq_true rfl) (Nat.le_of_ble_eq_true rfl))) (kPc_S hK) rfl rfl hl.1 rfl (lv_room (Nat.le_of_ble_eq_true rfl)) dX7_finds_26 ⟨Nat.zero_le _, Nat.zero_le _⟩) hS (fun locs hS => ?_)
        refine tp_i (y := (nI (low (trL (gS ss) (ss 1) m0)))) (by rw [loI, if_neg c_13]) ?_
        refine lv_aload_n hx hb dX7_finds_29 rfl (lv_at hl 1 rfl) ?_
        refine va_get (D := Γ.1) (ci := 7) (v := .ref ms) (C := RX7) (T := TX7) (N := 15) hx hb hts hinX7 hown hK.1 hP 0 rfl rfl 0 (by decide) (hts _ mw_400) (fun _ h9 => h9) rfl dX7_finds_30 ?_
        refine lv_iconst (v := (nI 1)) hx hb dX7_finds_33 (by decide) ?_
        refine iald_N hx hb hK.1 hP 1 0 rfl rfl (by omega) (by first | decide | assumption) dX7_finds_34 ?_
        refine ro_fin (va_runV (As := [.int (nI (low (trL (gS ss) (ss 1) m0))), .int (nI (ss 1))]) (rest := [.int (nI m0), .ref mr]) ⟨hx, hb, hml, hown, hts⟩ (c_X7_reached l Γ _ ma ms sn0 mk tw0 mt ty0 mb il0 me mr m0 mq mp mw mc ss (low (trL (gS ss) (ss 1) m0)) (ss 1) (hP.sub (ws' := [(ma, .inr (7, [.ref ms, .int (nI sn0), .ref mk, .int (nI tw0), .ref mt, .int (nI ty0), .ref mb, .int (bI il0), .ref me, .ref mr, .int (nI m0), .ref mq, .ref mp, .ref mw, .ref mc])), (ms, .inl (Γ.2 0, 162, .inl (aN ss)))]) [0, 1] rfl) (by first | omega | assumption) (by first | omega | assumption) (by first | omega | assumption)) (kcwV 2 hts kv_X7_reached mw_453 (rm_le hR (Nat.le_of_ble_eq_true rfl) (Nat.le_of_ble_eq_true rfl))) (kPc_V hK (va_recv hK.1 hP (ci := 7) (q0 := 0) rfl rfl)) rfl rfl hl.1 rfl (lv_room (Nat.le_of_ble_eq_true rfl)) dX7_finds_35 ⟨Nat.zero_le _, Nat.zero_le _⟩) hS (fun locs hS => ?_)
        refine tp_i (y := (nI (trA (gS ss) (ss 1) m0))) (by rw [trA_is c_13]) ?_
        refine iast_N hx hb hK.1 hP hD hS 2 0 rfl rfl (by omega) (by first | decide | assumption) dX7_finds_38 (fun H locs hP hD hS => ?_)
        have hP : va_P Γ.1 vwCl [(ma, .inr (7, [.ref ms, .int (nI sn0), .ref mk, .int (nI tw0), .ref mt, .int (nI ty0), .ref mb, .int (bI il0), .ref me, .ref mr, .int (nI m0), .ref mq, .ref mp, .ref mw, .ref mc])), (ms, .inl (Γ.2 0, 162, .inl (aN ss))), (mr, .inl (Γ.2 0, 14, .inl (aN (upN (trS tr (gS ss) (ss 1) m0) m0 (trA (gS ss) (ss 1) m0)))))] H := hP
        have hD : va_D A [(ma, .inr (7, [.ref ms, .int (nI sn0), .ref mk, .int (nI tw0), .ref mt, .int (nI ty0), .ref mb, .int (bI il0), .ref me, .ref mr, .int (nI m0), .ref mq, .ref mp, .ref mw, .ref mc])), (ms, .inl (Γ.2 0, 162, .inl (aN ss))), (mr, .inl (Γ.2 0, 14, .inl (aN (upN (trS tr (gS ss) (ss 1) m0) m0 (trA (gS ss) (ss 1) m0)))))] := hD
        have hP : va_P Γ.1 vwCl [(ma, .inr (7, [.ref ms, .int (nI sn0), .ref mk, .int (nI tw0), .ref mt, .int (nI ty0), .ref mb, .int (bI il0), .ref me, .ref mr, .int (nI m0), .ref mq, .ref mp, .ref mw, .ref mc])), (ms, .inl (Γ.2 0, 162, .inl (aN ss))), (mr, .inl (Γ.2 0, 14, .inl (aN (trS tr (gS ss) (ss 1) (m0 + 1)))))] H := cp_w hP (by rw [trS_s])
        have hD : va_D A [(ma, .inr (7, [.ref ms, .int (nI sn0), .ref mk, .int (nI tw0), .ref mt, .int (nI ty0), .ref mb, .int (bI il0), .ref me, .ref mr, .int (nI m0), .ref mq, .ref mp, .ref mw, .ref mc])), (ms, .inl (Γ.2 0, 162, .inl (aN ss))), (mr, .inl (Γ.2 0, 14, .inl (aN (trS tr (gS ss) (ss 1) (m0 + 1)))))] := va_D_fst (by rfl) hD
        refine lv_iload_n hx hb dX7_finds_39 rfl (lv_at hl 0 rfl) ?_
        refine lv_aload_n hx hb dX7_finds_40 rfl (lv_at hl 1 rfl) ?_
        refine va_get (D := Γ.1) (ci := 7) (v := .ref mr) (C := RX7) (T := TX7) (N := 15) hx hb hts hinX7 hown hK.1 hP 0 rfl rfl 9 (by decide) (hts _ mw_406) (fun _ h9 => h9) rfl dX7_finds_41 ?_
        refine lv_aload_n hx hb dX7_finds_44 rfl (lv_at hl 1 rfl) ?_
        refine va_get (D := Γ.1) (ci := 7) (v := .int (nI m0)) (C := RX7) (T := TX7) (N := 15) hx hb hts hinX7 hown hK.1 hP 0 rfl rfl 10 (by decide) (hts _ mw_450) (fun _ h9 => h9) rfl dX7_finds_45 ?_
        refine iald_N hx hb hK.1 hP 2 0 rfl rfl (by omega) (by first | decide | assumption) dX7_finds_48 ?_
        refine tp_i (y := (nI (trA (gS ss) (ss 1) m0))) (by rw [trS_at (Nat.lt_succ_self _)]) ?_
        refine lv_iconst (v := (-1)) hx hb dX7_finds_49 (by decide) ?_
        refine lv_ixor hx hb dX7_finds_50 ?_
        refine lv_iand hx hb dX7_finds_51 ?_
        refine tp_i (y := (nI (sd (trL (gS ss) (ss 1) m0) (trA (gS ss) (ss 1) m0)))) (ni_sd _ _) ?_
        refine tp_i (y := (nI (trL (gS ss) (ss 1) (m0 + 1)))) (by rw [trL, trA_is c_13]) ?_
        refine lv_istore_n (lv' := [(1, .int (nI (trL (gS ss) (ss 1) (m0 + 1)))), (0, .ref ma)]) hx hb dX7_finds_52 rfl hl (by decide) rfl (fun ls hl => ?_)
        refine lv_aload_n hx hb dX7_finds_53 rfl (lv_at hl 1 rfl) ?_
        refine lv_dup hx hb dX7_finds_54 rfl ?_
        refine va_get (D := Γ.1) (ci := 7) (v := .int (nI m0)) (C := RX7) (T := TX7) (N := 15) hx hb hts hinX7 hown hK.1 hP 0 rfl rfl 10 (by decide) (hts _ mw_450) (fun _ h9 => h9) rfl dX7_finds_55 ?_
        refine lv_iconst (v := (nI 1)) hx hb dX7_finds_58 (by decide) ?_
        refine lv_iadd hx hb dX7_finds_59 ?_
        refine tp_i (y := (nI (m0 + 1))) (nI_add _ _) ?_
        refine va_put (D := Γ.1) (ci := 7) (v := .int (nI (m0 + 1))) (ty := .int) (C := RX7) (T := TX7) (N := 15) hx hb hts hinX7 tyX7 tyX7_ok nmX7 hown hK.1 hP hD hS 0 rfl rfl 10 (by decide) (hts _ mw_450) (fun _ h9 => h9) rfl (by decide +kernel) rfl rfl (Nat.le_of_ble_eq_true rfl) dX7_finds_60 (fun H locs hP hD hS => ?_)
        have hP : va_P Γ.1 vwCl [(ma, .inr (7, [.ref ms, .int (nI sn0), .ref mk, .int (nI tw0), .ref mt, .int (nI ty0), .ref mb, .int (bI il0), .ref me, .ref mr, .int (nI (m0 + 1)), .ref mq, .ref mp, .ref mw, .ref mc])), (ms, .inl (Γ.2 0, 162, .inl (aN ss))), (mr, .inl (Γ.2 0, 14, .inl (aN (trS tr (gS ss) (ss 1) (m0 + 1)))))] H := hP
        have hD : va_D A [(ma, .inr (7, [.ref ms, .int (nI sn0), .ref mk, .int (nI tw0), .ref mt, .int (nI ty0), .ref mb, .int (bI il0), .ref me, .ref mr, .int (nI (m0 + 1)), .ref mq, .ref mp, .ref mw, .ref mc])), (ms, .inl (Γ.2 0, 162, .inl (aN ss))), (mr, .inl (Γ.2 0, 14, .inl (aN (trS tr (gS ss) (ss 1) (m0 + 1)))))] := hD
        refine lv_goto (tgt := 12) hx hb dX7_finds_63 (by decide) ?_
        exact ih12 (m0 + 1) (by first | omega | assumption) (lt_s hs0 c_13) (by omega) _ _ hP hD hS ls (lv_sub hl [0, 1] rfl)
  exact LP12 ((14 - 0) + 1) 0 (by first | omega | assumption) (fun i9 h9 => absurd h9 (Nat.not_lt_zero _)) (Nat.lt_succ_self _) _ _ (cp_w hP (by rw [trS_0])) (va_D_fst (by rfl) hD) hS ls (lv_sub hl [0, 1] rfl)
