set_option maxHeartbeats 8000000 in
set_option maxRecDepth 100000 in
theorem c_X7_saves (l : Launch) (Γ : kG) (ma : Nat) (ms : Nat) (sn0 : Nat) (mk : Nat) (tw0 : Nat) (mt : Nat) (ty0 : Nat) (mb : Nat) (il0 : Bool) (me : Nat) (mr : Nat) (my0 : Nat) (mq : Nat) (mp : Nat) (mw : Nat) (mc : Nat) (ss : Nat → Nat) (hsn : sn0 ≤ 6) : WRv l yX7_saves (wsq yX7_saves cX7_saves 3 none) (rmL 2) Γ [.ref ma] [(ma, .inr (7, [.ref ms, .int (nI sn0), .ref mk, .int (nI tw0), .ref mt, .int (nI ty0), .ref mb, .int (bI il0), .ref me, .ref mr, .int (nI my0), .ref mq, .ref mp, .ref mw, .ref mc])), (ms, .inl (Γ.2 0, 162, .inl (aN ss)))] (fun u : Unit => [(ma, .inr (7, [.ref ms, .int (nI (svN sn0)), .ref mk, .int (nI tw0), .ref mt, .int (nI ty0), .ref mb, .int (bI il0), .ref me, .ref mr, .int (nI my0), .ref mq, .ref mp, .ref mw, .ref mc])), (ms, .inl (Γ.2 0, 162, .inl (aN (svM ss sn0))))]) (fun u : Unit => True) := by
  refine wr_ofv (cc := cX7_saves) (maxL := 3) (by decide +kernel) (Nat.le_of_ble_eq_true rfl) rfl ?_
  intro p ev R st mi args below meth cd Q A ls C0 hR hret hP hD hS hl
  obtain ⟨hx, hb, hr, hml, hown, hts, hlk, hK, hnm⟩ := C0
  have hown : st.vm.findClass RX7 = some mi.cls := hown
  refine lv_aload_n hx hb dX7_saves_0 rfl (lv_at hl 0 rfl) ?_
  refine va_get (D := Γ.1) (ci := 7) (v := .int (bI il0)) (C := RX7) (T := TX7) (N := 15) hx hb hts hinX7 hown hK.1 hP 0 rfl rfl 7 (by decide) (hts _ mw_419) (fun _ h9 => h9) rfl dX7_saves_1 ?_
  refine lv_istore_n (lv' := [(1, .int (bI il0)), (0, .ref ma)]) hx hb dX7_saves_4 rfl hl (by decide) rfl (fun ls hl => ?_)
  refine lv_aload_n hx hb dX7_saves_5 rfl (lv_at hl 1 rfl) ?_
  refine va_get (D := Γ.1) (ci := 7) (v := .int (nI sn0)) (C := RX7) (T := TX7) (N := 15) hx hb hts hinX7 hown hK.1 hP 0 rfl rfl 1 (by decide) (hts _ mw_421) (fun _ h9 => h9) rfl dX7_saves_6 ?_
  refine lv_bipush (v := (nI 6)) hx hb dX7_saves_9 (by decide) ?_
  refine nb_icmp_ne (tgt := 46) hx hb (by first | omega | assumption) (by first | omega | assumption) dX7_saves_11 (by decide) (fun c_11 => ?_) (fun c_11 => ?_)
  · skip
    refine lv_aload_n hx hb dX7_saves_46 rfl (lv_at hl 1 rfl) ?_
    refine lv_dup hx hb dX7_saves_47 rfl ?_
    refine va_get (D := Γ.1) (ci := 7) (v := .int (nI sn0)) (C := RX7) (T := TX7) (N := 15) hx hb hts hinX7 hown hK.1 hP 0 rfl rfl 1 (by decide) (hts _ mw_421) (fun _ h9 => h9) rfl dX7_saves_48 ?_
    refine lv_iconst (v := (nI 1)) hx hb dX7_saves_51 (by decide) ?_
    refine lv_iadd hx hb dX7_saves_52 ?_
    refine tp_i (y := (nI (sn0 + 1))) (nI_add _ _) ?_
    refine va_put (D := Γ.1) (ci := 7) (v := .int (nI (sn0 + 1))) (ty := .int) (C := RX7) (T := TX7) (N := 15) hx hb hts hinX7 tyX7 tyX7_ok nmX7 hown hK.1 hP hD hS 0 rfl rfl 1 (by decide) (hts _ mw_421) (fun _ h9 => h9) rfl (by decide +kernel) rfl rfl (Nat.le_of_ble_eq_true rfl) dX7_saves_53 (fun H locs hP hD hS => ?_)
    have hP : va_P Γ.1 vwCl [(ma, .inr (7, [.ref ms, .int (nI (sn0 + 1)), .ref mk, .int (nI tw0), .ref mt, .int (nI ty0), .ref mb, .int (bI il0), .ref me, .ref mr, .int (nI my0), .ref mq, .ref mp, .ref mw, .ref mc])), (ms, .inl (Γ.2 0, 162, .inl (aN ss)))] H := hP
    have hD : va_D A [(ma, .inr (7, [.ref ms, .int (nI (sn0 + 1)), .ref mk, .int (nI tw0), .ref mt, .int (nI ty0), .ref mb, .int (bI il0), .ref me, .ref mr, .int (nI my0), .ref mq, .ref mp, .ref mw, .ref mc])), (ms, .inl (Γ.2 0, 162, .inl (aN ss)))] := hD
    refine lv_aload_n hx hb dX7_saves_56 rfl (lv_at hl 1 rfl) ?_
    refine lv_iconst (v := (nI 0)) hx hb dX7_saves_57 (by decide) ?_
    refine lv_aload_n hx hb dX7_saves_58 rfl (lv_at hl 1 rfl) ?_
    refine va_get (D := Γ.1) (ci := 7) (v := .int (nI (sn0 + 1))) (C := RX7) (T := TX7) (N := 15) hx hb hts hinX7 hown hK.1 hP 0 rfl rfl 1 (by decide) (hts _ mw_421) (fun _ h9 => h9) rfl dX7_saves_59 ?_
    refine wr_finv (va_runV (As := [.int (nI 0), .int (nI (sn0 + 1))]) (rest := []) ⟨hx, hb, hml, hown, hts⟩ (c_X7_copies l Γ ma ms (sn0 + 1) mk tw0 mt ty0 mb il0 me mr my0 mq mp mw mc ss 0 (sn0 + 1) (by omega) (by omega) (by omega)) (kcwV 2 hts kv_X7_copies mw_422 (rm_le hR (Nat.le_of_ble_eq_true rfl) (Nat.le_of_ble_eq_true rfl))) (kPw_V hK (va_recv hK.1 hP (ci := 7) (q0 := 0) rfl rfl) (hP.sub (ws' := [(ma, .inr (7, [.ref ms, .int (nI (sn0 + 1)), .ref mk, .int (nI tw0), .ref mt, .int (nI ty0), .ref mb, .int (bI il0), .ref me, .ref mr, .int (nI my0), .ref mq, .ref mp, .ref mw, .ref mc])), (ms, .inl (Γ.2 0, 162, .inl (aN ss)))]) [0, 1] rfl) (hD.sub (ws' := [(ma, .inr (7, [.ref ms, .int (nI (sn0 + 1)), .ref mk, .int (nI tw0), .ref mt, .int (nI ty0), .ref mb, .int (bI il0), .ref me, .ref mr, .int (nI my0), .ref mq, .ref mp, .ref mw, .ref mc])), (ms, .inl (Γ.2 0, 162, .inl (aN ss)))]) [0, 1] (by decide) rfl)) rfl rfl hl.1 rfl (lv_room (Nat.le_of_ble_eq_true rfl)) dX7_saves_62 ⟨Nat.zero_le _, Nat.zero_le _⟩) hP hD hS [0, 1] rfl (fun _ => rfl) (fun _ H locs hw hP hD hS => ?_)
    have hP : va_P Γ.1 vwCl [(ma, .inr (7, [.ref ms, .int (nI (sn0 + 1)), .ref mk, .int (nI tw0), .ref mt, .int (nI ty0), .ref mb, .int (bI false), .ref me, .ref mr, .int (nI my0), .ref mq, .ref mp, .ref mw, .ref mc])), (ms, .inl (Γ.2 0, 162, .inl (aN (cpB ss 0 (sn0 + 1) 18))))] H := hP
    have hD : va_D A [(ma, .inr (7, [.ref ms, .int (nI (sn0 + 1)), .ref mk, .int (nI tw0), .ref mt, .int (nI ty0), .ref mb, .int (bI false), .ref me, .ref mr, .int (nI my0), .ref mq, .ref mp, .ref mw, .ref mc])), (ms, .inl (Γ.2 0, 162, .inl (aN (cpB ss 0 (sn0 + 1) 18))))] := hD
    refine lv_aload_n hx hb dX7_saves_65 rfl (lv_at hl 1 rfl) ?_
    refine lv_iload_n hx hb dX7_saves_66 rfl (lv_at hl 0 rfl) ?_
    refine va_put (D := Γ.1) (ci := 7) (v := .int (bI il0)) (ty := .boolean) (C := RX7) (T := TX7) (N := 15) hx hb hts hinX7 tyX7 tyX7_ok nmX7 hown hK.1 hP hD hS 0 rfl rfl 7 (by decide) (hts _ mw_419) (fun _ h9 => h9) rfl (by decide +kernel) (bI_nar _) (bI_fit _) (Nat.le_of_ble_eq_true rfl) dX7_saves_67 (fun H locs hP hD hS => ?_)
    have hP : va_P Γ.1 vwCl [(ma, .inr (7, [.ref ms, .int (nI (sn0 + 1)), .ref mk, .int (nI tw0), .ref mt, .int (nI ty0), .ref mb, .int (bI il0), .ref me, .ref mr, .int (nI my0), .ref mq, .ref mp, .ref mw, .ref mc])), (ms, .inl (Γ.2 0, 162, .inl (aN (cpB ss 0 (sn0 + 1) 18))))] H := hP
    have hD : va_D A [(ma, .inr (7, [.ref ms, .int (nI (sn0 + 1)), .ref mk, .int (nI tw0), .ref mt, .int (nI ty0), .ref mb, .int (bI il0), .ref me, .ref mr, .int (nI my0), .ref mq, .ref mp, .ref mw, .ref mc])), (ms, .inl (Γ.2 0, 162, .inl (aN (cpB ss 0 (sn0 + 1) 18))))] := hD
    exact hret () (cp_w hP (by rw [svM, svN, if_neg c_11, if_neg c_11])) hS (trivial) dX7_saves_70
  · skip
    subst c_11
    refine lv_iconst (v := (nI 1)) hx hb dX7_saves_14 (by decide) ?_
    refine lv_istore_n (lv' := [(2, .int (nI 1)), (1, .int (bI il0)), (0, .ref ma)]) hx hb dX7_saves_15 rfl hl (by decide) rfl (fun ls hl => ?_)
    have LP16 : ∀ (fu : Nat) (j0 : Nat) (b9 : Bool) (hj0 : j0 ≤ 5), (5 - j0) < fu → ∀ (H : Heap) (locs : List Loc), va_P Γ.1 vwCl [(ma, .inr (7, [.ref ms, .int (nI 6), .ref mk, .int (nI tw0), .ref mt, .int (nI ty0), .ref mb, .int (bI b9), .ref me, .ref mr, .int (nI my0), .ref mq, .ref mp, .ref mw, .ref mc])), (ms, .inl (Γ.2 0, 162, .inl (aN (shB ss j0))))] H → va_D A [(ma, .inr (7, [.ref ms, .int (nI 6), .ref mk, .int (nI tw0), .ref mt, .int (nI ty0), .ref mb, .int (bI b9), .ref me, .ref mr, .int (nI my0), .ref mq, .ref mp, .ref mw, .ref mc])), (ms, .inl (Γ.2 0, 162, .inl (aN (shB ss j0))))] → va_S A st.heap H locs → ∀ (ls : Array Slot), lv_has ls 3 [(2, .int (nI (j0 + 1))), (1, .int (bI il0)), (0, .ref ma)] → W p l ev R st mi args below meth cd H locs 0 0 Q (F0 mi 16 ls []) := by
      intro fu
      induction fu with
      | zero => intro j0 b9 hj0 hfu; exact absurd hfu (Nat.not_lt_zero _)
      | succ fu ih16 =>
        intro j0 b9 hj0 hfu H locs hP hD hS ls hl
        refine lv_iload_n hx hb dX7_saves_16 rfl (lv_at hl 0 rfl) ?_
        refine lv_bipush (v := (nI 6)) hx hb dX7_saves_17 (by decide) ?_
        refine nb_icmp_ge (tgt := 36) hx hb (by first | omega | assumption) (by first | omega | assumption) dX7_saves_19 (by decide) (fun c_19 => ?_) (fun c_19 => ?_)
        · skip
          obtain rfl : j0 = 5 := by omega
          refine lv_aload_n hx hb dX7_saves_36 rfl (lv_at hl 2 rfl) ?_
          refine lv_dup hx hb dX7_saves_37 rfl ?_
          refine va_get (D := Γ.1) (ci := 7) (v := .int (nI 6)) (C := RX7) (T := TX7) (N := 15) hx hb hts hinX7 hown hK.1 hP 0 rfl rfl 1 (by decide) (hts _ mw_421) (fun _ h9 => h9) rfl dX7_saves_38 ?_
          refine lv_iconst (v := (nI 1)) hx hb dX7_saves_41 (by decide) ?_
          refine lv_isub hx hb dX7_saves_42 ?_
          refine tp_i (y := (nI (6 - 1))) (ni_sub (by omega)) ?_
          refine va_put (D := Γ.1) (ci := 7) (v := .int (nI (6 - 1))) (ty := .int) (C := RX7) (T := TX7) (N := 15) hx hb hts hinX7 tyX7 tyX7_ok nmX7 hown hK.1 hP hD hS 0 rfl rfl 1 (by decide) (hts _ mw_421) (fun _ h9 => h9) rfl (by decide +kernel) rfl rfl (Nat.le_of_ble_eq_true rfl) dX7_saves_43 (fun H locs hP hD hS => ?_)
          have hP : va_P Γ.1 vwCl [(ma, .inr (7, [.ref ms, .int (nI (6 - 1)), .ref mk, .int (nI tw0), .ref mt, .int (nI ty0), .ref mb, .int (bI b9), .ref me, .ref mr, .int (nI my0), .ref mq, .ref mp, .ref mw, .ref mc])), (ms, .inl (Γ.2 0, 162, .inl (aN (shB ss 5))))] H := hP
          have hD : va_D A [(ma, .inr (7, [.ref ms, .int (nI (6 - 1)), .ref mk, .int (nI tw0), .ref mt, .int (nI ty0), .ref mb, .int (bI b9), .ref me, .ref mr, .int (nI my0), .ref mq, .ref mp, .ref mw, .ref mc])), (ms, .inl (Γ.2 0, 162, .inl (aN (shB ss 5))))] := hD
          refine lv_aload_n hx hb dX7_saves_46 rfl (lv_at hl 2 rfl) ?_
          refine lv_dup hx hb dX7_saves_47 rfl ?_
          refine va_get (D := Γ.1) (ci := 7) (v := .int (nI (6 - 1))) (C := RX7) (T := TX7) (N := 15) hx hb hts hinX7 hown hK.1 hP 0 rfl rfl 1 (by decide) (hts _ mw_421) (fun _ h9 => h9) rfl dX7_saves_48 ?_
          refine lv_iconst (v := (nI 1)) hx hb dX7_saves_51 (by decide) ?_
          refine lv_iadd hx hb dX7_saves_52 ?_
          refine tp_i (y := (nI ((6 - 1) + 1))) (nI_add _ _) ?_
          refine va_put (D := Γ.1) (ci := 7) (v := .int (nI ((6 - 1) + 1))) (ty := .int) (C := RX7) (T := TX7) (N := 15) hx hb hts hinX7 tyX7 tyX7_ok nmX7 hown hK.1 hP hD hS 0 rfl rfl 1 (by decide) (hts _ mw_421) (fun _ h9 => h9) rfl (by decide +kernel) rfl rfl (Nat.le_of_ble_eq_true rfl) dX7_saves_53 (fun H locs hP hD hS => ?_)
          have hP : va_P Γ.1 vwCl [(ma, .inr (7, [.ref ms, .int (nI ((6 - 1) + 1)), .ref mk, .int (nI tw0), .ref mt, .int (nI ty0), .ref mb, .int (bI b9), .ref me, .ref mr, .int (nI my0), .ref mq, .ref mp, .ref mw, .ref mc])), (ms, .inl (Γ.2 0, 162, .inl (aN (shB ss 5))))] H := hP
          have hD : va_D A [(ma, .inr (7, [.ref ms, .int (nI ((6 - 1) + 1)), .ref mk, .int (nI tw0), .ref mt, .int (nI ty0), .ref mb, .int (bI b9), .ref me, .ref mr, .int (nI my0), .ref mq, .ref mp, .ref mw, .ref mc])), (ms, .inl (Γ.2 0, 162, .inl (aN (shB ss 5))))] := hD
          refine lv_aload_n hx hb dX7_saves_56 rfl (lv_at hl 2 rfl) ?_
          refine lv_iconst (v := (nI 0)) hx hb dX7_saves_57 (by decide) ?_
          refine lv_aload_n hx hb dX7_saves_58 rfl (lv_at hl 2 rfl) ?_
          refine va_get (D := Γ.1) (ci := 7) (v := .int (nI ((6 - 1) + 1))) (C := RX7) (T := TX7) (N := 15) hx hb hts hinX7 hown hK.1 hP 0 rfl rfl 1 (by decide) (hts _ mw_421) (fun _ h9 => h9) rfl dX7_saves_59 ?_
          refine wr_finv (va_runV (As := [.int (nI 0), .int (nI ((6 - 1) + 1))]) (rest := []) ⟨hx, hb, hml, hown, hts⟩ (c_X7_copies l Γ ma ms ((6 - 1) + 1) mk tw0 mt ty0 mb b9 me mr my0 mq mp mw mc (shB ss 5) 0 ((6 - 1) + 1) (by omega) (by omega) (by omega)) (kcwV 2 hts kv_X7_copies mw_422 (rm_le hR (Nat.le_of_ble_eq_true rfl) (Nat.le_of_ble_eq_true rfl))) (kPw_V hK (va_recv hK.1 hP (ci := 7) (q0 := 0) rfl rfl) (hP.sub (ws' := [(ma, .inr (7, [.ref ms, .int (nI ((6 - 1) + 1)), .ref mk, .int (nI tw0), .ref mt, .int (nI ty0), .ref mb, .int (bI b9), .ref me, .ref mr, .int (nI my0), .ref mq, .ref mp, .ref mw, .ref mc])), (ms, .inl (Γ.2 0, 162, .inl (aN (shB ss 5))))]) [0, 1] rfl) (hD.sub (ws' := [(ma, .inr (7, [.ref ms, .int (nI ((6 - 1) + 1)), .ref mk, .int (nI tw0), .ref mt, .int (nI ty0), .ref mb, .int (bI b9), .ref me, .ref mr, .int (nI my0), .ref mq, .ref mp, .ref mw, .ref mc])), (ms, .inl (Γ.2 0, 162, .inl (aN (shB ss 5))))]) [0, 1] (by decide) rfl)) rfl rfl hl.1 rfl (lv_room (Nat.le_of_ble_eq_true rfl)) dX7_saves_62 ⟨Nat.zero_le _, Nat.zero_le _⟩) hP hD hS [0, 1] rfl (fun _ => rfl) (fun _ H locs hw hP hD hS => ?_)
          have hP : va_P Γ.1 vwCl [(ma, .inr (7, [.ref ms, .int (nI ((6 - 1) + 1)), .ref mk, .int (nI tw0), .ref mt, .int (nI ty0), .ref mb, .int (bI false), .ref me, .ref mr, .int (nI my0), .ref mq, .ref mp, .ref mw, .ref mc])), (ms, .inl (Γ.2 0, 162, .inl (aN (cpB (shB ss 5) 0 ((6 - 1) + 1) 18))))] H := hP
          have hD : va_D A [(ma, .inr (7, [.ref ms, .int (nI ((6 - 1) + 1)), .ref mk, .int (nI tw0), .ref mt, .int (nI ty0), .ref mb, .int (bI false), .ref me, .ref mr, .int (nI my0), .ref mq, .ref mp, .ref mw, .ref mc])), (ms, .inl (Γ.2 0, 162, .inl (aN (cpB (shB ss 5) 0 ((6 - 1) + 1) 18))))] := hD
          refine lv_aload_n hx hb dX7_saves_65 rfl (lv_at hl 2 rfl) ?_
          refine lv_iload_n hx hb dX7_saves_66 rfl (lv_at hl 1 rfl) ?_
          refine va_put (D := Γ.1) (ci := 7) (v := .int (bI il0)) (ty := .boolean) (C := RX7) (T := TX7) (N := 15) hx hb hts hinX7 tyX7 tyX7_ok nmX7 hown hK.1 hP hD hS 0 rfl rfl 7 (by decide) (hts _ mw_419) (fun _ h9 => h9) rfl (by decide +kernel) (bI_nar _) (bI_fit _) (Nat.le_of_ble_eq_true rfl) dX7_saves_67 (fun H locs hP hD hS => ?_)
          have hP : va_P Γ.1 vwCl [(ma, .inr (7, [.ref ms, .int (nI ((6 - 1) + 1)), .ref mk, .int (nI tw0), .ref mt, .int (nI ty0), .ref mb, .int (bI il0), .ref me, .ref mr, .int (nI my0), .ref mq, .ref mp, .ref mw, .ref mc])), (ms, .inl (Γ.2 0, 162, .inl (aN (cpB (shB ss 5) 0 ((6 - 1) + 1) 18))))] H := hP
          have hD : va_D A [(ma, .inr (7, [.ref ms, .int (nI ((6 - 1) + 1)), .ref mk, .int (nI tw0), .ref mt, .int (nI ty0), .ref mb, .int (bI il0), .ref me, .ref mr, .int (nI my0), .ref mq, .ref mp, .ref mw, .ref mc])), (ms, .inl (Γ.2 0, 162, .inl (aN (cpB (shB ss 5) 0 ((6 - 1) + 1) 18))))] := hD
          exact hret () hP hS (trivial) dX7_saves_70
        · skip
          refine lv_aload_n hx hb dX7_saves_22 rfl (lv_at hl 2 rfl) ?_
          refine lv_iload_n hx hb dX7_saves_23 rfl (lv_at hl 0 rfl) ?_
          refine lv_iconst (v := (nI 1)) hx hb dX7_saves_24 (by decide) ?_
          refine lv_iadd hx hb dX7_saves_25 ?_
          refine tp_i (y := (nI ((j0 + 1) + 1))) (nI_add _ _) ?_
          refine lv_iload_n hx hb dX7_saves_26 rfl (lv_at hl 0 rfl) ?_
          refine wr_finv (va_runV (As := [.int (nI ((j0 + 1) + 1)), .int (nI (j0 + 1))]) (rest := []) ⟨hx, hb, hml, hown, hts⟩ (c_X7_copies l Γ ma ms 6 mk tw0 mt ty0 mb b9 me mr my0 mq mp mw mc (shB ss j0) ((j0 + 1) + 1) (j0 + 1) (by first | omega | assumption) (by first | omega | assumption) (by first | omega | assumption)) (kcwV 2 hts kv_X7_copies mw_422 (rm_le hR (Nat.le_of_ble_eq_true rfl) (Nat.le_of_ble_eq_true rfl))) (kPw_V hK (va_recv hK.1 hP (ci := 7) (q0 := 0) rfl rfl) (hP.sub (ws' := [(ma, .inr (7, [.ref ms, .int (nI 6), .ref mk, .int (nI tw0), .ref mt, .int (nI ty0), .ref mb, .int (bI b9), .ref me, .ref mr, .int (nI my0), .ref mq, .ref mp, .ref mw, .ref mc])), (ms, .inl (Γ.2 0, 162, .inl (aN (shB ss j0))))]) [0, 1] rfl) (hD.sub (ws' := [(ma, .inr (7, [.ref ms, .int (nI 6), .ref mk, .int (nI tw0), .ref mt, .int (nI ty0), .ref mb, .int (bI b9), .ref me, .ref mr, .int (nI my0), .ref mq, .ref mp, .ref mw, .ref mc])), (ms, .inl (Γ.2 0, 162, .inl (aN (shB ss j0))))]) [0, 1] (by decide) rfl)) rfl rfl hl.1 rfl (lv_room (Nat.le_of_ble_eq_true rfl)) dX7_saves_27 ⟨Nat.zero_le _, Nat.zero_le _⟩) hP hD hS [0, 1] rfl (fun _ => rfl) (fun _ H locs hw hP hD hS => ?_)
          have hP : va_P Γ.1 vwCl [(ma, .inr (7, [.ref ms, .int (nI 6), .ref mk, .int (nI tw0), .ref mt, .int (nI ty0), .ref mb, .int (bI false), .ref me, .ref mr, .int (nI my0), .ref mq, .ref mp, .ref mw, .ref mc])), (ms, .inl (Γ.2 0, 162, .inl (aN (cpB (shB ss j0) ((j0 + 1) + 1) (j0 + 1) 18))))] H := hP
          have hD : va_D A [(ma, .inr (7, [.ref ms, .int (nI 6), .ref mk, .int (nI tw0), .ref mt, .int (nI ty0), .ref mb, .int (bI false), .ref me, .ref mr, .int (nI my0), .ref mq, .ref mp, .ref mw, .ref mc])), (ms, .inl (Γ.2 0, 162, .inl (aN (cpB (shB ss j0) ((j0 + 1) + 1) (j0 + 1) 18))))] := hD
          refine lv_iinc (v := (nI ((j0 + 1) + 1))) (lv' := [(2, .int (nI ((j0 + 1) + 1))), (1, .int (bI il0)), (0, .ref ma)]) hx hb dX7_saves_30 hl (k := 0) rfl (nI_1 _) (by decide) rfl (fun ls hl => ?_)
          refine lv_goto (tgt := 16) hx hb dX7_saves_33 (by decide) ?_
          exact ih16 (j0 + 1) false (by first | omega | assumption) (by omega) _ _ hP hD hS ls (lv_sub hl [0, 1, 2] rfl)
    exact LP16 ((5 - 0) + 1) 0 il0 (by first | omega | assumption) (Nat.lt_succ_self _) _ _ hP hD hS ls (lv_sub hl [0, 1, 2] rfl)
