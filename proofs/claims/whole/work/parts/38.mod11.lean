set_option maxHeartbeats 8000000 in
set_option maxRecDepth 100000 in
theorem c_X7_error (l : Launch) (Γ : kG) (H0 : Heap) (ma : Nat) (ms : Nat) (sn0 : Nat) (mk : Nat) (tw0 : Nat) (mt : Nat) (ty0 : Nat) (mb : Nat) (il0 : Bool) (me : Nat) (mr : Nat) (my0 : Nat) (mq : Nat) (mp : Nat) (mw : Nat) (mc : Nat) (tx : Nat → Nat) (hP : va_P Γ.1 vwCl [(ma, .inr (7, [.ref ms, .int (nI sn0), .ref mk, .int (nI tw0), .ref mt, .int (nI ty0), .ref mb, .int (bI il0), .ref me, .ref mr, .int (nI my0), .ref mq, .ref mp, .ref mw, .ref mc])), (mt, .inl (Γ.2 2, 14, .inl (aN tx)))] H0) (hty : ty0 ≤ 14) (htx : ∀ i, i < 14 → tx i < 128) : RO l yX7_error (wsq yX7_error cX7_error 2 (some .int)) (rmL 2) Γ H0 [.ref ma] (nI (fst (wrg tx) ty0)) := by
  refine ro_ofi (cc := cX7_error) (maxL := 2) (by decide +kernel) (Nat.le_of_ble_eq_true rfl) rfl ?_
  intro p ev R st mi args below meth cd Q ls C0 hR hret hh hS hl
  obtain ⟨hx, hb, hr, hml, hown, hts, hlk, hK, hnm⟩ := C0
  have hown : st.vm.findClass RX7 = some mi.cls := hown
  refine lv_iconst (v := (nI 0)) hx hb dX7_error_0 (by decide) ?_
  refine lv_istore_n (lv' := [(1, .int (nI 0)), (0, .ref ma)]) hx hb dX7_error_1 rfl hl (by decide) rfl (fun ls hl => ?_)
  have LP2 : ∀ (fu : Nat) (k0 : Nat) (hk0 : k0 ≤ ty0) (hs0 : ∀ i, i < k0 → wrg tx i = false), (ty0 - k0) < fu → ∀ (locs : List Loc), va_S (fun _ => False) H0 H0 locs → ∀ (ls : Array Slot), lv_has ls 2 [(1, .int (nI k0)), (0, .ref ma)] → W p l ev R st mi args below meth cd H0 locs 0 0 Q (F0 mi 2 ls []) := by
    intro fu
    induction fu with
    | zero => intro k0 hk0 hs0 hfu; exact absurd hfu (Nat.not_lt_zero _)
    | succ fu ih2 =>
      intro k0 hk0 hs0 hfu locs hS ls hl
      refine lv_iload_n hx hb dX7_error_2 rfl (lv_at hl 0 rfl) ?_
      refine lv_aload_n hx hb dX7_error_3 rfl (lv_at hl 1 rfl) ?_
      refine va_get (D := Γ.1) (ci := 7) (v := .int (nI ty0)) (C := RX7) (T := TX7) (N := 15) hx hb hts hinX7 hown hK.1 hP 0 rfl rfl 5 (by decide) (hts _ mw_533) (fun _ h9 => h9) rfl dX7_error_4 ?_
      refine nb_icmp_ge (tgt := 48) hx hb (by first | omega | assumption) (by first | omega | assumption) dX7_error_7 (by decide) (fun c_7 => ?_) (fun c_7 => ?_)
      · skip
        obtain rfl : k0 = ty0 := by omega
        refine lv_aload_n hx hb dX7_error_48 rfl (lv_at hl 1 rfl) ?_
        refine va_get (D := Γ.1) (ci := 7) (v := .int (nI k0)) (C := RX7) (T := TX7) (N := 15) hx hb hts hinX7 hown hK.1 hP 0 rfl rfl 5 (by decide) (hts _ mw_533) (fun _ h9 => h9) rfl dX7_error_49 ?_
        exact hret hS (by rw [fst_all hs0]) dX7_error_52
      · skip
        have hc9 := htx k0 (by omega)
        refine lv_aload_n hx hb dX7_error_10 rfl (lv_at hl 1 rfl) ?_
        refine va_get (D := Γ.1) (ci := 7) (v := .ref mt) (C := RX7) (T := TX7) (N := 15) hx hb hts hinX7 hown hK.1 hP 0 rfl rfl 4 (by decide) (hts _ mw_403) (fun _ h9 => h9) rfl dX7_error_11 ?_
        refine lv_iload_n hx hb dX7_error_14 rfl (lv_at hl 0 rfl) ?_
        refine cald_N hx hb hK.1 hP 1 2 rfl rfl (by omega) (by first | decide | assumption) dX7_error_15 ?_
        refine lv_bipush (v := (nI 46)) hx hb dX7_error_16 (by decide) ?_
        refine nb_icmp_eq (tgt := 42) hx hb (by omega) (by omega) dX7_error_18 (by decide) (fun c_18 => ?_) (fun c_18 => ?_)
        · skip
          have hb9 : wrg tx k0 = false := by rw [wrg, decide_eq_true c_18]; rfl
          refine lv_iinc (v := (nI (k0 + 1))) (lv' := [(1, .int (nI (k0 + 1))), (0, .ref ma)]) hx hb dX7_error_42 hl (k := 0) rfl (nI_1 _) (by decide) rfl (fun ls hl => ?_)
          refine lv_goto (tgt := 2) hx hb dX7_error_45 (by decide) ?_
          exact ih2 (k0 + 1) (by first | omega | assumption) (lt_s hs0 hb9) (by omega) _ hS ls (lv_sub hl [0, 1] rfl)
        · skip
          refine lv_aload_n hx hb dX7_error_21 rfl (lv_at hl 1 rfl) ?_
          refine va_get (D := Γ.1) (ci := 7) (v := .ref mt) (C := RX7) (T := TX7) (N := 15) hx hb hts hinX7 hown hK.1 hP 0 rfl rfl 4 (by decide) (hts _ mw_403) (fun _ h9 => h9) rfl dX7_error_22 ?_
          refine lv_iload_n hx hb dX7_error_25 rfl (lv_at hl 0 rfl) ?_
          refine cald_N hx hb hK.1 hP 1 2 rfl rfl (by omega) (by first | decide | assumption) dX7_error_26 ?_
          refine lv_bipush (v := (nI 97)) hx hb dX7_error_27 (by decide) ?_
          refine lv_isub hx hb dX7_error_29 ?_
          refine tp_i (y := (nI (tx k0) - nI 97)) (rfl) ?_
          refine lv_iconst (v := (nI 0)) hx hb dX7_error_30 (by decide) ?_
          refine lv_iload_n hx hb dX7_error_31 rfl (lv_at hl 0 rfl) ?_
          refine lv_iconst (v := (nI 1)) hx hb dX7_error_32 (by decide) ?_
          refine lv_isub hx hb dX7_error_33 ?_
          refine tp_i (y := (nI k0 - nI 1)) (rfl) ?_
          refine ro_fin (va_runS (As := [.int (nI (tx k0) - nI 97), .int (nI 0), .int (nI k0 - nI 1)]) (rest := []) ⟨hx, hb, hml, hown, hts⟩ (c_X7_in l Γ H0 (nI (tx k0) - nI 97) (nI 0) (nI k0 - nI 1) ) (kcwS 3 hts kv_X7_in mw_427 (rm_le hR (Nat.le_of_ble_eq_true rfl) (Nat.le_of_ble_eq_true rfl))) (kPc_S hK) rfl rfl hl.1 rfl (lv_room (Nat.le_of_ble_eq_true rfl)) dX7_error_34 ⟨Nat.zero_le _, Nat.zero_le _⟩) hS (fun locs hS => ?_)
          refine tp_i (y := (bI (!wrg tx k0))) (by rw [wrg_in (by omega) hc9 c_18]) ?_
          refine nb_ifb_ne (tgt := 42) hx hb dX7_error_37 (by decide) (fun c_37 => ?_) (fun c_37 => ?_)
          · skip
            have hb9 : wrg tx k0 = false := by cases z9 : wrg tx k0 <;> simp_all
            refine lv_iinc (v := (nI (k0 + 1))) (lv' := [(1, .int (nI (k0 + 1))), (0, .ref ma)]) hx hb dX7_error_42 hl (k := 0) rfl (nI_1 _) (by decide) rfl (fun ls hl => ?_)
            refine lv_goto (tgt := 2) hx hb dX7_error_45 (by decide) ?_
            exact ih2 (k0 + 1) (by first | omega | assumption) (lt_s hs0 hb9) (by omega) _ hS ls (lv_sub hl [0, 1] rfl)
          · skip
            have hb9 : wrg tx k0 = true := by cases z9 : wrg tx k0 <;> simp_all
            refine lv_iload_n hx hb dX7_error_40 rfl (lv_at hl 0 rfl) ?_
            exact hret hS (by rw [fst_eq (by omega) hb9 hs0]) dX7_error_41
  exact LP2 ((ty0 - 0) + 1) 0 (by first | omega | assumption) (fun i9 h9 => absurd h9 (Nat.not_lt_zero _)) (Nat.lt_succ_self _) _ hS ls (lv_sub hl [0, 1] rfl)
set_option maxHeartbeats 8000000 in
set_option maxRecDepth 100000 in
theorem c_X7_firstError (l : Launch) (Γ : kG) (ma : Nat) (ms : Nat) (sn0 : Nat) (mk : Nat) (tw0 : Nat) (mt : Nat) (ty0 : Nat) (mb : Nat) (il0 : Bool) (me : Nat) (mr : Nat) (my0 : Nat) (mq : Nat) (mp : Nat) (mw : Nat) (mc : Nat) (tx : Nat → Nat) (hty : ty0 ≤ 14) (htx : ∀ i, i < 14 → tx i < 128) : WRi l yX7_firstError (wsq yX7_firstError cX7_firstError 1 (some .int)) (rmL 3) Γ [.ref ma] [(ma, .inr (7, [.ref ms, .int (nI sn0), .ref mk, .int (nI tw0), .ref mt, .int (nI ty0), .ref mb, .int (bI il0), .ref me, .ref mr, .int (nI my0), .ref mq, .ref mp, .ref mw, .ref mc])), (mt, .inl (Γ.2 2, 14, .inl (aN tx)))] (fun u : Unit => [(ma, .inr (7, [.ref ms, .int (nI sn0), .ref mk, .int (nI 0), .ref mt, .int (nI ty0), .ref mb, .int (bI il0), .ref me, .ref mr, .int (nI my0), .ref mq, .ref mp, .ref mw, .ref mc])), (mt, .inl (Γ.2 2, 14, .inl (aN tx)))]) (fun (r : Int32) (u : Unit) => r = (nI (fst (wrg tx) ty0))) := by
  refine wr_ofi (cc := cX7_firstError) (maxL := 1) (by decide +kernel) (Nat.le_of_ble_eq_true rfl) rfl ?_
  intro p ev R st mi args below meth cd Q A ls C0 hR hret hP hD hS hl
  obtain ⟨hx, hb, hr, hml, hown, hts, hlk, hK, hnm⟩ := C0
  have hown : st.vm.findClass RX7 = some mi.cls := hown
  refine lv_aload_n hx hb dX7_firstError_0 rfl (lv_at hl 0 rfl) ?_
  refine lv_iconst (v := (nI 0)) hx hb dX7_firstError_1 (by decide) ?_
  refine va_put (D := Γ.1) (ci := 7) (v := .int (nI 0)) (ty := .int) (C := RX7) (T := TX7) (N := 15) hx hb hts hinX7 tyX7 tyX7_ok nmX7 hown hK.1 hP hD hS 0 rfl rfl 3 (by decide) (hts _ mw_413) (fun _ h9 => h9) rfl (by decide +kernel) rfl rfl (Nat.le_of_ble_eq_true rfl) dX7_firstError_2 (fun H locs hP hD hS => ?_)
  have hP : va_P Γ.1 vwCl [(ma, .inr (7, [.ref ms, .int (nI sn0), .ref mk, .int (nI 0), .ref mt, .int (nI ty0), .ref mb, .int (bI il0), .ref me, .ref mr, .int (nI my0), .ref mq, .ref mp, .ref mw, .ref mc])), (mt, .inl (Γ.2 2, 14, .inl (aN tx)))] H := hP
  have hD : va_D A [(ma, .inr (7, [.ref ms, .int (nI sn0), .ref mk, .int (nI 0), .ref mt, .int (nI ty0), .ref mb, .int (bI il0), .ref me, .ref mr, .int (nI my0), .ref mq, .ref mp, .ref mw, .ref mc])), (mt, .inl (Γ.2 2, 14, .inl (aN tx)))] := hD
  refine lv_aload_n hx hb dX7_firstError_5 rfl (lv_at hl 0 rfl) ?_
  refine ro_fin (va_runV (As := []) (rest := []) ⟨hx, hb, hml, hown, hts⟩ (c_X7_error l Γ _ ma ms sn0 mk 0 mt ty0 mb il0 me mr my0 mq mp mw mc tx (hP.sub (ws' := [(ma, .inr (7, [.ref ms, .int (nI sn0), .ref mk, .int (nI 0), .ref mt, .int (nI ty0), .ref mb, .int (bI il0), .ref me, .ref mr, .int (nI my0), .ref mq, .ref mp, .ref mw, .ref mc])), (mt, .inl (Γ.2 2, 14, .inl (aN tx)))]) [0, 1] rfl) (by first | omega | assumption) (by first | omega | assumption)) (kcwV 0 hts kv_X7_error mw_537 (rm_le hR (Nat.le_of_ble_eq_true rfl) (Nat.le_of_ble_eq_true rfl))) (kPc_V hK (va_recv hK.1 hP (ci := 7) (q0 := 0) rfl rfl)) rfl rfl hl.1 rfl (lv_room (Nat.le_of_ble_eq_true rfl)) dX7_firstError_6 ⟨Nat.zero_le _, Nat.zero_le _⟩) hS (fun locs hS => ?_)
  exact hret () hP hS (rfl) dX7_firstError_9
set_option maxHeartbeats 8000000 in
set_option maxRecDepth 100000 in
theorem c_X7_append_x (l : Launch) (Γ : kG) (ma : Nat) (ms : Nat) (sn0 : Nat) (mk : Nat) (tw0 : Nat) (mt : Nat) (ty0 : Nat) (mb : Nat) (il0 : Bool) (me : Nat) (mr : Nat) (my0 : Nat) (mq : Nat) (mp : Nat) (mw : Nat) (mc : Nat) (tx : Nat → Nat) (x0 : Int32) (hx0 : ¬ (nI 33 ≤ x0 ∧ x0 ≤ nI 126)) (hty : ty0 ≤ 14) : WRi l yX7_append (wsq yX7_append cX7_append 2 (some .int)) (rmL 2) Γ [.ref ma, .int x0] [(ma, .inr (7, [.ref ms, .int (nI sn0), .ref mk, .int (nI tw0), .ref mt, .int (nI ty0), .ref mb, .int (bI il0), .ref me, .ref mr, .int (nI my0), .ref mq, .ref mp, .ref mw, .ref mc])), (mt, .inl (Γ.2 2, 14, .inl (aN tx)))] (fun u : Unit => [(ma, .inr (7, [.ref ms, .int (nI sn0), .ref mk, .int (nI 1), .ref mt, .int (nI ty0), .ref mb, .int (bI il0), .ref me, .ref mr, .int (nI my0), .ref mq, .ref mp, .ref mw, .ref mc])), (mt, .inl (Γ.2 2, 14, .inl (aN tx)))]) (fun (r : Int32) (u : Unit) => r = (nI 0)) := by
  refine wr_ofi (cc := cX7_append) (maxL := 2) (by decide +kernel) (Nat.le_of_ble_eq_true rfl) rfl ?_
  intro p ev R st mi args below meth cd Q A ls C0 hR hret hP hD hS hl
  obtain ⟨hx, hb, hr, hml, hown, hts, hlk, hK, hnm⟩ := C0
  have hown : st.vm.findClass RX7 = some mi.cls := hown
  refine lv_aload_n hx hb dX7_append_0 rfl (lv_at hl 0 rfl) ?_
  refine lv_iload_n hx hb dX7_append_1 rfl (lv_at hl 1 rfl) ?_
  refine lv_bipush (v := (nI 33)) hx hb dX7_append_2 (by decide) ?_
  refine lv_bipush (v := (nI 126)) hx hb dX7_append_4 (by decide) ?_
  refine ro_fin (va_runS (As := [.int x0, .int (nI 33), .int (nI 126)]) (rest := [.ref ma]) ⟨hx, hb, hml, hown, hts⟩ (c_X7_in l Γ _ x0 (nI 33) (nI 126) ) (kcwS 3 hts kv_X7_in mw_427 (rm_le hR (Nat.le_of_ble_eq_true rfl) (Nat.le_of_ble_eq_true rfl))) (kPc_S hK) rfl rfl hl.1 rfl (lv_room (Nat.le_of_ble_eq_true rfl)) dX7_append_6 ⟨Nat.zero_le _, Nat.zero_le _⟩) hS (fun locs hS => ?_)
  refine tp_i (y := (bI false)) (by rw [decide_eq_false hx0]) ?_
  refine lv_aload_n hx hb dX7_append_9 rfl (lv_at hl 0 rfl) ?_
  refine va_get (D := Γ.1) (ci := 7) (v := .int (nI ty0)) (C := RX7) (T := TX7) (N := 15) hx hb hts hinX7 hown hK.1 hP 0 rfl rfl 5 (by decide) (hts _ mw_533) (fun _ h9 => h9) rfl dX7_append_10 ?_
  refine lv_bipush (v := (nI 14)) hx hb dX7_append_13 (by decide) ?_
  refine nb_icmp_ge (tgt := 22) hx hb (by first | omega | assumption) (by first | omega | assumption) dX7_append_15 (by decide) (fun c_15 => ?_) (fun c_15 => ?_)
  · skip
    refine lv_iconst (v := (nI 0)) hx hb dX7_append_22 (by decide) ?_
    refine wr_fini (va_runV (As := [.int (bI false), .int (nI 0)]) (rest := []) ⟨hx, hb, hml, hown, hts⟩ (c_X7_goes l Γ ma ms sn0 mk tw0 mt ty0 mb il0 me mr my0 mq mp mw mc false false ) (kcwV 2 hts kv_X7_goes mw_494 (rm_le hR (Nat.le_of_ble_eq_true rfl) (Nat.le_of_ble_eq_true rfl))) (kPw_V hK (va_recv hK.1 hP (ci := 7) (q0 := 0) rfl rfl) (hP.sub (ws' := [(ma, .inr (7, [.ref ms, .int (nI sn0), .ref mk, .int (nI tw0), .ref mt, .int (nI ty0), .ref mb, .int (bI il0), .ref me, .ref mr, .int (nI my0), .ref mq, .ref mp, .ref mw, .ref mc]))]) [0] rfl) (hD.sub (ws' := [(ma, .inr (7, [.ref ms, .int (nI sn0), .ref mk, .int (nI tw0), .ref mt, .int (nI ty0), .ref mb, .int (bI il0), .ref me, .ref mr, .int (nI my0), .ref mq, .ref mp, .ref mw, .ref mc]))]) [0] (by decide) rfl)) rfl rfl hl.1 rfl (lv_room (Nat.le_of_ble_eq_true rfl)) dX7_append_23 ⟨Nat.zero_le _, Nat.zero_le _⟩) hP hD hS [0] rfl (fun _ => rfl) (fun r _ H locs hw hP hD hS => ?_)
    obtain rfl := hw
    have hP : va_P Γ.1 vwCl [(ma, .inr (7, [.ref ms, .int (nI sn0), .ref mk, .int (nI (gz false false)), .ref mt, .int (nI ty0), .ref mb, .int (bI il0), .ref me, .ref mr, .int (nI my0), .ref mq, .ref mp, .ref mw, .ref mc])), (mt, .inl (Γ.2 2, 14, .inl (aN tx)))] H := hP
    have hD : va_D A [(ma, .inr (7, [.ref ms, .int (nI sn0), .ref mk, .int (nI (gz false false)), .ref mt, .int (nI ty0), .ref mb, .int (bI il0), .ref me, .ref mr, .int (nI my0), .ref mq, .ref mp, .ref mw, .ref mc])), (mt, .inl (Γ.2 2, 14, .inl (aN tx)))] := hD
    refine tp_i (y := (bI false)) (rfl) ?_
    refine nb_ifb_ne (tgt := 31) hx hb dX7_append_26 (by decide) (fun c_26 => by exfalso; exact absurd c_26 (by decide)) (fun c_26 => ?_)
    refine lv_iconst (v := (nI 0)) hx hb dX7_append_29 (by decide) ?_
    exact hret () hP hS (rfl) dX7_append_30
  · skip
    refine lv_iconst (v := (nI 1)) hx hb dX7_append_18 (by decide) ?_
    refine lv_goto (tgt := 23) hx hb dX7_append_19 (by decide) ?_
    refine wr_fini (va_runV (As := [.int (bI false), .int (nI 1)]) (rest := []) ⟨hx, hb, hml, hown, hts⟩ (c_X7_goes l Γ ma ms sn0 mk tw0 mt ty0 mb il0 me mr my0 mq mp mw mc false true ) (kcwV 2 hts kv_X7_goes mw_494 (rm_le hR (Nat.le_of_ble_eq_true rfl) (Nat.le_of_ble_eq_true rfl))) (kPw_V hK (va_recv hK.1 hP (ci := 7) (q0 := 0) rfl rfl) (hP.sub (ws' := [(ma, .inr (7, [.ref ms, .int (nI sn0), .ref mk, .int (nI tw0), .ref mt, .int (nI ty0), .ref mb, .int (bI il0), .ref me, .ref mr, .int (nI my0), .ref mq, .ref mp, .ref mw, .ref mc]))]) [0] rfl) (hD.sub (ws' := [(ma, .inr (7, [.ref ms, .int (nI sn0), .ref mk, .int (nI tw0), .ref mt, .int (nI ty0), .ref mb, .int (bI il0), .ref me, .ref mr, .int (nI my0), .ref mq, .ref mp, .ref mw, .ref mc]))]) [0] (by decide) rfl)) rfl rfl hl.1 rfl (lv_room (Nat.le_of_ble_eq_true rfl)) dX7_append_23 ⟨Nat.zero_le _, Nat.zero_le _⟩) hP hD hS [0] rfl (fun _ => rfl) (fun r _ H locs hw hP hD hS => ?_)
    obtain rfl := hw
    have hP : va_P Γ.1 vwCl [(ma, .inr (7, [.ref ms, .int (nI sn0), .ref mk, .int (nI (gz false true)), .ref mt, .int (nI ty0), .ref mb, .int (bI il0), .ref me, .ref mr, .int (nI my0), .ref mq, .ref mp, .ref mw, .ref mc])), (mt, .inl (Γ.2 2, 14, .inl (aN tx)))] H := hP
    have hD : va_D A [(ma, .inr (7, [.ref ms, .int (nI sn0), .ref mk, .int (nI (gz false true)), .ref mt, .int (nI ty0), .ref mb, .int (bI il0), .ref me, .ref mr, .int (nI my0), .ref mq, .ref mp, .ref mw, .ref mc])), (mt, .inl (Γ.2 2, 14, .inl (aN tx)))] := hD
    refine tp_i (y := (bI false)) (rfl) ?_
    refine nb_ifb_ne (tgt := 31) hx hb dX7_append_26 (by decide) (fun c_26 => by exfalso; exact absurd c_26 (by decide)) (fun c_26 => ?_)
    refine lv_iconst (v := (nI 0)) hx hb dX7_append_29 (by decide) ?_
    exact hret () hP hS (rfl) dX7_append_30
set_option maxHeartbeats 8000000 in
set_option maxRecDepth 100000 in
theorem c_X7_append_f (l : Launch) (Γ : kG) (ma : Nat) (ms : Nat) (sn0 : Nat) (mk : Nat) (tw0 : Nat) (mt : Nat) (ty0 : Nat) (mb : Nat) (il0 : Bool) (me : Nat) (mr : Nat) (my0 : Nat) (mq : Nat) (mp : Nat) (mw : Nat) (mc : Nat) (tx : Nat → Nat) (c0 : Nat) (h33 : 33 ≤ c0) (h126 : c0 ≤ 126) (hty : ty0 = 14) : WRi l yX7_append (wsq yX7_append cX7_append 2 (some .int)) (rmL 2) Γ [.ref ma, .int (nI c0)] [(ma, .inr (7, [.ref ms, .int (nI sn0), .ref mk, .int (nI tw0), .ref mt, .int (nI ty0), .ref mb, .int (bI il0), .ref me, .ref mr, .int (nI my0), .ref mq, .ref mp, .ref mw, .ref mc])), (mt, .inl (Γ.2 2, 14, .inl (aN tx)))] (fun u : Unit => [(ma, .inr (7, [.ref ms, .int (nI sn0), .ref mk, .int (nI 2), .ref mt, .int (nI ty0), .ref mb, .int (bI il0), .ref me, .ref mr, .int (nI my0), .ref mq, .ref mp, .ref mw, .ref mc])), (mt, .inl (Γ.2 2, 14, .inl (aN tx)))]) (fun (r : Int32) (u : Unit) => r = (nI 0)) := by
  refine wr_ofi (cc := cX7_append) (maxL := 2) (by decide +kernel) (Nat.le_of_ble_eq_true rfl) rfl ?_
  intro p ev R st mi args below meth cd Q A ls C0 hR hret hP hD hS hl
  obtain ⟨hx, hb, hr, hml, hown, hts, hlk, hK, hnm⟩ := C0
  have hown : st.vm.findClass RX7 = some mi.cls := hown
  refine lv_aload_n hx hb dX7_append_0 rfl (lv_at hl 0 rfl) ?_
  refine lv_iload_n hx hb dX7_append_1 rfl (lv_at hl 1 rfl) ?_
  refine lv_bipush (v := (nI 33)) hx hb dX7_append_2 (by decide) ?_
  refine lv_bipush (v := (nI 126)) hx hb dX7_append_4 (by decide) ?_
  refine ro_fin (va_runS (As := [.int (nI c0), .int (nI 33), .int (nI 126)]) (rest := [.ref ma]) ⟨hx, hb, hml, hown, hts⟩ (c_X7_in l Γ _ (nI c0) (nI 33) (nI 126) ) (kcwS 3 hts kv_X7_in mw_427 (rm_le hR (Nat.le_of_ble_eq_true rfl) (Nat.le_of_ble_eq_true rfl))) (kPc_S hK) rfl rfl hl.1 rfl (lv_room (Nat.le_of_ble_eq_true rfl)) dX7_append_6 ⟨Nat.zero_le _, Nat.zero_le _⟩) hS (fun locs hS => ?_)
  refine tp_i (y := (bI true)) (by rw [in_t h33 h126 (by decide)]) ?_
  refine lv_aload_n hx hb dX7_append_9 rfl (lv_at hl 0 rfl) ?_
  refine va_get (D := Γ.1) (ci := 7) (v := .int (nI ty0)) (C := RX7) (T := TX7) (N := 15) hx hb hts hinX7 hown hK.1 hP 0 rfl rfl 5 (by decide) (hts _ mw_533) (fun _ h9 => h9) rfl dX7_append_10 ?_
  refine lv_bipush (v := (nI 14)) hx hb dX7_append_13 (by decide) ?_
  refine nb_icmp_ge (tgt := 22) hx hb (by first | omega | assumption) (by first | omega | assumption) dX7_append_15 (by decide) (fun c_15 => ?_) (fun c_15 => by exfalso; omega)
  refine lv_iconst (v := (nI 0)) hx hb dX7_append_22 (by decide) ?_
  refine wr_fini (va_runV (As := [.int (bI true), .int (nI 0)]) (rest := []) ⟨hx, hb, hml, hown, hts⟩ (c_X7_goes l Γ ma ms sn0 mk tw0 mt ty0 mb il0 me mr my0 mq mp mw mc true false ) (kcwV 2 hts kv_X7_goes mw_494 (rm_le hR (Nat.le_of_ble_eq_true rfl) (Nat.le_of_ble_eq_true rfl))) (kPw_V hK (va_recv hK.1 hP (ci := 7) (q0 := 0) rfl rfl) (hP.sub (ws' := [(ma, .inr (7, [.ref ms, .int (nI sn0), .ref mk, .int (nI tw0), .ref mt, .int (nI ty0), .ref mb, .int (bI il0), .ref me, .ref mr, .int (nI my0), .ref mq, .ref mp, .ref mw, .ref mc]))]) [0] rfl) (hD.sub (ws' := [(ma, .inr (7, [.ref ms, .int (nI sn0), .ref mk, .int (nI tw0), .ref mt, .int (nI ty0), .ref mb, .int (bI il0), .ref me, .ref mr, .int (nI my0), .ref mq, .ref mp, .ref mw, .ref mc]))]) [0] (by decide) rfl)) rfl rfl hl.1 rfl (lv_room (Nat.le_of_ble_eq_true rfl)) dX7_append_23 ⟨Nat.zero_le _, Nat.zero_le _⟩) hP hD hS [0] rfl (fun _ => rfl) (fun r _ H locs hw hP hD hS => ?_)
  obtain rfl := hw
  have hP : va_P Γ.1 vwCl [(ma, .inr (7, [.ref ms, .int (nI sn0), .ref mk, .int (nI (gz true false)), .ref mt, .int (nI ty0), .ref mb, .int (bI il0), .ref me, .ref mr, .int (nI my0), .ref mq, .ref mp, .ref mw, .ref mc])), (mt, .inl (Γ.2 2, 14, .inl (aN tx)))] H := hP
  have hD : va_D A [(ma, .inr (7, [.ref ms, .int (nI sn0), .ref mk, .int (nI (gz true false)), .ref mt, .int (nI ty0), .ref mb, .int (bI il0), .ref me, .ref mr, .int (nI my0), .ref mq, .ref mp, .ref mw, .ref mc])), (mt, .inl (Γ.2 2, 14, .inl (aN tx)))] := hD
  refine tp_i (y := (bI false)) (rfl) ?_
  refine nb_ifb_ne (tgt := 31) hx hb dX7_append_26 (by decide) (fun c_26 => by exfalso; exact absurd c_26 (by decide)) (fun c_26 => ?_)
  refine lv_iconst (v := (nI 0)) hx hb dX7_append_29 (by decide) ?_
  exact hret () hP hS (rfl) dX7_append_30
set_option maxHeartbeats 8000000 in
set_option maxRecDepth 100000 in
theorem c_X7_append_a (l : Launch) (Γ : kG) (ma : Nat) (ms : Nat) (sn0 : Nat) (mk : Nat) (tw0 : Nat) (mt : Nat) (ty0 : Nat) (mb : Nat) (il0 : Bool) (me : Nat) (mr : Nat) (my0 : Nat) (mq : Nat) (mp : Nat) (mw : Nat) (mc : Nat) (tx : Nat → Nat) (c0 : Nat) (h33 : 33 ≤ c0) (h126 : c0 ≤ 126) (hty : ty0 < 14) : WRi l yX7_append (wsq yX7_append cX7_append 2 (some .int)) (rmL 2) Γ [.ref ma, .int (nI c0)] [(ma, .inr (7, [.ref ms, .int (nI sn0), .ref mk, .int (nI tw0), .ref mt, .int (nI ty0), .ref mb, .int (bI il0), .ref me, .ref mr, .int (nI my0), .ref mq, .ref mp, .ref mw, .ref mc])), (mt, .inl (Γ.2 2, 14, .inl (aN tx)))] (fun u : Unit => [(ma, .inr (7, [.ref ms, .int (nI sn0), .ref mk, .int (nI 0), .ref mt, .int (nI (ty0 + 1)), .ref mb, .int (bI il0), .ref me, .ref mr, .int (nI my0), .ref mq, .ref mp, .ref mw, .ref mc])), (mt, .inl (Γ.2 2, 14, .inl (aN (upN tx ty0 c0))))]) (fun (r : Int32) (u : Unit) => r = (nI (ty0 + 1))) := by
  refine wr_ofi (cc := cX7_append) (maxL := 2) (by decide +kernel) (Nat.le_of_ble_eq_true rfl) rfl ?_
  intro p ev R st mi args below meth cd Q A ls C0 hR hret hP hD hS hl
  obtain ⟨hx, hb, hr, hml, hown, hts, hlk, hK, hnm⟩ := C0
  have hown : st.vm.findClass RX7 = some mi.cls := hown
  refine lv_aload_n hx hb dX7_append_0 rfl (lv_at hl 0 rfl) ?_
  refine lv_iload_n hx hb dX7_append_1 rfl (lv_at hl 1 rfl) ?_
  refine lv_bipush (v := (nI 33)) hx hb dX7_append_2 (by decide) ?_
  refine lv_bipush (v := (nI 126)) hx hb dX7_append_4 (by decide) ?_
  refine ro_fin (va_runS (As := [.int (nI c0), .int (nI 33), .int (nI 126)]) (rest := [.ref ma]) ⟨hx, hb, hml, hown, hts⟩ (c_X7_in l Γ _ (nI c0) (nI 33) (nI 126) ) (kcwS 3 hts kv_X7_in mw_427 (rm_le hR (Nat.le_of_ble_eq_true rfl) (Nat.le_of_ble_eq_true rfl))) (kPc_S hK) rfl rfl hl.1 rfl (lv_room (Nat.le_of_ble_eq_true rfl)) dX7_append_6 ⟨Nat.zero_le _, Nat.zero_le _⟩) hS (fun locs hS => ?_)
  refine tp_i (y := (bI true)) (by rw [in_t h33 h126 (by decide)]) ?_
  refine lv_aload_n hx hb dX7_append_9 rfl (lv_at hl 0 rfl) ?_
  refine va_get (D := Γ.1) (ci := 7) (v := .int (nI ty0)) (C := RX7) (T := TX7) (N := 15) hx hb hts hinX7 hown hK.1 hP 0 rfl rfl 5 (by decide) (hts _ mw_533) (fun _ h9 => h9) rfl dX7_append_10 ?_
  refine lv_bipush (v := (nI 14)) hx hb dX7_append_13 (by decide) ?_
  refine nb_icmp_ge (tgt := 22) hx hb (by first | omega | assumption) (by first | omega | assumption) dX7_append_15 (by decide) (fun c_15 => by exfalso; omega) (fun c_15 => ?_)
  refine lv_iconst (v := (nI 1)) hx hb dX7_append_18 (by decide) ?_
  refine lv_goto (tgt := 23) hx hb dX7_append_19 (by decide) ?_
  refine wr_fini (va_runV (As := [.int (bI true), .int (nI 1)]) (rest := []) ⟨hx, hb, hml, hown, hts⟩ (c_X7_goes l Γ ma ms sn0 mk tw0 mt ty0 mb il0 me mr my0 mq mp mw mc true true ) (kcwV 2 hts kv_X7_goes mw_494 (rm_le hR (Nat.le_of_ble_eq_true rfl) (Nat.le_of_ble_eq_true rfl))) (kPw_V hK (va_recv hK.1 hP (ci := 7) (q0 := 0) rfl rfl) (hP.sub (ws' := [(ma, .inr (7, [.ref ms, .int (nI sn0), .ref mk, .int (nI tw0), .ref mt, .int (nI ty0), .ref mb, .int (bI il0), .ref me, .ref mr, .int (nI my0), .ref mq, .ref mp, .ref mw, .ref mc]))]) [0] rfl) (hD.sub (ws' := [(ma, .inr (7, [.ref ms, .int (nI sn0), .ref mk, .int (nI tw0), .ref mt, .int (nI ty0), .ref mb, .int (bI il0), .ref me, .ref mr, .int (nI my0), .ref mq, .ref mp, .ref mw, .ref mc]))]) [0] (by decide) rfl)) rfl rfl hl.1 rfl (lv_room (Nat.le_of_ble_eq_true rfl)) dX7_append_23 ⟨Nat.zero_le _, Nat.zero_le _⟩) hP hD hS [0] rfl (fun _ => rfl) (fun r _ H locs hw hP hD hS => ?_)
  obtain rfl := hw
  have hP : va_P Γ.1 vwCl [(ma, .inr (7, [.ref ms, .int (nI sn0), .ref mk, .int (nI (gz true true)), .ref mt, .int (nI ty0), .ref mb, .int (bI il0), .ref me, .ref mr, .int (nI my0), .ref mq, .ref mp, .ref mw, .ref mc])), (mt, .inl (Γ.2 2, 14, .inl (aN tx)))] H := hP
  have hD : va_D A [(ma, .inr (7, [.ref ms, .int (nI sn0), .ref mk, .int (nI (gz true true)), .ref mt, .int (nI ty0), .ref mb, .int (bI il0), .ref me, .ref mr, .int (nI my0), .ref mq, .ref mp, .ref mw, .ref mc])), (mt, .inl (Γ.2 2, 14, .inl (aN tx)))] := hD
  refine tp_i (y := (bI true)) (rfl) ?_
  refine nb_ifb_ne (tgt := 31) hx hb dX7_append_26 (by decide) (fun c_26 => ?_) (fun c_26 => by exfalso; exact absurd c_26 (by decide))
  refine lv_aload_n hx hb dX7_append_31 rfl (lv_at hl 0 rfl) ?_
  refine va_get (D := Γ.1) (ci := 7) (v := .ref mt) (C := RX7) (T := TX7) (N := 15) hx hb hts hinX7 hown hK.1 hP 0 rfl rfl 4 (by decide) (hts _ mw_403) (fun _ h9 => h9) rfl dX7_append_32 ?_
  refine lv_aload_n hx hb dX7_append_35 rfl (lv_at hl 0 rfl) ?_
  refine va_get (D := Γ.1) (ci := 7) (v := .int (nI ty0)) (C := RX7) (T := TX7) (N := 15) hx hb hts hinX7 hown hK.1 hP 0 rfl rfl 5 (by decide) (hts _ mw_533) (fun _ h9 => h9) rfl dX7_append_36 ?_
  refine lv_iload_n hx hb dX7_append_39 rfl (lv_at hl 1 rfl) ?_
  refine lv_i2c (v := (nI c0)) hx hb dX7_append_40 (ni_i2c (by omega)) ?_
  refine cast_N hx hb hK.1 hP hD hS 1 2 rfl rfl (by omega) (by first | decide | assumption) (by omega) dX7_append_41 (fun H locs hP hD hS => ?_)
  have hP : va_P Γ.1 vwCl [(ma, .inr (7, [.ref ms, .int (nI sn0), .ref mk, .int (nI (gz true true)), .ref mt, .int (nI ty0), .ref mb, .int (bI il0), .ref me, .ref mr, .int (nI my0), .ref mq, .ref mp, .ref mw, .ref mc])), (mt, .inl (Γ.2 2, 14, .inl (aN (upN tx ty0 c0))))] H := hP
  have hD : va_D A [(ma, .inr (7, [.ref ms, .int (nI sn0), .ref mk, .int (nI (gz true true)), .ref mt, .int (nI ty0), .ref mb, .int (bI il0), .ref me, .ref mr, .int (nI my0), .ref mq, .ref mp, .ref mw, .ref mc])), (mt, .inl (Γ.2 2, 14, .inl (aN (upN tx ty0 c0))))] := hD
  refine lv_aload_n hx hb dX7_append_42 rfl (lv_at hl 0 rfl) ?_
  refine lv_dup hx hb dX7_append_43 rfl ?_
  refine va_get (D := Γ.1) (ci := 7) (v := .int (nI ty0)) (C := RX7) (T := TX7) (N := 15) hx hb hts hinX7 hown hK.1 hP 0 rfl rfl 5 (by decide) (hts _ mw_533) (fun _ h9 => h9) rfl dX7_append_44 ?_
  refine lv_iconst (v := (nI 1)) hx hb dX7_append_47 (by decide) ?_
  refine lv_iadd hx hb dX7_append_48 ?_
  refine tp_i (y := (nI (ty0 + 1))) (nI_add _ _) ?_
  refine va_put (D := Γ.1) (ci := 7) (v := .int (nI (ty0 + 1))) (ty := .int) (C := RX7) (T := TX7) (N := 15) hx hb hts hinX7 tyX7 tyX7_ok nmX7 hown hK.1 hP hD hS 0 rfl rfl 5 (by decide) (hts _ mw_533) (fun _ h9 => h9) rfl (by decide +kernel) rfl rfl (Nat.le_of_ble_eq_true rfl) dX7_append_49 (fun H locs hP hD hS => ?_)
  have hP : va_P Γ.1 vwCl [(ma, .inr (7, [.ref ms, .int (nI sn0), .ref mk, .int (nI (gz true true)), .ref mt, .int (nI (ty0 + 1)), .ref mb, .int (bI il0), .ref me, .ref mr, .int (nI my0), .ref mq, .ref mp, .ref mw, .ref mc])), (mt, .inl (Γ.2 2, 14, .inl (aN (upN tx ty0 c0))))] H := hP
  have hD : va_D A [(ma, .inr (7, [.ref ms, .int (nI sn0), .ref mk, .int (nI (gz true true)), .ref mt, .int (nI (ty0 + 1)), .ref mb, .int (bI il0), .ref me, .ref mr, .int (nI my0), .ref mq, .ref mp, .ref mw, .ref mc])), (mt, .inl (Γ.2 2, 14, .inl (aN (upN tx ty0 c0))))] := hD
  refine lv_aload_n hx hb dX7_append_52 rfl (lv_at hl 0 rfl) ?_
  refine va_get (D := Γ.1) (ci := 7) (v := .int (nI (ty0 + 1))) (C := RX7) (T := TX7) (N := 15) hx hb hts hinX7 hown hK.1 hP 0 rfl rfl 5 (by decide) (hts _ mw_533) (fun _ h9 => h9) rfl dX7_append_53 ?_
  exact hret () hP hS (rfl) dX7_append_56
set_option maxHeartbeats 8000000 in
set_option maxRecDepth 100000 in
theorem c_X7_keep_x (l : Launch) (Γ : kG) (ma : Nat) (ms : Nat) (sn0 : Nat) (mk : Nat) (tw0 : Nat) (mt : Nat) (ty0 : Nat) (mb : Nat) (il0 : Bool) (me : Nat) (mr : Nat) (my0 : Nat) (mq : Nat) (mp : Nat) (mw : Nat) (mc : Nat) (ss : Nat → Nat) (kp : Nat → Nat) (x0 : Int32) (hx0 : ¬ (nI 0 ≤ x0 ∧ x0 ≤ nI 1)) : WRi l yX7_keep (wsq yX7_keep cX7_keep 2 (some .int)) (rmL 2) Γ [.ref ma, .int x0] [(ma, .inr (7, [.ref ms, .int (nI sn0), .ref mk, .int (nI tw0), .ref mt, .int (nI ty0), .ref mb, .int (bI il0), .ref me, .ref mr, .int (nI my0), .ref mq, .ref mp, .ref mw, .ref mc])), (ms, .inl (Γ.2 0, 162, .inl (aN ss))), (mk, .inl (Γ.2 1, 2, .inl (aN kp)))] (fun u : Unit => [(ma, .inr (7, [.ref ms, .int (nI sn0), .ref mk, .int (nI 1), .ref mt, .int (nI ty0), .ref mb, .int (bI il0), .ref me, .ref mr, .int (nI my0), .ref mq, .ref mp, .ref mw, .ref mc])), (ms, .inl (Γ.2 0, 162, .inl (aN ss))), (mk, .inl (Γ.2 1, 2, .inl (aN kp)))]) (fun (r : Int32) (u : Unit) => r = (nI 0)) := by
  refine wr_ofi (cc := cX7_keep) (maxL := 2) (by decide +kernel) (Nat.le_of_ble_eq_true rfl) rfl ?_
  intro p ev R st mi args below meth cd Q A ls C0 hR hret hP hD hS hl
  obtain ⟨hx, hb, hr, hml, hown, hts, hlk, hK, hnm⟩ := C0
  have hown : st.vm.findClass RX7 = some mi.cls := hown
  refine lv_aload_n hx hb dX7_keep_0 rfl (lv_at hl 0 rfl) ?_
  refine lv_iload_n hx hb dX7_keep_1 rfl (lv_at hl 1 rfl) ?_
  refine lv_iconst (v := (nI 0)) hx hb dX7_keep_2 (by decide) ?_
  refine lv_iconst (v := (nI 1)) hx hb dX7_keep_3 (by decide) ?_
  refine ro_fin (va_runS (As := [.int x0, .int (nI 0), .int (nI 1)]) (rest := [.ref ma]) ⟨hx, hb, hml, hown, hts⟩ (c_X7_in l Γ _ x0 (nI 0) (nI 1) ) (kcwS 3 hts kv_X7_in mw_427 (rm_le hR (Nat.le_of_ble_eq_true rfl) (Nat.le_of_ble_eq_true rfl))) (kPc_S hK) rfl rfl hl.1 rfl (lv_room (Nat.le_of_ble_eq_true rfl)) dX7_keep_4 ⟨Nat.zero_le _, Nat.zero_le _⟩) hS (fun locs hS => ?_)
  refine tp_i (y := (bI false)) (by rw [decide_eq_false hx0]) ?_
  refine lv_iconst (v := (nI 1)) hx hb dX7_keep_7 (by decide) ?_
  refine wr_fini (va_runV (As := [.int (bI false), .int (nI 1)]) (rest := []) ⟨hx, hb, hml, hown, hts⟩ (c_X7_goes l Γ ma ms sn0 mk tw0 mt ty0 mb il0 me mr my0 mq mp mw mc false true ) (kcwV 2 hts kv_X7_goes mw_494 (rm_le hR (Nat.le_of_ble_eq_true rfl) (Nat.le_of_ble_eq_true rfl))) (kPw_V hK (va_recv hK.1 hP (ci := 7) (q0 := 0) rfl rfl) (hP.sub (ws' := [(ma, .inr (7, [.ref ms, .int (nI sn0), .ref mk, .int (nI tw0), .ref mt, .int (nI ty0), .ref mb, .int (bI il0), .ref me, .ref mr, .int (nI my0), .ref mq, .ref mp, .ref mw, .ref mc]))]) [0] rfl) (hD.sub (ws' := [(ma, .inr (7, [.ref ms, .int (nI sn0), .ref mk, .int (nI tw0), .ref mt, .int (nI ty0), .ref mb, .int (bI il0), .ref me, .ref mr, .int (nI my0), .ref mq, .ref mp, .ref mw, .ref mc]))]) [0] (by decide) rfl)) rfl rfl hl.1 rfl (lv_room (Nat.le_of_ble_eq_true rfl)) dX7_keep_8 ⟨Nat.zero_le _, Nat.zero_le _⟩) hP hD hS [0] rfl (fun _ => rfl) (fun r _ H locs hw hP hD hS => ?_)
  obtain rfl := hw
  have hP : va_P Γ.1 vwCl [(ma, .inr (7, [.ref ms, .int (nI sn0), .ref mk, .int (nI (gz false true)), .ref mt, .int (nI ty0), .ref mb, .int (bI il0), .ref me, .ref mr, .int (nI my0), .ref mq, .ref mp, .ref mw, .ref mc])), (ms, .inl (Γ.2 0, 162, .inl (aN ss))), (mk, .inl (Γ.2 1, 2, .inl (aN kp)))] H := hP
  have hD : va_D A [(ma, .inr (7, [.ref ms, .int (nI sn0), .ref mk, .int (nI (gz false true)), .ref mt, .int (nI ty0), .ref mb, .int (bI il0), .ref me, .ref mr, .int (nI my0), .ref mq, .ref mp, .ref mw, .ref mc])), (ms, .inl (Γ.2 0, 162, .inl (aN ss))), (mk, .inl (Γ.2 1, 2, .inl (aN kp)))] := hD
  refine tp_i (y := (bI false)) (rfl) ?_
  refine nb_ifb_ne (tgt := 16) hx hb dX7_keep_11 (by decide) (fun c_11 => by exfalso; exact absurd c_11 (by decide)) (fun c_11 => ?_)
  refine lv_iconst (v := (nI 0)) hx hb dX7_keep_14 (by decide) ?_
  exact hret () hP hS (rfl) dX7_keep_15
set_option maxHeartbeats 8000000 in
set_option maxRecDepth 100000 in
theorem c_X7_keep_a (l : Launch) (Γ : kG) (ma : Nat) (ms : Nat) (sn0 : Nat) (mk : Nat) (tw0 : Nat) (mt : Nat) (ty0 : Nat) (mb : Nat) (il0 : Bool) (me : Nat) (mr : Nat) (my0 : Nat) (mq : Nat) (mp : Nat) (mw : Nat) (mc : Nat) (ss : Nat → Nat) (kp : Nat → Nat) (s0 : Nat) (hs0 : s0 < 2) (h1 : ss 1 < 16384) : WRi l yX7_keep (wsq yX7_keep cX7_keep 2 (some .int)) (rmL 3) Γ [.ref ma, .int (nI s0)] [(ma, .inr (7, [.ref ms, .int (nI sn0), .ref mk, .int (nI tw0), .ref mt, .int (nI ty0), .ref mb, .int (bI il0), .ref me, .ref mr, .int (nI my0), .ref mq, .ref mp, .ref mw, .ref mc])), (ms, .inl (Γ.2 0, 162, .inl (aN ss))), (mk, .inl (Γ.2 1, 2, .inl (aN kp)))] (fun u : Unit => [(ma, .inr (7, [.ref ms, .int (nI sn0), .ref mk, .int (nI 0), .ref mt, .int (nI ty0), .ref mb, .int (bI false), .ref me, .ref mr, .int (nI my0), .ref mq, .ref mp, .ref mw, .ref mc])), (ms, .inl (Γ.2 0, 162, .inl (aN (cpB ss 0 (7 + s0) 18)))), (mk, .inl (Γ.2 1, 2, .inl (aN (upN kp s0 1))))]) (fun (r : Int32) (u : Unit) => r = (nI (pc (ss 1)))) := by
  refine wr_ofi (cc := cX7_keep) (maxL := 2) (by decide +kernel) (Nat.le_of_ble_eq_true rfl) rfl ?_
  intro p ev R st mi args below meth cd Q A ls C0 hR hret hP hD hS hl
  obtain ⟨hx, hb, hr, hml, hown, hts, hlk, hK, hnm⟩ := C0
  have hown : st.vm.findClass RX7 = some mi.cls := hown
  refine lv_aload_n hx hb dX7_keep_0 rfl (lv_at hl 0 rfl) ?_
  refine lv_iload_n hx hb dX7_keep_1 rfl (lv_at hl 1 rfl) ?_
  refine lv_iconst (v := (nI 0)) hx hb dX7_keep_2 (by decide) ?_
  refine lv_iconst (v := (nI 1)) hx hb dX7_keep_3 (by decide) ?_
  refine ro_fin (va_runS (As := [.int (nI s0), .int (nI 0), .int (nI 1)]) (rest := [.ref ma]) ⟨hx, hb, hml, hown, hts⟩ (c_X7_in l Γ _ (nI s0) (nI 0) (nI 1) ) (kcwS 3 hts kv_X7_in mw_427 (rm_le hR (Nat.le_of_ble_eq_true rfl) (Nat.le_of_ble_eq_true rfl))) (kPc_S hK) rfl rfl hl.1 rfl (lv_room (Nat.le_of_ble_eq_true rfl)) dX7_keep_4 ⟨Nat.zero_le _, Nat.zero_le _⟩) hS (fun locs hS => ?_)
  refine tp_i (y := (bI true)) (by rw [in_t (Nat.zero_le _) (by omega) (by decide)]) ?_
  refine lv_iconst (v := (nI 1)) hx hb dX7_keep_7 (by decide) ?_
  refine wr_fini (va_runV (As := [.int (bI true), .int (nI 1)]) (rest := []) ⟨hx, hb, hml, hown, hts⟩ (c_X7_goes l Γ ma ms sn0 mk tw0 mt ty0 mb il0 me mr my0 mq mp mw mc true true ) (kcwV 2 hts kv_X7_goes mw_494 (rm_le hR (Nat.le_of_ble_eq_true rfl) (Nat.le_of_ble_eq_true rfl))) (kPw_V hK (va_recv hK.1 hP (ci := 7) (q0 := 0) rfl rfl) (hP.sub (ws' := [(ma, .inr (7, [.ref ms, .int (nI sn0), .ref mk, .int (nI tw0), .ref mt, .int (nI ty0), .ref mb, .int (bI il0), .ref me, .ref mr, .int (nI my0), .ref mq, .ref mp, .ref mw, .ref mc]))]) [0] rfl) (hD.sub (ws' := [(ma, .inr (7, [.ref ms, .int (nI sn0), .ref mk, .int (nI tw0), .ref mt, .int (nI ty0), .ref mb, .int (bI il0), .ref me, .ref mr, .int (nI my0), .ref mq, .ref mp, .ref mw, .ref mc]))]) [0] (by decide) rfl)) rfl rfl hl.1 rfl (lv_room (Nat.le_of_ble_eq_true rfl)) dX7_keep_8 ⟨Nat.zero_le _, Nat.zero_le _⟩) hP hD hS [0] rfl (fun _ => rfl) (fun r _ H locs hw hP hD hS => ?_)
  obtain rfl := hw
  have hP : va_P Γ.1 vwCl [(ma, .inr (7, [.ref ms, .int (nI sn0), .ref mk, .int (nI (gz true true)), .ref mt, .int (nI ty0), .ref mb, .int (bI il0), .ref me, .ref mr, .int (nI my0), .ref mq, .ref mp, .ref mw, .ref mc])), (ms, .inl (Γ.2 0, 162, .inl (aN ss))), (mk, .inl (Γ.2 1, 2, .inl (aN kp)))] H := hP
  have hD : va_D A [(ma, .inr (7, [.ref ms, .int (nI sn0), .ref mk, .int (nI (gz true true)), .ref mt, .int (nI ty0), .ref mb, .int (bI il0), .ref me, .ref mr, .int (nI my0), .ref mq, .ref mp, .ref mw, .ref mc])), (ms, .inl (Γ.2 0, 162, .inl (aN ss))), (mk, .inl (Γ.2 1, 2, .inl (aN kp)))] := hD
  refine tp_i (y := (bI true)) (rfl) ?_
  refine nb_ifb_ne (tgt := 16) hx hb dX7_keep_11 (by decide) (fun c_11 => ?_) (fun c_11 => by exfalso; exact absurd c_11 (by decide))
  refine lv_aload_n hx hb dX7_keep_16 rfl (lv_at hl 0 rfl) ?_
  refine lv_iconst (v := (nI 0)) hx hb dX7_keep_17 (by decide) ?_
  refine lv_bipush (v := (nI 7)) hx hb dX7_keep_18 (by decide) ?_
  refine lv_iload_n hx hb dX7_keep_20 rfl (lv_at hl 1 rfl) ?_
  refine lv_iadd hx hb dX7_keep_21 ?_
  refine tp_i (y := (nI (7 + s0))) (nI_add _ _) ?_
  refine wr_finv (va_runV (As := [.int (nI 0), .int (nI (7 + s0))]) (rest := []) ⟨hx, hb, hml, hown, hts⟩ (c_X7_copies l Γ ma ms sn0 mk (gz true true) mt ty0 mb il0 me mr my0 mq mp mw mc ss 0 (7 + s0) (by first | omega | assumption) (by first | omega | assumption) (by omega)) (kcwV 2 hts kv_X7_copies mw_422 (rm_le hR (Nat.le_of_ble_eq_true rfl) (Nat.le_of_ble_eq_true rfl))) (kPw_V hK (va_recv hK.1 hP (ci := 7) (q0 := 0) rfl rfl) (hP.sub (ws' := [(ma, .inr (7, [.ref ms, .int (nI sn0), .ref mk, .int (nI (gz true true)), .ref mt, .int (nI ty0), .ref mb, .int (bI il0), .ref me, .ref mr, .int (nI my0), .ref mq, .ref mp, .ref mw, .ref mc])), (ms, .inl (Γ.2 0, 162, .inl (aN ss)))]) [0, 1] rfl) (hD.sub (ws' := [(ma, .inr (7, [.ref ms, .int (nI sn0), .ref mk, .int (nI (gz true true)), .ref mt, .int (nI ty0), .ref mb, .int (bI il0), .ref me, .ref mr, .int (nI my0), .ref mq, .ref mp, .ref mw, .ref mc])), (ms, .inl (Γ.2 0, 162, .inl (aN ss)))]) [0, 1] (by decide) rfl)) rfl rfl hl.1 rfl (lv_room (Nat.le_of_ble_eq_true rfl)) dX7_keep_22 ⟨Nat.zero_le _, Nat.zero_le _⟩) hP hD hS [0, 1] rfl (fun _ => rfl) (fun _ H locs hw hP hD hS => ?_)
  have hP : va_P Γ.1 vwCl [(ma, .inr (7, [.ref ms, .int (nI sn0), .ref mk, .int (nI (gz true true)), .ref mt, .int (nI ty0), .ref mb, .int (bI false), .ref me, .ref mr, .int (nI my0), .ref mq, .ref mp, .ref mw, .ref mc])), (ms, .inl (Γ.2 0, 162, .inl (aN (cpB ss 0 (7 + s0) 18)))), (mk, .inl (Γ.2 1, 2, .inl (aN kp)))] H := hP
  have hD : va_D A [(ma, .inr (7, [.ref ms, .int (nI sn0), .ref mk, .int (nI (gz true true)), .ref mt, .int (nI ty0), .ref mb, .int (bI false), .ref me, .ref mr, .int (nI my0), .ref mq, .ref mp, .ref mw, .ref mc])), (ms, .inl (Γ.2 0, 162, .inl (aN (cpB ss 0 (7 + s0) 18)))), (mk, .inl (Γ.2 1, 2, .inl (aN kp)))] := hD
  refine lv_aload_n hx hb dX7_keep_25 rfl (lv_at hl 0 rfl) ?_
  refine va_get (D := Γ.1) (ci := 7) (v := .ref mk) (C := RX7) (T := TX7) (N := 15) hx hb hts hinX7 hown hK.1 hP 0 rfl rfl 2 (by decide) (hts _ mw_401) (fun _ h9 => h9) rfl dX7_keep_26 ?_
  refine lv_iload_n hx hb dX7_keep_29 rfl (lv_at hl 1 rfl) ?_
  refine lv_iconst (v := (nI 1)) hx hb dX7_keep_30 (by decide) ?_
  refine zast_1 hx hb hK.1 hP hD hS 2 1 rfl rfl (by omega) (by first | decide | assumption) dX7_keep_31 (fun H locs hP hD hS => ?_)
  have hP : va_P Γ.1 vwCl [(ma, .inr (7, [.ref ms, .int (nI sn0), .ref mk, .int (nI (gz true true)), .ref mt, .int (nI ty0), .ref mb, .int (bI false), .ref me, .ref mr, .int (nI my0), .ref mq, .ref mp, .ref mw, .ref mc])), (ms, .inl (Γ.2 0, 162, .inl (aN (cpB ss 0 (7 + s0) 18)))), (mk, .inl (Γ.2 1, 2, .inl (aN (upN kp s0 1))))] H := hP
  have hD : va_D A [(ma, .inr (7, [.ref ms, .int (nI sn0), .ref mk, .int (nI (gz true true)), .ref mt, .int (nI ty0), .ref mb, .int (bI false), .ref me, .ref mr, .int (nI my0), .ref mq, .ref mp, .ref mw, .ref mc])), (ms, .inl (Γ.2 0, 162, .inl (aN (cpB ss 0 (7 + s0) 18)))), (mk, .inl (Γ.2 1, 2, .inl (aN (upN kp s0 1))))] := hD
  refine lv_aload_n hx hb dX7_keep_32 rfl (lv_at hl 0 rfl) ?_
  refine va_get (D := Γ.1) (ci := 7) (v := .ref ms) (C := RX7) (T := TX7) (N := 15) hx hb hts hinX7 hown hK.1 hP 0 rfl rfl 0 (by decide) (hts _ mw_400) (fun _ h9 => h9) rfl dX7_keep_33 ?_
  refine lv_iconst (v := (nI 1)) hx hb dX7_keep_36 (by decide) ?_
  refine iald_N hx hb hK.1 hP 1 0 rfl rfl (by omega) (by first | decide | assumption) dX7_keep_37 ?_
  refine tp_i (y := (nI (ss 1))) (by rw [cpB_n (by omega)]) ?_
  refine ro_fin (va_runS (As := [.int (nI (ss 1))]) (rest := []) ⟨hx, hb, hml, hown, hts⟩ (c_X7_bits l Γ _ (ss 1) (by first | omega | assumption)) (kcwS 1 hts kv_X7_bits mw_476 (rm_le hR (Nat.le_of_ble_eq_true rfl) (Nat.le_of_ble_eq_true rfl))) (kPc_S hK) rfl rfl hl.1 rfl (lv_room (Nat.le_of_ble_eq_true rfl)) dX7_keep_38 ⟨Nat.zero_le _, Nat.zero_le _⟩) hS (fun locs hS => ?_)
  exact hret () hP hS (rfl) dX7_keep_41
set_option maxHeartbeats 8000000 in
set_option maxRecDepth 100000 in
theorem c_X7_goBack_x (l : Launch) (Γ : kG) (ma : Nat) (ms : Nat) (sn0 : Nat) (mk : Nat) (tw0 : Nat) (mt : Nat) (ty0 : Nat) (mb : Nat) (il0 : Bool) (me : Nat) (mr : Nat) (my0 : Nat) (mq : Nat) (mp : Nat) (mw : Nat) (mc : Nat) (ss : Nat → Nat) (kp : Nat → Nat) (x0 : Int32) (hx0 : ¬ (nI 0 ≤ x0 ∧ x0 ≤ nI 1)) : WRi l yX7_goBack (wsq yX7_goBack cX7_goBack 2 (some .int)) (rmL 3) Γ [.ref ma, .int x0] [(ma, .inr (7, [.ref ms, .int (nI sn0), .ref mk, .int (nI tw0), .ref mt, .int (nI ty0), .ref mb, .int (bI il0), .ref me, .ref mr, .int (nI my0), .ref mq, .ref mp, .ref mw, .ref mc])), (ms, .inl (Γ.2 0, 162, .inl (aN ss))), (mk, .inl (Γ.2 1, 2, .inl (aN kp)))] (fun u : Unit => [(ma, .inr (7, [.ref ms, .int (nI sn0), .ref mk, .int (nI 1), .ref mt, .int (nI ty0), .ref mb, .int (bI il0), .ref me, .ref mr, .int (nI my0), .ref mq, .ref mp, .ref mw, .ref mc])), (ms, .inl (Γ.2 0, 162, .inl (aN ss))), (mk, .inl (Γ.2 1, 2, .inl (aN kp)))]) (fun (r : Int32) (u : Unit) => r = (nI 0)) := by
  refine wr_ofi (cc := cX7_goBack) (maxL := 2) (by decide +kernel) (Nat.le_of_ble_eq_true rfl) rfl ?_
  intro p ev R st mi args below meth cd Q A ls C0 hR hret hP hD hS hl
  obtain ⟨hx, hb, hr, hml, hown, hts, hlk, hK, hnm⟩ := C0
  have hown : st.vm.findClass RX7 = some mi.cls := hown
  refine lv_aload_n hx hb dX7_goBack_0 rfl (lv_at hl 0 rfl) ?_
  refine lv_iload_n hx hb dX7_goBack_1 rfl (lv_at hl 1 rfl) ?_
  refine lv_iconst (v := (nI 0)) hx hb dX7_goBack_2 (by decide) ?_
  refine lv_iconst (v := (nI 1)) hx hb dX7_goBack_3 (by decide) ?_
  refine ro_fin (va_runS (As := [.int x0, .int (nI 0), .int (nI 1)]) (rest := [.ref ma]) ⟨hx, hb, hml, hown, hts⟩ (c_X7_in l Γ _ x0 (nI 0) (nI 1) ) (kcwS 3 hts kv_X7_in mw_427 (rm_le hR (Nat.le_of_ble_eq_true rfl) (Nat.le_of_ble_eq_true rfl))) (kPc_S hK) rfl rfl hl.1 rfl (lv_room (Nat.le_of_ble_eq_true rfl)) dX7_goBack_4 ⟨Nat.zero_le _, Nat.zero_le _⟩) hS (fun locs hS => ?_)
  refine tp_i (y := (bI false)) (by rw [decide_eq_false hx0]) ?_
  refine lv_iload_n hx hb dX7_goBack_7 rfl (lv_at hl 1 rfl) ?_
  refine lv_iconst (v := (nI 0)) hx hb dX7_goBack_8 (by decide) ?_
  refine lv_iconst (v := (nI 1)) hx hb dX7_goBack_9 (by decide) ?_
  refine ro_fin (va_runS (As := [.int x0, .int (nI 0), .int (nI 1)]) (rest := [.int (bI false), .ref ma]) ⟨hx, hb, hml, hown, hts⟩ (c_X7_in l Γ _ x0 (nI 0) (nI 1) ) (kcwS 3 hts kv_X7_in mw_427 (rm_le hR (Nat.le_of_ble_eq_true rfl) (Nat.le_of_ble_eq_true rfl))) (kPc_S hK) rfl rfl hl.1 rfl (lv_room (Nat.le_of_ble_eq_true rfl)) dX7_goBack_10 ⟨Nat.zero_le _, Nat.zero_le _⟩) hS (fun locs hS => ?_)
  refine tp_i (y := (bI false)) (by rw [decide_eq_false hx0]) ?_
  refine nb_ifb_eq (tgt := 29) hx hb dX7_goBack_13 (by decide) (fun c_13 => ?_) (fun c_13 => by exfalso; exact absurd c_13 (by decide))
  refine lv_iconst (v := (nI 0)) hx hb dX7_goBack_29 (by decide) ?_
  refine wr_fini (va_runV (As := [.int (bI false), .int (nI 0)]) (rest := []) ⟨hx, hb, hml, hown, hts⟩ (c_X7_goes l Γ ma ms sn0 mk tw0 mt ty0 mb il0 me mr my0 mq mp mw mc false false ) (kcwV 2 hts kv_X7_goes mw_494 (rm_le hR (Nat.le_of_ble_eq_true rfl) (Nat.le_of_ble_eq_true rfl))) (kPw_V hK (va_recv hK.1 hP (ci := 7) (q0 := 0) rfl rfl) (hP.sub (ws' := [(ma, .inr (7, [.ref ms, .int (nI sn0), .ref mk, .int (nI tw0), .ref mt, .int (nI ty0), .ref mb, .int (bI il0), .ref me, .ref mr, .int (nI my0), .ref mq, .ref mp, .ref mw, .ref mc]))]) [0] rfl) (hD.sub (ws' := [(ma, .inr (7, [.ref ms, .int (nI sn0), .ref mk, .int (nI tw0), .ref mt, .int (nI ty0), .ref mb, .int (bI il0), .ref me, .ref mr, .int (nI my0), .ref mq, .ref mp, .ref mw, .ref mc]))]) [0] (by decide) rfl)) rfl rfl hl.1 rfl (lv_room (Nat.le_of_ble_eq_true rfl)) dX7_goBack_30 ⟨Nat.zero_le _, Nat.zero_le _⟩) hP hD hS [0] rfl (fun _ => rfl) (fun r _ H locs hw hP hD hS => ?_)
  obtain rfl := hw
  have hP : va_P Γ.1 vwCl [(ma, .inr (7, [.ref ms, .int (nI sn0), .ref mk, .int (nI (gz false false)), .ref mt, .int (nI ty0), .ref mb, .int (bI il0), .ref me, .ref mr, .int (nI my0), .ref mq, .ref mp, .ref mw, .ref mc])), (ms, .inl (Γ.2 0, 162, .inl (aN ss))), (mk, .inl (Γ.2 1, 2, .inl (aN kp)))] H := hP
  have hD : va_D A [(ma, .inr (7, [.ref ms, .int (nI sn0), .ref mk, .int (nI (gz false false)), .ref mt, .int (nI ty0), .ref mb, .int (bI il0), .ref me, .ref mr, .int (nI my0), .ref mq, .ref mp, .ref mw, .ref mc])), (ms, .inl (Γ.2 0, 162, .inl (aN ss))), (mk, .inl (Γ.2 1, 2, .inl (aN kp)))] := hD
  refine tp_i (y := (bI false)) (rfl) ?_
  refine nb_ifb_ne (tgt := 38) hx hb dX7_goBack_33 (by decide) (fun c_33 => by exfalso; exact absurd c_33 (by decide)) (fun c_33 => ?_)
  refine lv_iconst (v := (nI 0)) hx hb dX7_goBack_36 (by decide) ?_
  exact hret () hP hS (rfl) dX7_goBack_37
set_option maxHeartbeats 8000000 in
set_option maxRecDepth 100000 in
theorem c_X7_goBack_f (l : Launch) (Γ : kG) (ma : Nat) (ms : Nat) (sn0 : Nat) (mk : Nat) (tw0 : Nat) (mt : Nat) (ty0 : Nat) (mb : Nat) (il0 : Bool) (me : Nat) (mr : Nat) (my0 : Nat) (mq : Nat) (mp : Nat) (mw : Nat) (mc : Nat) (ss : Nat → Nat) (kp : Nat → Nat) (s0 : Nat) (hs0 : s0 < 2) (hkp : kp s0 = 0) : WRi l yX7_goBack (wsq yX7_goBack cX7_goBack 2 (some .int)) (rmL 3) Γ [.ref ma, .int (nI s0)] [(ma, .inr (7, [.ref ms, .int (nI sn0), .ref mk, .int (nI tw0), .ref mt, .int (nI ty0), .ref mb, .int (bI il0), .ref me, .ref mr, .int (nI my0), .ref mq, .ref mp, .ref mw, .ref mc])), (ms, .inl (Γ.2 0, 162, .inl (aN ss))), (mk, .inl (Γ.2 1, 2, .inl (aN kp)))] (fun u : Unit => [(ma, .inr (7, [.ref ms, .int (nI sn0), .ref mk, .int (nI 2), .ref mt, .int (nI ty0), .ref mb, .int (bI il0), .ref me, .ref mr, .int (nI my0), .ref mq, .ref mp, .ref mw, .ref mc])), (ms, .inl (Γ.2 0, 162, .inl (aN ss))), (mk, .inl (Γ.2 1, 2, .inl (aN kp)))]) (fun (r : Int32) (u : Unit) => r = (nI 0)) := by
  refine wr_ofi (cc := cX7_goBack) (maxL := 2) (by decide +kernel) (Nat.le_of_ble_eq_true rfl) rfl ?_
  intro p ev R st mi args below meth cd Q A ls C0 hR hret hP hD hS hl
  obtain ⟨hx, hb, hr, hml, hown, hts, hlk, hK, hnm⟩ := C0
  have hown : st.vm.findClass RX7 = some mi.cls := hown
  refine lv_aload_n hx hb dX7_goBack_0 rfl (lv_at hl 0 rfl) ?_
  refine lv_iload_n hx hb dX7_goBack_1 rfl (lv_at hl 1 rfl) ?_
  refine lv_iconst (v := (nI 0)) hx hb dX7_goBack_2 (by decide) ?_
  refine lv_iconst (v := (nI 1)) hx hb dX7_goBack_3 (by decide) ?_
  refine ro_fin (va_runS (As := [.int (nI s0), .int (nI 0), .int (nI 1)]) (rest := [.ref ma]) ⟨hx, hb, hml, hown, hts⟩ (c_X7_in l Γ _ (nI s0) (nI 0) (nI 1) ) (kcwS 3 hts kv_X7_in mw_427 (rm_le hR (Nat.le_of_ble_eq_true rfl) (Nat.le_of_ble_eq_true rfl))) (kPc_S hK) rfl rfl hl.1 rfl (lv_room (Nat.le_of_ble_eq_true rfl)) dX7_goBack_4 ⟨Nat.zero_le _, Nat.zero_le _⟩) hS (fun locs hS => ?_)
  refine tp_i (y := (bI true)) (by rw [in_t (Nat.zero_le _) (by omega) (by decide)]) ?_
  refine lv_iload_n hx hb dX7_goBack_7 rfl (lv_at hl 1 rfl) ?_
  refine lv_iconst (v := (nI 0)) hx hb dX7_goBack_8 (by decide) ?_
  refine lv_iconst (v := (nI 1)) hx hb dX7_goBack_9 (by decide) ?_
  refine ro_fin (va_runS (As := [.int (nI s0), .int (nI 0), .int (nI 1)]) (rest := [.int (bI true), .ref ma]) ⟨hx, hb, hml, hown, hts⟩ (c_X7_in l Γ _ (nI s0) (nI 0) (nI 1) ) (kcwS 3 hts kv_X7_in mw_427 (rm_le hR (Nat.le_of_ble_eq_true rfl) (Nat.le_of_ble_eq_true rfl))) (kPc_S hK) rfl rfl hl.1 rfl (lv_room (Nat.le_of_ble_eq_true rfl)) dX7_goBack_10 ⟨Nat.zero_le _, Nat.zero_le _⟩) hS (fun locs hS => ?_)
  refine tp_i (y := (bI true)) (by rw [in_t (Nat.zero_le _) (by omega) (by decide)]) ?_
  refine nb_ifb_eq (tgt := 29) hx hb dX7_goBack_13 (by decide) (fun c_13 => by exfalso; exact absurd c_13 (by decide)) (fun c_13 => ?_)
  refine lv_aload_n hx hb dX7_goBack_16 rfl (lv_at hl 0 rfl) ?_
  refine va_get (D := Γ.1) (ci := 7) (v := .ref mk) (C := RX7) (T := TX7) (N := 15) hx hb hts hinX7 hown hK.1 hP 0 rfl rfl 2 (by decide) (hts _ mw_401) (fun _ h9 => h9) rfl dX7_goBack_17 ?_
  refine lv_iload_n hx hb dX7_goBack_20 rfl (lv_at hl 1 rfl) ?_
  refine zald_N hx hb hK.1 hP 2 1 rfl rfl (by omega) (by first | decide | assumption) dX7_goBack_21 ?_
  refine nb_if_eq (tgt := 29) hx hb (by omega) dX7_goBack_22 (by decide) (fun c_22 => ?_) (fun c_22 => by exfalso; exact c_22 hkp)
  refine lv_iconst (v := (nI 0)) hx hb dX7_goBack_29 (by decide) ?_
  refine wr_fini (va_runV (As := [.int (bI true), .int (nI 0)]) (rest := []) ⟨hx, hb, hml, hown, hts⟩ (c_X7_goes l Γ ma ms sn0 mk tw0 mt ty0 mb il0 me mr my0 mq mp mw mc true false ) (kcwV 2 hts kv_X7_goes mw_494 (rm_le hR (Nat.le_of_ble_eq_true rfl) (Nat.le_of_ble_eq_true rfl))) (kPw_V hK (va_recv hK.1 hP (ci := 7) (q0 := 0) rfl rfl) (hP.sub (ws' := [(ma, .inr (7, [.ref ms, .int (nI sn0), .ref mk, .int (nI tw0), .ref mt, .int (nI ty0), .ref mb, .int (bI il0), .ref me, .ref mr, .int (nI my0), .ref mq, .ref mp, .ref mw, .ref mc]))]) [0] rfl) (hD.sub (ws' := [(ma, .inr (7, [.ref ms, .int (nI sn0), .ref mk, .int (nI tw0), .ref mt, .int (nI ty0), .ref mb, .int (bI il0), .ref me, .ref mr, .int (nI my0), .ref mq, .ref mp, .ref mw, .ref mc]))]) [0] (by decide) rfl)) rfl rfl hl.1 rfl (lv_room (Nat.le_of_ble_eq_true rfl)) dX7_goBack_30 ⟨Nat.zero_le _, Nat.zero_le _⟩) hP hD hS [0] rfl (fun _ => rfl) (fun r _ H locs hw hP hD hS => ?_)
  obtain rfl := hw
  have hP : va_P Γ.1 vwCl [(ma, .inr (7, [.ref ms, .int (nI sn0), .ref mk, .int (nI (gz true false)), .ref mt, .int (nI ty0), .ref mb, .int (bI il0), .ref me, .ref mr, .int (nI my0), .ref mq, .ref mp, .ref mw, .ref mc])), (ms, .inl (Γ.2 0, 162, .inl (aN ss))), (mk, .inl (Γ.2 1, 2, .inl (aN kp)))] H := hP
  have hD : va_D A [(ma, .inr (7, [.ref ms, .int (nI sn0), .ref mk, .int (nI (gz true false)), .ref mt, .int (nI ty0), .ref mb, .int (bI il0), .ref me, .ref mr, .int (nI my0), .ref mq, .ref mp, .ref mw, .ref mc])), (ms, .inl (Γ.2 0, 162, .inl (aN ss))), (mk, .inl (Γ.2 1, 2, .inl (aN kp)))] := hD
  refine tp_i (y := (bI false)) (rfl) ?_
  refine nb_ifb_ne (tgt := 38) hx hb dX7_goBack_33 (by decide) (fun c_33 => by exfalso; exact absurd c_33 (by decide)) (fun c_33 => ?_)
  refine lv_iconst (v := (nI 0)) hx hb dX7_goBack_36 (by decide) ?_
  exact hret () hP hS (rfl) dX7_goBack_37
set_option maxHeartbeats 8000000 in
set_option maxRecDepth 100000 in
theorem c_X7_goBack_a (l : Launch) (Γ : kG) (ma : Nat) (ms : Nat) (sn0 : Nat) (mk : Nat) (tw0 : Nat) (mt : Nat) (ty0 : Nat) (mb : Nat) (il0 : Bool) (me : Nat) (mr : Nat) (my0 : Nat) (mq : Nat) (mp : Nat) (mw : Nat) (mc : Nat) (ss : Nat → Nat) (kp : Nat → Nat) (s0 : Nat) (hs0 : s0 < 2) (hkp : kp s0 = 1) (hsn : sn0 ≤ 6) (h1 : ss (18 * (7 + s0) + 1) < 16384) : WRi l yX7_goBack (wsq yX7_goBack cX7_goBack 2 (some .int)) (rmL 3) Γ [.ref ma, .int (nI s0)] [(ma, .inr (7, [.ref ms, .int (nI sn0), .ref mk, .int (nI tw0), .ref mt, .int (nI ty0), .ref mb, .int (bI il0), .ref me, .ref mr, .int (nI my0), .ref mq, .ref mp, .ref mw, .ref mc])), (ms, .inl (Γ.2 0, 162, .inl (aN ss))), (mk, .inl (Γ.2 1, 2, .inl (aN kp)))] (fun u : Unit => [(ma, .inr (7, [.ref ms, .int (nI (svN sn0)), .ref mk, .int (nI 0), .ref mt, .int (nI ty0), .ref mb, .int (bI false), .ref me, .ref mr, .int (nI my0), .ref mq, .ref mp, .ref mw, .ref mc])), (ms, .inl (Γ.2 0, 162, .inl (aN (cpB (svM ss sn0) (7 + s0) 0 18)))), (mk, .inl (Γ.2 1, 2, .inl (aN kp)))]) (fun (r : Int32) (u : Unit) => r = (nI (pc (ss (18 * (7 + s0) + 1))))) := by
  refine wr_ofi (cc := cX7_goBack) (maxL := 2) (by decide +kernel) (Nat.le_of_ble_eq_true rfl) rfl ?_
  intro p ev R st mi args below meth cd Q A ls C0 hR hret hP hD hS hl
  obtain ⟨hx, hb, hr, hml, hown, hts, hlk, hK, hnm⟩ := C0
  have hown : st.vm.findClass RX7 = some mi.cls := hown
  refine lv_aload_n hx hb dX7_goBack_0 rfl (lv_at hl 0 rfl) ?_
  refine lv_iload_n hx hb dX7_goBack_1 rfl (lv_at hl 1 rfl) ?_
  refine lv_iconst (v := (nI 0)) hx hb dX7_goBack_2 (by decide) ?_
  refine lv_iconst (v := (nI 1)) hx hb dX7_goBack_3 (by decide) ?_
  refine ro_fin (va_runS (As := [.int (nI s0), .int (nI 0), .int (nI 1)]) (rest := [.ref ma]) ⟨hx, hb, hml, hown, hts⟩ (c_X7_in l Γ _ (nI s0) (nI 0) (nI 1) ) (kcwS 3 hts kv_X7_in mw_427 (rm_le hR (Nat.le_of_ble_eq_true rfl) (Nat.le_of_ble_eq_true rfl))) (kPc_S hK) rfl rfl hl.1 rfl (lv_room (Nat.le_of_ble_eq_true rfl)) dX7_goBack_4 ⟨Nat.zero_le _, Nat.zero_le _⟩) hS (fun locs hS => ?_)
  refine tp_i (y := (bI true)) (by rw [in_t (Nat.zero_le _) (by omega) (by decide)]) ?_
  refine lv_iload_n hx hb dX7_goBack_7 rfl (lv_at hl 1 rfl) ?_
  refine lv_iconst (v := (nI 0)) hx hb dX7_goBack_8 (by decide) ?_
  refine lv_iconst (v := (nI 1)) hx hb dX7_goBack_9 (by decide) ?_
  refine ro_fin (va_runS (As := [.int (nI s0), .int (nI 0), .int (nI 1)]) (rest := [.int (bI true), .ref ma]) ⟨hx, hb, hml, hown, hts⟩ (c_X7_in l Γ _ (nI s0) (nI 0) (nI 1) ) (kcwS 3 hts kv_X7_in mw_427 (rm_le hR (Nat.le_of_ble_eq_true rfl) (Nat.le_of_ble_eq_true rfl))) (kPc_S hK) rfl rfl hl.1 rfl (lv_room (Nat.le_of_ble_eq_true rfl)) dX7_goBack_10 ⟨Nat.zero_le _, Nat.zero_le _⟩) hS (fun locs hS => ?_)
  refine tp_i (y := (bI true)) (by rw [in_t (Nat.zero_le _) (by omega) (by decide)]) ?_
  refine nb_ifb_eq (tgt := 29) hx hb dX7_goBack_13 (by decide) (fun c_13 => by exfalso; exact absurd c_13 (by decide)) (fun c_13 => ?_)
  refine lv_aload_n hx hb dX7_goBack_16 rfl (lv_at hl 0 rfl) ?_
  refine va_get (D := Γ.1) (ci := 7) (v := .ref mk) (C := RX7) (T := TX7) (N := 15) hx hb hts hinX7 hown hK.1 hP 0 rfl rfl 2 (by decide) (hts _ mw_401) (fun _ h9 => h9) rfl dX7_goBack_17 ?_
  refine lv_iload_n hx hb dX7_goBack_20 rfl (lv_at hl 1 rfl) ?_
  refine zald_N hx hb hK.1 hP 2 1 rfl rfl (by omega) (by first | decide | assumption) dX7_goBack_21 ?_
  refine nb_if_eq (tgt := 29) hx hb (by omega) dX7_goBack_22 (by decide) (fun c_22 => by exfalso; omega) (fun c_22 => ?_)
  refine lv_iconst (v := (nI 1)) hx hb dX7_goBack_25 (by decide) ?_
  refine lv_goto (tgt := 30) hx hb dX7_goBack_26 (by decide) ?_
  refine wr_fini (va_runV (As := [.int (bI true), .int (nI 1)]) (rest := []) ⟨hx, hb, hml, hown, hts⟩ (c_X7_goes l Γ ma ms sn0 mk tw0 mt ty0 mb il0 me mr my0 mq mp mw mc true true ) (kcwV 2 hts kv_X7_goes mw_494 (rm_le hR (Nat.le_of_ble_eq_true rfl) (Nat.le_of_ble_eq_true rfl))) (kPw_V hK (va_recv hK.1 hP (ci := 7) (q0 := 0) rfl rfl) (hP.sub (ws' := [(ma, .inr (7, [.ref ms, .int (nI sn0), .ref mk, .int (nI tw0), .ref mt, .int (nI ty0), .ref mb, .int (bI il0), .ref me, .ref mr, .int (nI my0), .ref mq, .ref mp, .ref mw, .ref mc]))]) [0] rfl) (hD.sub (ws' := [(ma, .inr (7, [.ref ms, .int (nI sn0), .ref mk, .int (nI tw0), .ref mt, .int (nI ty0), .ref mb, .int (bI il0), .ref me, .ref mr, .int (nI my0), .ref mq, .ref mp, .ref mw, .ref mc]))]) [0] (by decide) rfl)) rfl rfl hl.1 rfl (lv_room (Nat.le_of_ble_eq_true rfl)) dX7_goBack_30 ⟨Nat.zero_le _, Nat.zero_le _⟩) hP hD hS [0] rfl (fun _ => rfl) (fun r _ H locs hw hP hD hS => ?_)
  obtain rfl := hw
  have hP : va_P Γ.1 vwCl [(ma, .inr (7, [.ref ms, .int (nI sn0), .ref mk, .int (nI (gz true true)), .ref mt, .int (nI ty0), .ref mb, .int (bI il0), .ref me, .ref mr, .int (nI my0), .ref mq, .ref mp, .ref mw, .ref mc])), (ms, .inl (Γ.2 0, 162, .inl (aN ss))), (mk, .inl (Γ.2 1, 2, .inl (aN kp)))] H := hP
  have hD : va_D A [(ma, .inr (7, [.ref ms, .int (nI sn0), .ref mk, .int (nI (gz true true)), .ref mt, .int (nI ty0), .ref mb, .int (bI il0), .ref me, .ref mr, .int (nI my0), .ref mq, .ref mp, .ref mw, .ref mc])), (ms, .inl (Γ.2 0, 162, .inl (aN ss))), (mk, .inl (Γ.2 1, 2, .inl (aN kp)))] := hD
  refine tp_i (y := (bI true)) (rfl) ?_
  refine nb_ifb_ne (tgt := 38) hx hb dX7_goBack_33 (by decide) (fun c_33 => ?_) (fun c_33 => by exfalso; exact absurd c_33 (by decide))
  refine lv_aload_n hx hb dX7_goBack_38 rfl (lv_at hl 0 rfl) ?_
  refine wr_finv (va_runV (As := []) (rest := []) ⟨hx, hb, hml, hown, hts⟩ (c_X7_saves l Γ ma ms sn0 mk (gz true true) mt ty0 mb il0 me mr my0 mq mp mw mc ss (by first | omega | assumption)) (kcwV 0 hts kv_X7_saves mw_497 (rm_le hR (Nat.le_of_ble_eq_true rfl) (Nat.le_of_ble_eq_true rfl))) (kPw_V hK (va_recv hK.1 hP (ci := 7) (q0 := 0) rfl rfl) (hP.sub (ws' := [(ma, .inr (7, [.ref ms, .int (nI sn0), .ref mk, .int (nI (gz true true)), .ref mt, .int (nI ty0), .ref mb, .int (bI il0), .ref me, .ref mr, .int (nI my0), .ref mq, .ref mp, .ref mw, .ref mc])), (ms, .inl (Γ.2 0, 162, .inl (aN ss)))]) [0, 1] rfl) (hD.sub (ws' := [(ma, .inr (7, [.ref ms, .int (nI sn0), .ref mk, .int (nI (gz true true)), .ref mt, .int (nI ty0), .ref mb, .int (bI il0), .ref me, .ref mr, .int (nI my0), .ref mq, .ref mp, .ref mw, .ref mc])), (ms, .inl (Γ.2 0, 162, .inl (aN ss)))]) [0, 1] (by decide) rfl)) rfl rfl hl.1 rfl (lv_room (Nat.le_of_ble_eq_true rfl)) dX7_goBack_39 ⟨Nat.zero_le _, Nat.zero_le _⟩) hP hD hS [0, 1] rfl (fun _ => rfl) (fun _ H locs hw hP hD hS => ?_)
  have hP : va_P Γ.1 vwCl [(ma, .inr (7, [.ref ms, .int (nI (svN sn0)), .ref mk, .int (nI (gz true true)), .ref mt, .int (nI ty0), .ref mb, .int (bI il0), .ref me, .ref mr, .int (nI my0), .ref mq, .ref mp, .ref mw, .ref mc])), (ms, .inl (Γ.2 0, 162, .inl (aN (svM ss sn0)))), (mk, .inl (Γ.2 1, 2, .inl (aN kp)))] H := hP
  have hD : va_D A [(ma, .inr (7, [.ref ms, .int (nI (svN sn0)), .ref mk, .int (nI (gz true true)), .ref mt, .int (nI ty0), .ref mb, .int (bI il0), .ref me, .ref mr, .int (nI my0), .ref mq, .ref mp, .ref mw, .ref mc])), (ms, .inl (Γ.2 0, 162, .inl (aN (svM ss sn0)))), (mk, .inl (Γ.2 1, 2, .inl (aN kp)))] := hD
  refine lv_aload_n hx hb dX7_goBack_42 rfl (lv_at hl 0 rfl) ?_
  refine lv_bipush (v := (nI 7)) hx hb dX7_goBack_43 (by decide) ?_
  refine lv_iload_n hx hb dX7_goBack_45 rfl (lv_at hl 1 rfl) ?_
  refine lv_iadd hx hb dX7_goBack_46 ?_
  refine tp_i (y := (nI (7 + s0))) (nI_add _ _) ?_
  refine lv_iconst (v := (nI 0)) hx hb dX7_goBack_47 (by decide) ?_
  refine wr_finv (va_runV (As := [.int (nI (7 + s0)), .int (nI 0)]) (rest := []) ⟨hx, hb, hml, hown, hts⟩ (c_X7_copies l Γ ma ms (svN sn0) mk (gz true true) mt ty0 mb il0 me mr my0 mq mp mw mc (svM ss sn0) (7 + s0) 0 (by first | omega | assumption) (by first | omega | assumption) (by omega)) (kcwV 2 hts kv_X7_copies mw_422 (rm_le hR (Nat.le_of_ble_eq_true rfl) (Nat.le_of_ble_eq_true rfl))) (kPw_V hK (va_recv hK.1 hP (ci := 7) (q0 := 0) rfl rfl) (hP.sub (ws' := [(ma, .inr (7, [.ref ms, .int (nI (svN sn0)), .ref mk, .int (nI (gz true true)), .ref mt, .int (nI ty0), .ref mb, .int (bI il0), .ref me, .ref mr, .int (nI my0), .ref mq, .ref mp, .ref mw, .ref mc])), (ms, .inl (Γ.2 0, 162, .inl (aN (svM ss sn0))))]) [0, 1] rfl) (hD.sub (ws' := [(ma, .inr (7, [.ref ms, .int (nI (svN sn0)), .ref mk, .int (nI (gz true true)), .ref mt, .int (nI ty0), .ref mb, .int (bI il0), .ref me, .ref mr, .int (nI my0), .ref mq, .ref mp, .ref mw, .ref mc])), (ms, .inl (Γ.2 0, 162, .inl (aN (svM ss sn0))))]) [0, 1] (by decide) rfl)) rfl rfl hl.1 rfl (lv_room (Nat.le_of_ble_eq_true rfl)) dX7_goBack_48 ⟨Nat.zero_le _, Nat.zero_le _⟩) hP hD hS [0, 1] rfl (fun _ => rfl) (fun _ H locs hw hP hD hS => ?_)
  have hP : va_P Γ.1 vwCl [(ma, .inr (7, [.ref ms, .int (nI (svN sn0)), .ref mk, .int (nI (gz true true)), .ref mt, .int (nI ty0), .ref mb, .int (bI false), .ref me, .ref mr, .int (nI my0), .ref mq, .ref mp, .ref mw, .ref mc])), (ms, .inl (Γ.2 0, 162, .inl (aN (cpB (svM ss sn0) (7 + s0) 0 18)))), (mk, .inl (Γ.2 1, 2, .inl (aN kp)))] H := hP
  have hD : va_D A [(ma, .inr (7, [.ref ms, .int (nI (svN sn0)), .ref mk, .int (nI (gz true true)), .ref mt, .int (nI ty0), .ref mb, .int (bI false), .ref me, .ref mr, .int (nI my0), .ref mq, .ref mp, .ref mw, .ref mc])), (ms, .inl (Γ.2 0, 162, .inl (aN (cpB (svM ss sn0) (7 + s0) 0 18)))), (mk, .inl (Γ.2 1, 2, .inl (aN kp)))] := hD
  refine lv_aload_n hx hb dX7_goBack_51 rfl (lv_at hl 0 rfl) ?_
  refine va_get (D := Γ.1) (ci := 7) (v := .ref ms) (C := RX7) (T := TX7) (N := 15) hx hb hts hinX7 hown hK.1 hP 0 rfl rfl 0 (by decide) (hts _ mw_400) (fun _ h9 => h9) rfl dX7_goBack_52 ?_
  refine lv_iconst (v := (nI 1)) hx hb dX7_goBack_55 (by decide) ?_
  refine iald_N hx hb hK.1 hP 1 0 rfl rfl (by omega) (by first | decide | assumption) dX7_goBack_56 ?_
  refine tp_i (y := (nI (ss (18 * (7 + s0) + 1)))) (by rw [cpB_0i (by decide), svM_o hsn (by omega)]) ?_
  refine ro_fin (va_runS (As := [.int (nI (ss (18 * (7 + s0) + 1)))]) (rest := []) ⟨hx, hb, hml, hown, hts⟩ (c_X7_bits l Γ _ (ss (18 * (7 + s0) + 1)) (by first | omega | assumption)) (kcwS 1 hts kv_X7_bits mw_476 (rm_le hR (Nat.le_of_ble_eq_true rfl) (Nat.le_of_ble_eq_true rfl))) (kPc_S hK) rfl rfl hl.1 rfl (lv_room (Nat.le_of_ble_eq_true rfl)) dX7_goBack_57 ⟨Nat.zero_le _, Nat.zero_le _⟩) hS (fun locs hS => ?_)
  exact hret () hP hS (rfl) dX7_goBack_60
set_option maxHeartbeats 8000000 in
set_option maxRecDepth 100000 in
theorem c_X7_undo_x (l : Launch) (Γ : kG) (ma : Nat) (ms : Nat) (sn0 : Nat) (mk : Nat) (tw0 : Nat) (mt : Nat) (ty0 : Nat) (mb : Nat) (il0 : Bool) (me : Nat) (mr : Nat) (my0 : Nat) (mq : Nat) (mp : Nat) (mw : Nat) (mc : Nat) (ss : Nat → Nat) (hz : sn0 = 0) : WRi l yX7_undo (wsq yX7_undo cX7_undo 1 (some .int)) (rmL 3) Γ [.ref ma] [(ma, .inr (7, [.ref ms, .int (nI sn0), .ref mk, .int (nI tw0), .ref mt, .int (nI ty0), .ref mb, .int (bI il0), .ref me, .ref mr, .int (nI my0), .ref mq, .ref mp, .ref mw, .ref mc])), (ms, .inl (Γ.2 0, 162, .inl (aN ss)))] (fun u : Unit => [(ma, .inr (7, [.ref ms, .int (nI sn0), .ref mk, .int (nI 1), .ref mt, .int (nI ty0), .ref mb, .int (bI il0), .ref me, .ref mr, .int (nI my0), .ref mq, .ref mp, .ref mw, .ref mc])), (ms, .inl (Γ.2 0, 162, .inl (aN ss)))]) (fun (r : Int32) (u : Unit) => r = (nI 0)) := by
  refine wr_ofi (cc := cX7_undo) (maxL := 1) (by decide +kernel) (Nat.le_of_ble_eq_true rfl) rfl ?_
  intro p ev R st mi args below meth cd Q A ls C0 hR hret hP hD hS hl
  obtain ⟨hx, hb, hr, hml, hown, hts, hlk, hK, hnm⟩ := C0
  have hown : st.vm.findClass RX7 = some mi.cls := hown
  refine lv_aload_n hx hb dX7_undo_0 rfl (lv_at hl 0 rfl) ?_
  refine lv_aload_n hx hb dX7_undo_1 rfl (lv_at hl 0 rfl) ?_
  refine va_get (D := Γ.1) (ci := 7) (v := .int (nI sn0)) (C := RX7) (T := TX7) (N := 15) hx hb hts hinX7 hown hK.1 hP 0 rfl rfl 1 (by decide) (hts _ mw_421) (fun _ h9 => h9) rfl dX7_undo_2 ?_
  refine nb_if_le (tgt := 12) hx hb (by omega) dX7_undo_5 (by decide) (fun c_5 => ?_) (fun c_5 => by exfalso; omega)
  refine lv_iconst (v := (nI 0)) hx hb dX7_undo_12 (by decide) ?_
  refine lv_iconst (v := (nI 1)) hx hb dX7_undo_13 (by decide) ?_
  refine wr_fini (va_runV (As := [.int (nI 0), .int (nI 1)]) (rest := []) ⟨hx, hb, hml, hown, hts⟩ (c_X7_goes l Γ ma ms sn0 mk tw0 mt ty0 mb il0 me mr my0 mq mp mw mc false true ) (kcwV 2 hts kv_X7_goes mw_494 (rm_le hR (Nat.le_of_ble_eq_true rfl) (Nat.le_of_ble_eq_true rfl))) (kPw_V hK (va_recv hK.1 hP (ci := 7) (q0 := 0) rfl rfl) (hP.sub (ws' := [(ma, .inr (7, [.ref ms, .int (nI sn0), .ref mk, .int (nI tw0), .ref mt, .int (nI ty0), .ref mb, .int (bI il0), .ref me, .ref mr, .int (nI my0), .ref mq, .ref mp, .ref mw, .ref mc]))]) [0] rfl) (hD.sub (ws' := [(ma, .inr (7, [.ref ms, .int (nI sn0), .ref mk, .int (nI tw0), .ref mt, .int (nI ty0), .ref mb, .int (bI il0), .ref me, .ref mr, .int (nI my0), .ref mq, .ref mp, .ref mw, .ref mc]))]) [0] (by decide) rfl)) rfl rfl hl.1 rfl (lv_room (Nat.le_of_ble_eq_true rfl)) dX7_undo_14 ⟨Nat.zero_le _, Nat.zero_le _⟩) hP hD hS [0] rfl (fun _ => rfl) (fun r _ H locs hw hP hD hS => ?_)
  obtain rfl := hw
  have hP : va_P Γ.1 vwCl [(ma, .inr (7, [.ref ms, .int (nI sn0), .ref mk, .int (nI (gz false true)), .ref mt, .int (nI ty0), .ref mb, .int (bI il0), .ref me, .ref mr, .int (nI my0), .ref mq, .ref mp, .ref mw, .ref mc])), (ms, .inl (Γ.2 0, 162, .inl (aN ss)))] H := hP
  have hD : va_D A [(ma, .inr (7, [.ref ms, .int (nI sn0), .ref mk, .int (nI (gz false true)), .ref mt, .int (nI ty0), .ref mb, .int (bI il0), .ref me, .ref mr, .int (nI my0), .ref mq, .ref mp, .ref mw, .ref mc])), (ms, .inl (Γ.2 0, 162, .inl (aN ss)))] := hD
  refine tp_i (y := (bI false)) (rfl) ?_
  refine nb_ifb_ne (tgt := 22) hx hb dX7_undo_17 (by decide) (fun c_17 => by exfalso; exact absurd c_17 (by decide)) (fun c_17 => ?_)
  refine lv_iconst (v := (nI 0)) hx hb dX7_undo_20 (by decide) ?_
  exact hret () hP hS (rfl) dX7_undo_21
set_option maxHeartbeats 8000000 in
set_option maxRecDepth 100000 in
theorem c_X7_undo_a (l : Launch) (Γ : kG) (ma : Nat) (ms : Nat) (sn0 : Nat) (mk : Nat) (tw0 : Nat) (mt : Nat) (ty0 : Nat) (mb : Nat) (il0 : Bool) (me : Nat) (mr : Nat) (my0 : Nat) (mq : Nat) (mp : Nat) (mw : Nat) (mc : Nat) (ss : Nat → Nat) (hz : 0 < sn0) (hsn : sn0 ≤ 6) : WRi l yX7_undo (wsq yX7_undo cX7_undo 1 (some .int)) (rmL 3) Γ [.ref ma] [(ma, .inr (7, [.ref ms, .int (nI sn0), .ref mk, .int (nI tw0), .ref mt, .int (nI ty0), .ref mb, .int (bI il0), .ref me, .ref mr, .int (nI my0), .ref mq, .ref mp, .ref mw, .ref mc])), (ms, .inl (Γ.2 0, 162, .inl (aN ss)))] (fun u : Unit => [(ma, .inr (7, [.ref ms, .int (nI (sn0 - 1)), .ref mk, .int (nI 0), .ref mt, .int (nI ty0), .ref mb, .int (bI false), .ref me, .ref mr, .int (nI my0), .ref mq, .ref mp, .ref mw, .ref mc])), (ms, .inl (Γ.2 0, 162, .inl (aN (cpB ss sn0 0 18))))]) (fun (r : Int32) (u : Unit) => r = (nI (sn0 - 1))) := by
  refine wr_ofi (cc := cX7_undo) (maxL := 1) (by decide +kernel) (Nat.le_of_ble_eq_true rfl) rfl ?_
  intro p ev R st mi args below meth cd Q A ls C0 hR hret hP hD hS hl
  obtain ⟨hx, hb, hr, hml, hown, hts, hlk, hK, hnm⟩ := C0
  have hown : st.vm.findClass RX7 = some mi.cls := hown
  refine lv_aload_n hx hb dX7_undo_0 rfl (lv_at hl 0 rfl) ?_
  refine lv_aload_n hx hb dX7_undo_1 rfl (lv_at hl 0 rfl) ?_
  refine va_get (D := Γ.1) (ci := 7) (v := .int (nI sn0)) (C := RX7) (T := TX7) (N := 15) hx hb hts hinX7 hown hK.1 hP 0 rfl rfl 1 (by decide) (hts _ mw_421) (fun _ h9 => h9) rfl dX7_undo_2 ?_
  refine nb_if_le (tgt := 12) hx hb (by omega) dX7_undo_5 (by decide) (fun c_5 => by exfalso; omega) (fun c_5 => ?_)
  refine lv_iconst (v := (nI 1)) hx hb dX7_undo_8 (by decide) ?_
  refine lv_goto (tgt := 13) hx hb dX7_undo_9 (by decide) ?_
  refine lv_iconst (v := (nI 1)) hx hb dX7_undo_13 (by decide) ?_
  refine wr_fini (va_runV (As := [.int (nI 1), .int (nI 1)]) (rest := []) ⟨hx, hb, hml, hown, hts⟩ (c_X7_goes l Γ ma ms sn0 mk tw0 mt ty0 mb il0 me mr my0 mq mp mw mc true true ) (kcwV 2 hts kv_X7_goes mw_494 (rm_le hR (Nat.le_of_ble_eq_true rfl) (Nat.le_of_ble_eq_true rfl))) (kPw_V hK (va_recv hK.1 hP (ci := 7) (q0 := 0) rfl rfl) (hP.sub (ws' := [(ma, .inr (7, [.ref ms, .int (nI sn0), .ref mk, .int (nI tw0), .ref mt, .int (nI ty0), .ref mb, .int (bI il0), .ref me, .ref mr, .int (nI my0), .ref mq, .ref mp, .ref mw, .ref mc]))]) [0] rfl) (hD.sub (ws' := [(ma, .inr (7, [.ref ms, .int (nI sn0), .ref mk, .int (nI tw0), .ref mt, .int (nI ty0), .ref mb, .int (bI il0), .ref me, .ref mr, .int (nI my0), .ref mq, .ref mp, .ref mw, .ref mc]))]) [0] (by decide) rfl)) rfl rfl hl.1 rfl (lv_room (Nat.le_of_ble_eq_true rfl)) dX7_undo_14 ⟨Nat.zero_le _, Nat.zero_le _⟩) hP hD hS [0] rfl (fun _ => rfl) (fun r _ H locs hw hP hD hS => ?_)
  obtain rfl := hw
  have hP : va_P Γ.1 vwCl [(ma, .inr (7, [.ref ms, .int (nI sn0), .ref mk, .int (nI (gz true true)), .ref mt, .int (nI ty0), .ref mb, .int (bI il0), .ref me, .ref mr, .int (nI my0), .ref mq, .ref mp, .ref mw, .ref mc])), (ms, .inl (Γ.2 0, 162, .inl (aN ss)))] H := hP
  have hD : va_D A [(ma, .inr (7, [.ref ms, .int (nI sn0), .ref mk, .int (nI (gz true true)), .ref mt, .int (nI ty0), .ref mb, .int (bI il0), .ref me, .ref mr, .int (nI my0), .ref mq, .ref mp, .ref mw, .ref mc])), (ms, .inl (Γ.2 0, 162, .inl (aN ss)))] := hD
  refine tp_i (y := (bI true)) (rfl) ?_
  refine nb_ifb_ne (tgt := 22) hx hb dX7_undo_17 (by decide) (fun c_17 => ?_) (fun c_17 => by exfalso; exact absurd c_17 (by decide))
  refine lv_aload_n hx hb dX7_undo_22 rfl (lv_at hl 0 rfl) ?_
  refine lv_aload_n hx hb dX7_undo_23 rfl (lv_at hl 0 rfl) ?_
  refine va_get (D := Γ.1) (ci := 7) (v := .int (nI sn0)) (C := RX7) (T := TX7) (N := 15) hx hb hts hinX7 hown hK.1 hP 0 rfl rfl 1 (by decide) (hts _ mw_421) (fun _ h9 => h9) rfl dX7_undo_24 ?_
  refine lv_iconst (v := (nI 0)) hx hb dX7_undo_27 (by decide) ?_
  refine wr_finv (va_runV (As := [.int (nI sn0), .int (nI 0)]) (rest := []) ⟨hx, hb, hml, hown, hts⟩ (c_X7_copies l Γ ma ms sn0 mk (gz true true) mt ty0 mb il0 me mr my0 mq mp mw mc ss sn0 0 (by first | omega | assumption) (by first | omega | assumption) (by omega)) (kcwV 2 hts kv_X7_copies mw_422 (rm_le hR (Nat.le_of_ble_eq_true rfl) (Nat.le_of_ble_eq_true rfl))) (kPw_V hK (va_recv hK.1 hP (ci := 7) (q0 := 0) rfl rfl) (hP.sub (ws' := [(ma, .inr (7, [.ref ms, .int (nI sn0), .ref mk, .int (nI (gz true true)), .ref mt, .int (nI ty0), .ref mb, .int (bI il0), .ref me, .ref mr, .int (nI my0), .ref mq, .ref mp, .ref mw, .ref mc])), (ms, .inl (Γ.2 0, 162, .inl (aN ss)))]) [0, 1] rfl) (hD.sub (ws' := [(ma, .inr (7, [.ref ms, .int (nI sn0), .ref mk, .int (nI (gz true true)), .ref mt, .int (nI ty0), .ref mb, .int (bI il0), .ref me, .ref mr, .int (nI my0), .ref mq, .ref mp, .ref mw, .ref mc])), (ms, .inl (Γ.2 0, 162, .inl (aN ss)))]) [0, 1] (by decide) rfl)) rfl rfl hl.1 rfl (lv_room (Nat.le_of_ble_eq_true rfl)) dX7_undo_28 ⟨Nat.zero_le _, Nat.zero_le _⟩) hP hD hS [0, 1] rfl (fun _ => rfl) (fun _ H locs hw hP hD hS => ?_)
  have hP : va_P Γ.1 vwCl [(ma, .inr (7, [.ref ms, .int (nI sn0), .ref mk, .int (nI (gz true true)), .ref mt, .int (nI ty0), .ref mb, .int (bI false), .ref me, .ref mr, .int (nI my0), .ref mq, .ref mp, .ref mw, .ref mc])), (ms, .inl (Γ.2 0, 162, .inl (aN (cpB ss sn0 0 18))))] H := hP
  have hD : va_D A [(ma, .inr (7, [.ref ms, .int (nI sn0), .ref mk, .int (nI (gz true true)), .ref mt, .int (nI ty0), .ref mb, .int (bI false), .ref me, .ref mr, .int (nI my0), .ref mq, .ref mp, .ref mw, .ref mc])), (ms, .inl (Γ.2 0, 162, .inl (aN (cpB ss sn0 0 18))))] := hD
  refine lv_aload_n hx hb dX7_undo_31 rfl (lv_at hl 0 rfl) ?_
  refine lv_dup hx hb dX7_undo_32 rfl ?_
  refine va_get (D := Γ.1) (ci := 7) (v := .int (nI sn0)) (C := RX7) (T := TX7) (N := 15) hx hb hts hinX7 hown hK.1 hP 0 rfl rfl 1 (by decide) (hts _ mw_421) (fun _ h9 => h9) rfl dX7_undo_33 ?_
  refine lv_iconst (v := (nI 1)) hx hb dX7_undo_36 (by decide) ?_
  refine lv_isub hx hb dX7_undo_37 ?_
  refine tp_i (y := (nI (sn0 - 1))) (ni_sub (by omega)) ?_
  refine va_put (D := Γ.1) (ci := 7) (v := .int (nI (sn0 - 1))) (ty := .int) (C := RX7) (T := TX7) (N := 15) hx hb hts hinX7 tyX7 tyX7_ok nmX7 hown hK.1 hP hD hS 0 rfl rfl 1 (by decide) (hts _ mw_421) (fun _ h9 => h9) rfl (by decide +kernel) rfl rfl (Nat.le_of_ble_eq_true rfl) dX7_undo_38 (fun H locs hP hD hS => ?_)
  have hP : va_P Γ.1 vwCl [(ma, .inr (7, [.ref ms, .int (nI (sn0 - 1)), .ref mk, .int (nI (gz true true)), .ref mt, .int (nI ty0), .ref mb, .int (bI false), .ref me, .ref mr, .int (nI my0), .ref mq, .ref mp, .ref mw, .ref mc])), (ms, .inl (Γ.2 0, 162, .inl (aN (cpB ss sn0 0 18))))] H := hP
  have hD : va_D A [(ma, .inr (7, [.ref ms, .int (nI (sn0 - 1)), .ref mk, .int (nI (gz true true)), .ref mt, .int (nI ty0), .ref mb, .int (bI false), .ref me, .ref mr, .int (nI my0), .ref mq, .ref mp, .ref mw, .ref mc])), (ms, .inl (Γ.2 0, 162, .inl (aN (cpB ss sn0 0 18))))] := hD
  refine lv_aload_n hx hb dX7_undo_41 rfl (lv_at hl 0 rfl) ?_
  refine va_get (D := Γ.1) (ci := 7) (v := .int (nI (sn0 - 1))) (C := RX7) (T := TX7) (N := 15) hx hb hts hinX7 hown hK.1 hP 0 rfl rfl 1 (by decide) (hts _ mw_421) (fun _ h9 => h9) rfl dX7_undo_42 ?_
  exact hret () hP hS (rfl) dX7_undo_45
set_option maxHeartbeats 8000000 in
set_option maxRecDepth 100000 in
theorem c_X7_again (l : Launch) (Γ : kG) (ma : Nat) (ms : Nat) (sn0 : Nat) (mk : Nat) (tw0 : Nat) (mt : Nat) (ty0 : Nat) (mb : Nat) (il0 : Bool) (me : Nat) (mr : Nat) (my0 : Nat) (mq : Nat) (mp : Nat) (mw : Nat) (mc : Nat) (ss : Nat → Nat) (hsn : sn0 ≤ 6) (h0 : ss 0 ≤ 14) (h1 : ss 1 < 2 ^ ss 0) : WRi l yX7_again (wsq yX7_again cX7_again 2 (some .int)) (rmL 3) Γ [.ref ma] [(ma, .inr (7, [.ref ms, .int (nI sn0), .ref mk, .int (nI tw0), .ref mt, .int (nI ty0), .ref mb, .int (bI il0), .ref me, .ref mr, .int (nI my0), .ref mq, .ref mp, .ref mw, .ref mc])), (ms, .inl (Γ.2 0, 162, .inl (aN ss)))] (fun u : Unit => [(ma, .inr (7, [.ref ms, .int (nI (svN sn0)), .ref mk, .int (nI 0), .ref mt, .int (nI ty0), .ref mb, .int (bI il0), .ref me, .ref mr, .int (nI my0), .ref mq, .ref mp, .ref mw, .ref mc])), (ms, .inl (Γ.2 0, 162, .inl (aN (bgS (svM ss sn0)))))]) (fun (r : Int32) (u : Unit) => r = (nI (ss 0 - pc (ss 1)))) := by
  refine wr_ofi (cc := cX7_again) (maxL := 2) (by decide +kernel) (Nat.le_of_ble_eq_true rfl) rfl ?_
  intro p ev R st mi args below meth cd Q A ls C0 hR hret hP hD hS hl
  obtain ⟨hx, hb, hr, hml, hown, hts, hlk, hK, hnm⟩ := C0
  have hown : st.vm.findClass RX7 = some mi.cls := hown
  have hw := w14 h1 h0
  have hp9 := pc_ltn h1
  refine lv_aload_n hx hb dX7_again_0 rfl (lv_at hl 0 rfl) ?_
  refine lv_iconst (v := (nI 0)) hx hb dX7_again_1 (by decide) ?_
  refine va_put (D := Γ.1) (ci := 7) (v := .int (nI 0)) (ty := .int) (C := RX7) (T := TX7) (N := 15) hx hb hts hinX7 tyX7 tyX7_ok nmX7 hown hK.1 hP hD hS 0 rfl rfl 3 (by decide) (hts _ mw_413) (fun _ h9 => h9) rfl (by decide +kernel) rfl rfl (Nat.le_of_ble_eq_true rfl) dX7_again_2 (fun H locs hP hD hS => ?_)
  have hP : va_P Γ.1 vwCl [(ma, .inr (7, [.ref ms, .int (nI sn0), .ref mk, .int (nI 0), .ref mt, .int (nI ty0), .ref mb, .int (bI il0), .ref me, .ref mr, .int (nI my0), .ref mq, .ref mp, .ref mw, .ref mc])), (ms, .inl (Γ.2 0, 162, .inl (aN ss)))] H := hP
  have hD : va_D A [(ma, .inr (7, [.ref ms, .int (nI sn0), .ref mk, .int (nI 0), .ref mt, .int (nI ty0), .ref mb, .int (bI il0), .ref me, .ref mr, .int (nI my0), .ref mq, .ref mp, .ref mw, .ref mc])), (ms, .inl (Γ.2 0, 162, .inl (aN ss)))] := hD
  refine lv_aload_n hx hb dX7_again_5 rfl (lv_at hl 0 rfl) ?_
  refine wr_finv (va_runV (As := []) (rest := []) ⟨hx, hb, hml, hown, hts⟩ (c_X7_saves l Γ ma ms sn0 mk 0 mt ty0 mb il0 me mr my0 mq mp mw mc ss (by first | omega | assumption)) (kcwV 0 hts kv_X7_saves mw_497 (rm_le hR (Nat.le_of_ble_eq_true rfl) (Nat.le_of_ble_eq_true rfl))) (kPw_V hK (va_recv hK.1 hP (ci := 7) (q0 := 0) rfl rfl) (hP.sub (ws' := [(ma, .inr (7, [.ref ms, .int (nI sn0), .ref mk, .int (nI 0), .ref mt, .int (nI ty0), .ref mb, .int (bI il0), .ref me, .ref mr, .int (nI my0), .ref mq, .ref mp, .ref mw, .ref mc])), (ms, .inl (Γ.2 0, 162, .inl (aN ss)))]) [0, 1] rfl) (hD.sub (ws' := [(ma, .inr (7, [.ref ms, .int (nI sn0), .ref mk, .int (nI 0), .ref mt, .int (nI ty0), .ref mb, .int (bI il0), .ref me, .ref mr, .int (nI my0), .ref mq, .ref mp, .ref mw, .ref mc])), (ms, .inl (Γ.2 0, 162, .inl (aN ss)))]) [0, 1] (by decide) rfl)) rfl rfl hl.1 rfl (lv_room (Nat.le_of_ble_eq_true rfl)) dX7_again_6 ⟨Nat.zero_le _, Nat.zero_le _⟩) hP hD hS [0, 1] rfl (fun _ => rfl) (fun _ H locs hw hP hD hS => ?_)
  have hP : va_P Γ.1 vwCl [(ma, .inr (7, [.ref ms, .int (nI (svN sn0)), .ref mk, .int (nI 0), .ref mt, .int (nI ty0), .ref mb, .int (bI il0), .ref me, .ref mr, .int (nI my0), .ref mq, .ref mp, .ref mw, .ref mc])), (ms, .inl (Γ.2 0, 162, .inl (aN (svM ss sn0))))] H := hP
  have hD : va_D A [(ma, .inr (7, [.ref ms, .int (nI (svN sn0)), .ref mk, .int (nI 0), .ref mt, .int (nI ty0), .ref mb, .int (bI il0), .ref me, .ref mr, .int (nI my0), .ref mq, .ref mp, .ref mw, .ref mc])), (ms, .inl (Γ.2 0, 162, .inl (aN (svM ss sn0))))] := hD
  refine lv_aload_n hx hb dX7_again_9 rfl (lv_at hl 0 rfl) ?_
  refine va_get (D := Γ.1) (ci := 7) (v := .ref ms) (C := RX7) (T := TX7) (N := 15) hx hb hts hinX7 hown hK.1 hP 0 rfl rfl 0 (by decide) (hts _ mw_400) (fun _ h9 => h9) rfl dX7_again_10 ?_
  refine lv_iconst (v := (nI 0)) hx hb dX7_again_13 (by decide) ?_
  refine iald_N hx hb hK.1 hP 1 0 rfl rfl (by omega) (by first | decide | assumption) dX7_again_14 ?_
  refine tp_i (y := (nI (ss 0))) (by rw [svM_lo hsn (by decide)]) ?_
  refine lv_aload_n hx hb dX7_again_15 rfl (lv_at hl 0 rfl) ?_
  refine va_get (D := Γ.1) (ci := 7) (v := .ref ms) (C := RX7) (T := TX7) (N := 15) hx hb hts hinX7 hown hK.1 hP 0 rfl rfl 0 (by decide) (hts _ mw_400) (fun _ h9 => h9) rfl dX7_again_16 ?_
  refine lv_iconst (v := (nI 1)) hx hb dX7_again_19 (by decide) ?_
  refine iald_N hx hb hK.1 hP 1 0 rfl rfl (by omega) (by first | decide | assumption) dX7_again_20 ?_
  refine tp_i (y := (nI (ss 1))) (by rw [svM_lo hsn (by decide)]) ?_
  refine ro_fin (va_runS (As := [.int (nI (ss 1))]) (rest := [.int (nI (ss 0))]) ⟨hx, hb, hml, hown, hts⟩ (c_X7_bits l Γ _ (ss 1) (by first | omega | assumption)) (kcwS 1 hts kv_X7_bits mw_476 (rm_le hR (Nat.le_of_ble_eq_true rfl) (Nat.le_of_ble_eq_true rfl))) (kPc_S hK) rfl rfl hl.1 rfl (lv_room (Nat.le_of_ble_eq_true rfl)) dX7_again_21 ⟨Nat.zero_le _, Nat.zero_le _⟩) hS (fun locs hS => ?_)
  refine lv_isub hx hb dX7_again_24 ?_
  refine tp_i (y := (nI ((ss 0) - (pc (ss 1))))) (ni_sub (by omega)) ?_
  refine lv_istore_n (lv' := [(1, .int (nI ((ss 0) - (pc (ss 1))))), (0, .ref ma)]) hx hb dX7_again_25 rfl hl (by decide) rfl (fun ls hl => ?_)
  refine lv_aload_n hx hb dX7_again_26 rfl (lv_at hl 1 rfl) ?_
  refine wr_finv (va_runV (As := []) (rest := []) ⟨hx, hb, hml, hown, hts⟩ (c_X7_begins l Γ ma ms (svN sn0) mk 0 mt ty0 mb il0 me mr my0 mq mp mw mc (svM ss sn0) (by rw [svM_lo hsn (by decide)]; exact h0)) (kcwV 0 hts kv_X7_begins mw_529 (rm_le hR (Nat.le_of_ble_eq_true rfl) (Nat.le_of_ble_eq_true rfl))) (kPw_V hK (va_recv hK.1 hP (ci := 7) (q0 := 0) rfl rfl) (hP.sub (ws' := [(ma, .inr (7, [.ref ms, .int (nI (svN sn0)), .ref mk, .int (nI 0), .ref mt, .int (nI ty0), .ref mb, .int (bI il0), .ref me, .ref mr, .int (nI my0), .ref mq, .ref mp, .ref mw, .ref mc])), (ms, .inl (Γ.2 0, 162, .inl (aN (svM ss sn0))))]) [0, 1] rfl) (hD.sub (ws' := [(ma, .inr (7, [.ref ms, .int (nI (svN sn0)), .ref mk, .int (nI 0), .ref mt, .int (nI ty0), .ref mb, .int (bI il0), .ref me, .ref mr, .int (nI my0), .ref mq, .ref mp, .ref mw, .ref mc])), (ms, .inl (Γ.2 0, 162, .inl (aN (svM ss sn0))))]) [0, 1] (by decide) rfl)) rfl rfl hl.1 rfl (lv_room (Nat.le_of_ble_eq_true rfl)) dX7_again_27 ⟨Nat.zero_le _, Nat.zero_le _⟩) hP hD hS [0, 1] rfl (fun _ => rfl) (fun _ H locs hw hP hD hS => ?_)
  have hP : va_P Γ.1 vwCl [(ma, .inr (7, [.ref ms, .int (nI (svN sn0)), .ref mk, .int (nI 0), .ref mt, .int (nI ty0), .ref mb, .int (bI il0), .ref me, .ref mr, .int (nI my0), .ref mq, .ref mp, .ref mw, .ref mc])), (ms, .inl (Γ.2 0, 162, .inl (aN (bgS (svM ss sn0)))))] H := hP
  have hD : va_D A [(ma, .inr (7, [.ref ms, .int (nI (svN sn0)), .ref mk, .int (nI 0), .ref mt, .int (nI ty0), .ref mb, .int (bI il0), .ref me, .ref mr, .int (nI my0), .ref mq, .ref mp, .ref mw, .ref mc])), (ms, .inl (Γ.2 0, 162, .inl (aN (bgS (svM ss sn0)))))] := hD
  refine lv_iload_n hx hb dX7_again_30 rfl (lv_at hl 0 rfl) ?_
  exact hret () hP hS (rfl) dX7_again_31
