set_option maxHeartbeats 8000000 in
set_option maxRecDepth 100000 in
theorem c_X7_node_x (l : Launch) (Γ : kG) (ma : Nat) (ms : Nat) (sn0 : Nat) (mk : Nat) (tw0 : Nat) (mt : Nat) (ty0 : Nat) (mb : Nat) (il0 : Bool) (me : Nat) (mr : Nat) (my0 : Nat) (mq : Nat) (mp : Nat) (mw : Nat) (mc : Nat) (ss : Nat → Nat) (x0 : Int32) (h0 : ss 0 ≤ 14) (hne : x0 ≠ -1) (hx0 : isN (ss 0) x0 = false) : WRi l yX7_node (wsq yX7_node cX7_node 4 (some .int)) (rmL 3) Γ [.ref ma, .int x0] [(ma, .inr (7, [.ref ms, .int (nI sn0), .ref mk, .int (nI tw0), .ref mt, .int (nI ty0), .ref mb, .int (bI il0), .ref me, .ref mr, .int (nI my0), .ref mq, .ref mp, .ref mw, .ref mc])), (ms, .inl (Γ.2 0, 162, .inl (aN ss)))] (fun u : Unit => [(ma, .inr (7, [.ref ms, .int (nI sn0), .ref mk, .int (nI 1), .ref mt, .int (nI ty0), .ref mb, .int (bI il0), .ref me, .ref mr, .int (nI my0), .ref mq, .ref mp, .ref mw, .ref mc])), (ms, .inl (Γ.2 0, 162, .inl (aN ss)))]) (fun (r : Int32) (u : Unit) => r = (nI 0)) := by
  refine wr_ofi (cc := cX7_node) (maxL := 4) (by decide +kernel) (Nat.le_of_ble_eq_true rfl) rfl ?_
  intro p ev R st mi args below meth cd Q A ls C0 hR hret hP hD hS hl
  obtain ⟨hx, hb, hr, hml, hown, hts, hlk, hK, hnm⟩ := C0
  have hown : st.vm.findClass RX7 = some mi.cls := hown
  refine lv_iload_n hx hb dX7_node_0 rfl (lv_at hl 1 rfl) ?_
  refine lv_iconst (v := (-1)) hx hb dX7_node_1 (by decide) ?_
  refine lv_icmp_eq (tgt := 13) hx hb dX7_node_2 (by decide) (fun c_2 => by exfalso; exact hne c_2) (fun c_2 => ?_)
  refine lv_aload_n hx hb dX7_node_5 rfl (lv_at hl 0 rfl) ?_
  refine lv_iload_n hx hb dX7_node_6 rfl (lv_at hl 1 rfl) ?_
  refine ro_fin (va_runV (As := [.int x0]) (rest := []) ⟨hx, hb, hml, hown, hts⟩ (c_X7_isNode l Γ _ ma ms sn0 mk tw0 mt ty0 mb il0 me mr my0 mq mp mw mc ss x0 (hP.sub (ws' := [(ma, .inr (7, [.ref ms, .int (nI sn0), .ref mk, .int (nI tw0), .ref mt, .int (nI ty0), .ref mb, .int (bI il0), .ref me, .ref mr, .int (nI my0), .ref mq, .ref mp, .ref mw, .ref mc])), (ms, .inl (Γ.2 0, 162, .inl (aN ss)))]) [0, 1] rfl) (by first | omega | assumption)) (kcwV 1 hts kv_X7_isNode mw_491 (rm_le hR (Nat.le_of_ble_eq_true rfl) (Nat.le_of_ble_eq_true rfl))) (kPc_V hK (va_recv hK.1 hP (ci := 7) (q0 := 0) rfl rfl)) rfl rfl hl.1 rfl (lv_room (Nat.le_of_ble_eq_true rfl)) dX7_node_7 ⟨Nat.zero_le _, Nat.zero_le _⟩) hS (fun locs hS => ?_)
  refine tp_i (y := (bI false)) (by rw [hx0]) ?_
  refine nb_ifb_eq (tgt := 17) hx hb dX7_node_10 (by decide) (fun c_10 => ?_) (fun c_10 => by exfalso; exact absurd c_10 (by decide))
  refine lv_iconst (v := (nI 0)) hx hb dX7_node_17 (by decide) ?_
  refine lv_istore_n (lv' := [(2, .int (nI 0)), (0, .ref ma), (1, .int x0)]) hx hb dX7_node_18 rfl hl (by decide) rfl (fun ls hl => ?_)
  refine lv_aload_n hx hb dX7_node_19 rfl (lv_at hl 1 rfl) ?_
  refine lv_iload_n hx hb dX7_node_20 rfl (lv_at hl 0 rfl) ?_
  refine lv_iload_n hx hb dX7_node_21 rfl (lv_at hl 0 rfl) ?_
  refine nb_if_eq (tgt := 53) hx hb (by omega) dX7_node_22 (by decide) (fun c_22 => ?_) (fun c_22 => by exfalso; omega)
  refine lv_iconst (v := (nI 0)) hx hb dX7_node_53 (by decide) ?_
  refine wr_fini (va_runV (As := [.int (nI 0), .int (nI 0)]) (rest := []) ⟨hx, hb, hml, hown, hts⟩ (c_X7_goes l Γ ma ms sn0 mk tw0 mt ty0 mb il0 me mr my0 mq mp mw mc false false ) (kcwV 2 hts kv_X7_goes mw_494 (rm_le hR (Nat.le_of_ble_eq_true rfl) (Nat.le_of_ble_eq_true rfl))) (kPw_V hK (va_recv hK.1 hP (ci := 7) (q0 := 0) rfl rfl) (hP.sub (ws' := [(ma, .inr (7, [.ref ms, .int (nI sn0), .ref mk, .int (nI tw0), .ref mt, .int (nI ty0), .ref mb, .int (bI il0), .ref me, .ref mr, .int (nI my0), .ref mq, .ref mp, .ref mw, .ref mc]))]) [0] rfl) (hD.sub (ws' := [(ma, .inr (7, [.ref ms, .int (nI sn0), .ref mk, .int (nI tw0), .ref mt, .int (nI ty0), .ref mb, .int (bI il0), .ref me, .ref mr, .int (nI my0), .ref mq, .ref mp, .ref mw, .ref mc]))]) [0] (by decide) rfl)) rfl rfl hl.1 rfl (lv_room (Nat.le_of_ble_eq_true rfl)) dX7_node_54 ⟨Nat.zero_le _, Nat.zero_le _⟩) hP hD hS [0] rfl (fun _ => rfl) (fun r _ H locs hw hP hD hS => ?_)
  obtain rfl := hw
  have hP : va_P Γ.1 vwCl [(ma, .inr (7, [.ref ms, .int (nI sn0), .ref mk, .int (nI (gz false false)), .ref mt, .int (nI ty0), .ref mb, .int (bI il0), .ref me, .ref mr, .int (nI my0), .ref mq, .ref mp, .ref mw, .ref mc])), (ms, .inl (Γ.2 0, 162, .inl (aN ss)))] H := hP
  have hD : va_D A [(ma, .inr (7, [.ref ms, .int (nI sn0), .ref mk, .int (nI (gz false false)), .ref mt, .int (nI ty0), .ref mb, .int (bI il0), .ref me, .ref mr, .int (nI my0), .ref mq, .ref mp, .ref mw, .ref mc])), (ms, .inl (Γ.2 0, 162, .inl (aN ss)))] := hD
  refine tp_i (y := (bI false)) (rfl) ?_
  refine nb_ifb_ne (tgt := 62) hx hb dX7_node_57 (by decide) (fun c_57 => by exfalso; exact absurd c_57 (by decide)) (fun c_57 => ?_)
  refine lv_iconst (v := (nI 0)) hx hb dX7_node_60 (by decide) ?_
  exact hret () hP hS (rfl) dX7_node_61
set_option maxHeartbeats 8000000 in
set_option maxRecDepth 100000 in
theorem c_X7_node_f (l : Launch) (Γ : kG) (ma : Nat) (ms : Nat) (sn0 : Nat) (mk : Nat) (tw0 : Nat) (mt : Nat) (ty0 : Nat) (mb : Nat) (il0 : Bool) (me : Nat) (mr : Nat) (my0 : Nat) (mq : Nat) (mp : Nat) (mw : Nat) (mc : Nat) (ss : Nat → Nat) (x0 : Int32) (h0 : ss 0 = 14) (hx0 : x0 = -1 ∨ isN (ss 0) x0 = true) : WRi l yX7_node (wsq yX7_node cX7_node 4 (some .int)) (rmL 3) Γ [.ref ma, .int x0] [(ma, .inr (7, [.ref ms, .int (nI sn0), .ref mk, .int (nI tw0), .ref mt, .int (nI ty0), .ref mb, .int (bI il0), .ref me, .ref mr, .int (nI my0), .ref mq, .ref mp, .ref mw, .ref mc])), (ms, .inl (Γ.2 0, 162, .inl (aN ss)))] (fun u : Unit => [(ma, .inr (7, [.ref ms, .int (nI sn0), .ref mk, .int (nI 2), .ref mt, .int (nI ty0), .ref mb, .int (bI il0), .ref me, .ref mr, .int (nI my0), .ref mq, .ref mp, .ref mw, .ref mc])), (ms, .inl (Γ.2 0, 162, .inl (aN ss)))]) (fun (r : Int32) (u : Unit) => r = (nI 0)) := by
  refine wr_ofi (cc := cX7_node) (maxL := 4) (by decide +kernel) (Nat.le_of_ble_eq_true rfl) rfl ?_
  intro p ev R st mi args below meth cd Q A ls C0 hR hret hP hD hS hl
  obtain ⟨hx, hb, hr, hml, hown, hts, hlk, hK, hnm⟩ := C0
  have hown : st.vm.findClass RX7 = some mi.cls := hown
  refine lv_iload_n hx hb dX7_node_0 rfl (lv_at hl 1 rfl) ?_
  refine lv_iconst (v := (-1)) hx hb dX7_node_1 (by decide) ?_
  refine lv_icmp_eq (tgt := 13) hx hb dX7_node_2 (by decide) (fun c_2 => ?_) (fun c_2 => ?_)
  · skip
    refine lv_iconst (v := (nI 1)) hx hb dX7_node_13 (by decide) ?_
    refine lv_goto (tgt := 18) hx hb dX7_node_14 (by decide) ?_
    refine lv_istore_n (lv' := [(2, .int (nI 1)), (0, .ref ma), (1, .int x0)]) hx hb dX7_node_18 rfl hl (by decide) rfl (fun ls hl => ?_)
    refine lv_aload_n hx hb dX7_node_19 rfl (lv_at hl 1 rfl) ?_
    refine lv_iload_n hx hb dX7_node_20 rfl (lv_at hl 0 rfl) ?_
    refine lv_iload_n hx hb dX7_node_21 rfl (lv_at hl 0 rfl) ?_
    refine nb_if_eq (tgt := 53) hx hb (by omega) dX7_node_22 (by decide) (fun c_22 => by exfalso; omega) (fun c_22 => ?_)
    refine lv_aload_n hx hb dX7_node_25 rfl (lv_at hl 1 rfl) ?_
    refine va_get (D := Γ.1) (ci := 7) (v := .ref ms) (C := RX7) (T := TX7) (N := 15) hx hb hts hinX7 hown hK.1 hP 0 rfl rfl 0 (by decide) (hts _ mw_400) (fun _ h9 => h9) rfl dX7_node_26 ?_
    refine lv_iconst (v := (nI 0)) hx hb dX7_node_29 (by decide) ?_
    refine iald_N hx hb hK.1 hP 1 0 rfl rfl (by omega) (by first | decide | assumption) dX7_node_30 ?_
    refine lv_bipush (v := (nI 14)) hx hb dX7_node_31 (by decide) ?_
    refine nb_icmp_ge (tgt := 53) hx hb (by first | omega | assumption) (by first | omega | assumption) dX7_node_33 (by decide) (fun c_33 => ?_) (fun c_33 => by exfalso; omega)
    refine lv_iconst (v := (nI 0)) hx hb dX7_node_53 (by decide) ?_
    refine wr_fini (va_runV (As := [.int (nI 1), .int (nI 0)]) (rest := []) ⟨hx, hb, hml, hown, hts⟩ (c_X7_goes l Γ ma ms sn0 mk tw0 mt ty0 mb il0 me mr my0 mq mp mw mc true false ) (kcwV 2 hts kv_X7_goes mw_494 (rm_le hR (Nat.le_of_ble_eq_true rfl) (Nat.le_of_ble_eq_true rfl))) (kPw_V hK (va_recv hK.1 hP (ci := 7) (q0 := 0) rfl rfl) (hP.sub (ws' := [(ma, .inr (7, [.ref ms, .int (nI sn0), .ref mk, .int (nI tw0), .ref mt, .int (nI ty0), .ref mb, .int (bI il0), .ref me, .ref mr, .int (nI my0), .ref mq, .ref mp, .ref mw, .ref mc]))]) [0] rfl) (hD.sub (ws' := [(ma, .inr (7, [.ref ms, .int (nI sn0), .ref mk, .int (nI tw0), .ref mt, .int (nI ty0), .ref mb, .int (bI il0), .ref me, .ref mr, .int (nI my0), .ref mq, .ref mp, .ref mw, .ref mc]))]) [0] (by decide) rfl)) rfl rfl hl.1 rfl (lv_room (Nat.le_of_ble_eq_true rfl)) dX7_node_54 ⟨Nat.zero_le _, Nat.zero_le _⟩) hP hD hS [0] rfl (fun _ => rfl) (fun r _ H locs hw hP hD hS => ?_)
    obtain rfl := hw
    have hP : va_P Γ.1 vwCl [(ma, .inr (7, [.ref ms, .int (nI sn0), .ref mk, .int (nI (gz true false)), .ref mt, .int (nI ty0), .ref mb, .int (bI il0), .ref me, .ref mr, .int (nI my0), .ref mq, .ref mp, .ref mw, .ref mc])), (ms, .inl (Γ.2 0, 162, .inl (aN ss)))] H := hP
    have hD : va_D A [(ma, .inr (7, [.ref ms, .int (nI sn0), .ref mk, .int (nI (gz true false)), .ref mt, .int (nI ty0), .ref mb, .int (bI il0), .ref me, .ref mr, .int (nI my0), .ref mq, .ref mp, .ref mw, .ref mc])), (ms, .inl (Γ.2 0, 162, .inl (aN ss)))] := hD
    refine tp_i (y := (bI false)) (rfl) ?_
    refine nb_ifb_ne (tgt := 62) hx hb dX7_node_57 (by decide) (fun c_57 => by exfalso; exact absurd c_57 (by decide)) (fun c_57 => ?_)
    refine lv_iconst (v := (nI 0)) hx hb dX7_node_60 (by decide) ?_
    exact hret () hP hS (rfl) dX7_node_61
  · skip
    refine lv_aload_n hx hb dX7_node_5 rfl (lv_at hl 0 rfl) ?_
    refine lv_iload_n hx hb dX7_node_6 rfl (lv_at hl 1 rfl) ?_
    refine ro_fin (va_runV (As := [.int x0]) (rest := []) ⟨hx, hb, hml, hown, hts⟩ (c_X7_isNode l Γ _ ma ms sn0 mk tw0 mt ty0 mb il0 me mr my0 mq mp mw mc ss x0 (hP.sub (ws' := [(ma, .inr (7, [.ref ms, .int (nI sn0), .ref mk, .int (nI tw0), .ref mt, .int (nI ty0), .ref mb, .int (bI il0), .ref me, .ref mr, .int (nI my0), .ref mq, .ref mp, .ref mw, .ref mc])), (ms, .inl (Γ.2 0, 162, .inl (aN ss)))]) [0, 1] rfl) (by omega)) (kcwV 1 hts kv_X7_isNode mw_491 (rm_le hR (Nat.le_of_ble_eq_true rfl) (Nat.le_of_ble_eq_true rfl))) (kPc_V hK (va_recv hK.1 hP (ci := 7) (q0 := 0) rfl rfl)) rfl rfl hl.1 rfl (lv_room (Nat.le_of_ble_eq_true rfl)) dX7_node_7 ⟨Nat.zero_le _, Nat.zero_le _⟩) hS (fun locs hS => ?_)
    refine nb_ifb_eq (tgt := 17) hx hb dX7_node_10 (by decide) (fun c_10 => by exfalso; rcases hx0 with q9 | q9 <;> simp_all) (fun c_10 => ?_)
    refine lv_iconst (v := (nI 1)) hx hb dX7_node_13 (by decide) ?_
    refine lv_goto (tgt := 18) hx hb dX7_node_14 (by decide) ?_
    refine lv_istore_n (lv' := [(2, .int (nI 1)), (0, .ref ma), (1, .int x0)]) hx hb dX7_node_18 rfl hl (by decide) rfl (fun ls hl => ?_)
    refine lv_aload_n hx hb dX7_node_19 rfl (lv_at hl 1 rfl) ?_
    refine lv_iload_n hx hb dX7_node_20 rfl (lv_at hl 0 rfl) ?_
    refine lv_iload_n hx hb dX7_node_21 rfl (lv_at hl 0 rfl) ?_
    refine nb_if_eq (tgt := 53) hx hb (by omega) dX7_node_22 (by decide) (fun c_22 => by exfalso; omega) (fun c_22 => ?_)
    refine lv_aload_n hx hb dX7_node_25 rfl (lv_at hl 1 rfl) ?_
    refine va_get (D := Γ.1) (ci := 7) (v := .ref ms) (C := RX7) (T := TX7) (N := 15) hx hb hts hinX7 hown hK.1 hP 0 rfl rfl 0 (by decide) (hts _ mw_400) (fun _ h9 => h9) rfl dX7_node_26 ?_
    refine lv_iconst (v := (nI 0)) hx hb dX7_node_29 (by decide) ?_
    refine iald_N hx hb hK.1 hP 1 0 rfl rfl (by omega) (by first | decide | assumption) dX7_node_30 ?_
    refine lv_bipush (v := (nI 14)) hx hb dX7_node_31 (by decide) ?_
    refine nb_icmp_ge (tgt := 53) hx hb (by first | omega | assumption) (by first | omega | assumption) dX7_node_33 (by decide) (fun c_33 => ?_) (fun c_33 => by exfalso; omega)
    refine lv_iconst (v := (nI 0)) hx hb dX7_node_53 (by decide) ?_
    refine wr_fini (va_runV (As := [.int (nI 1), .int (nI 0)]) (rest := []) ⟨hx, hb, hml, hown, hts⟩ (c_X7_goes l Γ ma ms sn0 mk tw0 mt ty0 mb il0 me mr my0 mq mp mw mc true false ) (kcwV 2 hts kv_X7_goes mw_494 (rm_le hR (Nat.le_of_ble_eq_true rfl) (Nat.le_of_ble_eq_true rfl))) (kPw_V hK (va_recv hK.1 hP (ci := 7) (q0 := 0) rfl rfl) (hP.sub (ws' := [(ma, .inr (7, [.ref ms, .int (nI sn0), .ref mk, .int (nI tw0), .ref mt, .int (nI ty0), .ref mb, .int (bI il0), .ref me, .ref mr, .int (nI my0), .ref mq, .ref mp, .ref mw, .ref mc]))]) [0] rfl) (hD.sub (ws' := [(ma, .inr (7, [.ref ms, .int (nI sn0), .ref mk, .int (nI tw0), .ref mt, .int (nI ty0), .ref mb, .int (bI il0), .ref me, .ref mr, .int (nI my0), .ref mq, .ref mp, .ref mw, .ref mc]))]) [0] (by decide) rfl)) rfl rfl hl.1 rfl (lv_room (Nat.le_of_ble_eq_true rfl)) dX7_node_54 ⟨Nat.zero_le _, Nat.zero_le _⟩) hP hD hS [0] rfl (fun _ => rfl) (fun r _ H locs hw hP hD hS => ?_)
    obtain rfl := hw
    have hP : va_P Γ.1 vwCl [(ma, .inr (7, [.ref ms, .int (nI sn0), .ref mk, .int (nI (gz true false)), .ref mt, .int (nI ty0), .ref mb, .int (bI il0), .ref me, .ref mr, .int (nI my0), .ref mq, .ref mp, .ref mw, .ref mc])), (ms, .inl (Γ.2 0, 162, .inl (aN ss)))] H := hP
    have hD : va_D A [(ma, .inr (7, [.ref ms, .int (nI sn0), .ref mk, .int (nI (gz true false)), .ref mt, .int (nI ty0), .ref mb, .int (bI il0), .ref me, .ref mr, .int (nI my0), .ref mq, .ref mp, .ref mw, .ref mc])), (ms, .inl (Γ.2 0, 162, .inl (aN ss)))] := hD
    refine tp_i (y := (bI false)) (rfl) ?_
    refine nb_ifb_ne (tgt := 62) hx hb dX7_node_57 (by decide) (fun c_57 => by exfalso; exact absurd c_57 (by decide)) (fun c_57 => ?_)
    refine lv_iconst (v := (nI 0)) hx hb dX7_node_60 (by decide) ?_
    exact hret () hP hS (rfl) dX7_node_61
set_option maxHeartbeats 8000000 in
set_option maxRecDepth 100000 in
theorem c_X7_node_t (l : Launch) (Γ : kG) (ma : Nat) (ms : Nat) (sn0 : Nat) (mk : Nat) (tw0 : Nat) (mt : Nat) (ty0 : Nat) (mb : Nat) (il0 : Bool) (me : Nat) (mr : Nat) (my0 : Nat) (mq : Nat) (mp : Nat) (mw : Nat) (mc : Nat) (ss : Nat → Nat) (v0 : Nat) (h0 : ss 0 < 14) (h1 : ss 1 < 16384) (hv0 : v0 < ss 0) (hb0 : (ss 1).testBit v0 = false) : WRi l yX7_node (wsq yX7_node cX7_node 4 (some .int)) (rmL 3) Γ [.ref ma, .int (nI v0)] [(ma, .inr (7, [.ref ms, .int (nI sn0), .ref mk, .int (nI tw0), .ref mt, .int (nI ty0), .ref mb, .int (bI il0), .ref me, .ref mr, .int (nI my0), .ref mq, .ref mp, .ref mw, .ref mc])), (ms, .inl (Γ.2 0, 162, .inl (aN ss)))] (fun u : Unit => [(ma, .inr (7, [.ref ms, .int (nI sn0), .ref mk, .int (nI 2), .ref mt, .int (nI ty0), .ref mb, .int (bI il0), .ref me, .ref mr, .int (nI my0), .ref mq, .ref mp, .ref mw, .ref mc])), (ms, .inl (Γ.2 0, 162, .inl (aN ss)))]) (fun (r : Int32) (u : Unit) => r = (nI 0)) := by
  refine wr_ofi (cc := cX7_node) (maxL := 4) (by decide +kernel) (Nat.le_of_ble_eq_true rfl) rfl ?_
  intro p ev R st mi args below meth cd Q A ls C0 hR hret hP hD hS hl
  obtain ⟨hx, hb, hr, hml, hown, hts, hlk, hK, hnm⟩ := C0
  have hown : st.vm.findClass RX7 = some mi.cls := hown
  refine lv_iload_n hx hb dX7_node_0 rfl (lv_at hl 1 rfl) ?_
  refine lv_iconst (v := (-1)) hx hb dX7_node_1 (by decide) ?_
  refine lv_icmp_eq (tgt := 13) hx hb dX7_node_2 (by decide) (fun c_2 => by exfalso; exact nI_m1 (by omega) c_2) (fun c_2 => ?_)
  refine lv_aload_n hx hb dX7_node_5 rfl (lv_at hl 0 rfl) ?_
  refine lv_iload_n hx hb dX7_node_6 rfl (lv_at hl 1 rfl) ?_
  refine ro_fin (va_runV (As := [.int (nI v0)]) (rest := []) ⟨hx, hb, hml, hown, hts⟩ (c_X7_isNode l Γ _ ma ms sn0 mk tw0 mt ty0 mb il0 me mr my0 mq mp mw mc ss (nI v0) (hP.sub (ws' := [(ma, .inr (7, [.ref ms, .int (nI sn0), .ref mk, .int (nI tw0), .ref mt, .int (nI ty0), .ref mb, .int (bI il0), .ref me, .ref mr, .int (nI my0), .ref mq, .ref mp, .ref mw, .ref mc])), (ms, .inl (Γ.2 0, 162, .inl (aN ss)))]) [0, 1] rfl) (by omega)) (kcwV 1 hts kv_X7_isNode mw_491 (rm_le hR (Nat.le_of_ble_eq_true rfl) (Nat.le_of_ble_eq_true rfl))) (kPc_V hK (va_recv hK.1 hP (ci := 7) (q0 := 0) rfl rfl)) rfl rfl hl.1 rfl (lv_room (Nat.le_of_ble_eq_true rfl)) dX7_node_7 ⟨Nat.zero_le _, Nat.zero_le _⟩) hS (fun locs hS => ?_)
  refine tp_i (y := (bI true)) (by rw [isN_t (by omega) hv0]) ?_
  refine nb_ifb_eq (tgt := 17) hx hb dX7_node_10 (by decide) (fun c_10 => by exfalso; exact absurd c_10 (by decide)) (fun c_10 => ?_)
  refine lv_iconst (v := (nI 1)) hx hb dX7_node_13 (by decide) ?_
  refine lv_goto (tgt := 18) hx hb dX7_node_14 (by decide) ?_
  refine lv_istore_n (lv' := [(2, .int (nI 1)), (0, .ref ma), (1, .int (nI v0))]) hx hb dX7_node_18 rfl hl (by decide) rfl (fun ls hl => ?_)
  refine lv_aload_n hx hb dX7_node_19 rfl (lv_at hl 1 rfl) ?_
  refine lv_iload_n hx hb dX7_node_20 rfl (lv_at hl 0 rfl) ?_
  refine lv_iload_n hx hb dX7_node_21 rfl (lv_at hl 0 rfl) ?_
  refine nb_if_eq (tgt := 53) hx hb (by omega) dX7_node_22 (by decide) (fun c_22 => by exfalso; omega) (fun c_22 => ?_)
  refine lv_aload_n hx hb dX7_node_25 rfl (lv_at hl 1 rfl) ?_
  refine va_get (D := Γ.1) (ci := 7) (v := .ref ms) (C := RX7) (T := TX7) (N := 15) hx hb hts hinX7 hown hK.1 hP 0 rfl rfl 0 (by decide) (hts _ mw_400) (fun _ h9 => h9) rfl dX7_node_26 ?_
  refine lv_iconst (v := (nI 0)) hx hb dX7_node_29 (by decide) ?_
  refine iald_N hx hb hK.1 hP 1 0 rfl rfl (by omega) (by first | decide | assumption) dX7_node_30 ?_
  refine lv_bipush (v := (nI 14)) hx hb dX7_node_31 (by decide) ?_
  refine nb_icmp_ge (tgt := 53) hx hb (by first | omega | assumption) (by first | omega | assumption) dX7_node_33 (by decide) (fun c_33 => by exfalso; omega) (fun c_33 => ?_)
  refine lv_iload_n hx hb dX7_node_36 rfl (lv_at hl 2 rfl) ?_
  refine lv_iconst (v := (-1)) hx hb dX7_node_37 (by decide) ?_
  refine lv_icmp_eq (tgt := 49) hx hb dX7_node_38 (by decide) (fun c_38 => by exfalso; exact nI_m1 (by omega) c_38) (fun c_38 => ?_)
  refine lv_aload_n hx hb dX7_node_41 rfl (lv_at hl 1 rfl) ?_
  refine lv_iload_n hx hb dX7_node_42 rfl (lv_at hl 2 rfl) ?_
  refine ro_fin (va_runV (As := [.int (nI v0)]) (rest := [.int (nI 1), .ref ma]) ⟨hx, hb, hml, hown, hts⟩ (c_X7_isThere l Γ _ ma ms sn0 mk tw0 mt ty0 mb il0 me mr my0 mq mp mw mc ss v0 (hP.sub (ws' := [(ma, .inr (7, [.ref ms, .int (nI sn0), .ref mk, .int (nI tw0), .ref mt, .int (nI ty0), .ref mb, .int (bI il0), .ref me, .ref mr, .int (nI my0), .ref mq, .ref mp, .ref mw, .ref mc])), (ms, .inl (Γ.2 0, 162, .inl (aN ss)))]) [0, 1] rfl) (by first | omega | assumption) (by first | omega | assumption)) (kcwV 1 hts kv_X7_isThere mw_470 (rm_le hR (Nat.le_of_ble_eq_true rfl) (Nat.le_of_ble_eq_true rfl))) (kPc_V hK (va_recv hK.1 hP (ci := 7) (q0 := 0) rfl rfl)) rfl rfl hl.1 rfl (lv_room (Nat.le_of_ble_eq_true rfl)) dX7_node_43 ⟨Nat.zero_le _, Nat.zero_le _⟩) hS (fun locs hS => ?_)
  refine tp_i (y := (bI false)) (by rw [hb0]) ?_
  refine nb_ifb_eq (tgt := 53) hx hb dX7_node_46 (by decide) (fun c_46 => ?_) (fun c_46 => by exfalso; exact absurd c_46 (by decide))
  refine lv_iconst (v := (nI 0)) hx hb dX7_node_53 (by decide) ?_
  refine wr_fini (va_runV (As := [.int (nI 1), .int (nI 0)]) (rest := []) ⟨hx, hb, hml, hown, hts⟩ (c_X7_goes l Γ ma ms sn0 mk tw0 mt ty0 mb il0 me mr my0 mq mp mw mc true false ) (kcwV 2 hts kv_X7_goes mw_494 (rm_le hR (Nat.le_of_ble_eq_true rfl) (Nat.le_of_ble_eq_true rfl))) (kPw_V hK (va_recv hK.1 hP (ci := 7) (q0 := 0) rfl rfl) (hP.sub (ws' := [(ma, .inr (7, [.ref ms, .int (nI sn0), .ref mk, .int (nI tw0), .ref mt, .int (nI ty0), .ref mb, .int (bI il0), .ref me, .ref mr, .int (nI my0), .ref mq, .ref mp, .ref mw, .ref mc]))]) [0] rfl) (hD.sub (ws' := [(ma, .inr (7, [.ref ms, .int (nI sn0), .ref mk, .int (nI tw0), .ref mt, .int (nI ty0), .ref mb, .int (bI il0), .ref me, .ref mr, .int (nI my0), .ref mq, .ref mp, .ref mw, .ref mc]))]) [0] (by decide) rfl)) rfl rfl hl.1 rfl (lv_room (Nat.le_of_ble_eq_true rfl)) dX7_node_54 ⟨Nat.zero_le _, Nat.zero_le _⟩) hP hD hS [0] rfl (fun _ => rfl) (fun r _ H locs hw hP hD hS => ?_)
  obtain rfl := hw
  have hP : va_P Γ.1 vwCl [(ma, .inr (7, [.ref ms, .int (nI sn0), .ref mk, .int (nI (gz true false)), .ref mt, .int (nI ty0), .ref mb, .int (bI il0), .ref me, .ref mr, .int (nI my0), .ref mq, .ref mp, .ref mw, .ref mc])), (ms, .inl (Γ.2 0, 162, .inl (aN ss)))] H := hP
  have hD : va_D A [(ma, .inr (7, [.ref ms, .int (nI sn0), .ref mk, .int (nI (gz true false)), .ref mt, .int (nI ty0), .ref mb, .int (bI il0), .ref me, .ref mr, .int (nI my0), .ref mq, .ref mp, .ref mw, .ref mc])), (ms, .inl (Γ.2 0, 162, .inl (aN ss)))] := hD
  refine tp_i (y := (bI false)) (rfl) ?_
  refine nb_ifb_ne (tgt := 62) hx hb dX7_node_57 (by decide) (fun c_57 => by exfalso; exact absurd c_57 (by decide)) (fun c_57 => ?_)
  refine lv_iconst (v := (nI 0)) hx hb dX7_node_60 (by decide) ?_
  exact hret () hP hS (rfl) dX7_node_61
set_option maxHeartbeats 8000000 in
set_option maxRecDepth 100000 in
theorem c_X7_node_e (l : Launch) (Γ : kG) (ma : Nat) (ms : Nat) (sn0 : Nat) (mk : Nat) (tw0 : Nat) (mt : Nat) (ty0 : Nat) (mb : Nat) (il0 : Bool) (me : Nat) (mr : Nat) (my0 : Nat) (mq : Nat) (mp : Nat) (mw : Nat) (mc : Nat) (ss : Nat → Nat) (h0 : ss 0 < 14) (hsn : sn0 ≤ 6) : WRi l yX7_node (wsq yX7_node cX7_node 4 (some .int)) (rmL 3) Γ [.ref ma, .int (-1)] [(ma, .inr (7, [.ref ms, .int (nI sn0), .ref mk, .int (nI tw0), .ref mt, .int (nI ty0), .ref mb, .int (bI il0), .ref me, .ref mr, .int (nI my0), .ref mq, .ref mp, .ref mw, .ref mc])), (ms, .inl (Γ.2 0, 162, .inl (aN ss)))] (fun u : Unit => [(ma, .inr (7, [.ref ms, .int (nI (svN sn0)), .ref mk, .int (nI 0), .ref mt, .int (nI ty0), .ref mb, .int (bI false), .ref me, .ref mr, .int (nI my0), .ref mq, .ref mp, .ref mw, .ref mc])), (ms, .inl (Γ.2 0, 162, .inl (aN (upN (upN (upN (svM ss sn0) 0 (ss 0 + 1)) 1 (ss 1 ||| 2 ^ ss 0)) (4 + ss 0) 0))))]) (fun (r : Int32) (u : Unit) => r = (nI (ss 0))) := by
  refine wr_ofi (cc := cX7_node) (maxL := 4) (by decide +kernel) (Nat.le_of_ble_eq_true rfl) rfl ?_
  intro p ev R st mi args below meth cd Q A ls C0 hR hret hP hD hS hl
  obtain ⟨hx, hb, hr, hml, hown, hts, hlk, hK, hnm⟩ := C0
  have hown : st.vm.findClass RX7 = some mi.cls := hown
  refine lv_iload_n hx hb dX7_node_0 rfl (lv_at hl 1 rfl) ?_
  refine lv_iconst (v := (-1)) hx hb dX7_node_1 (by decide) ?_
  refine lv_icmp_eq (tgt := 13) hx hb dX7_node_2 (by decide) (fun c_2 => ?_) (fun c_2 => by exfalso; first | exact c_2 rfl | simp_all)
  refine lv_iconst (v := (nI 1)) hx hb dX7_node_13 (by decide) ?_
  refine lv_goto (tgt := 18) hx hb dX7_node_14 (by decide) ?_
  refine lv_istore_n (lv' := [(2, .int (nI 1)), (0, .ref ma), (1, .int (-1))]) hx hb dX7_node_18 rfl hl (by decide) rfl (fun ls hl => ?_)
  refine lv_aload_n hx hb dX7_node_19 rfl (lv_at hl 1 rfl) ?_
  refine lv_iload_n hx hb dX7_node_20 rfl (lv_at hl 0 rfl) ?_
  refine lv_iload_n hx hb dX7_node_21 rfl (lv_at hl 0 rfl) ?_
  refine nb_if_eq (tgt := 53) hx hb (by omega) dX7_node_22 (by decide) (fun c_22 => by exfalso; omega) (fun c_22 => ?_)
  refine lv_aload_n hx hb dX7_node_25 rfl (lv_at hl 1 rfl) ?_
  refine va_get (D := Γ.1) (ci := 7) (v := .ref ms) (C := RX7) (T := TX7) (N := 15) hx hb hts hinX7 hown hK.1 hP 0 rfl rfl 0 (by decide) (hts _ mw_400) (fun _ h9 => h9) rfl dX7_node_26 ?_
  refine lv_iconst (v := (nI 0)) hx hb dX7_node_29 (by decide) ?_
  refine iald_N hx hb hK.1 hP 1 0 rfl rfl (by omega) (by first | decide | assumption) dX7_node_30 ?_
  refine lv_bipush (v := (nI 14)) hx hb dX7_node_31 (by decide) ?_
  refine nb_icmp_ge (tgt := 53) hx hb (by first | omega | assumption) (by first | omega | assumption) dX7_node_33 (by decide) (fun c_33 => by exfalso; omega) (fun c_33 => ?_)
  refine lv_iload_n hx hb dX7_node_36 rfl (lv_at hl 2 rfl) ?_
  refine lv_iconst (v := (-1)) hx hb dX7_node_37 (by decide) ?_
  refine lv_icmp_eq (tgt := 49) hx hb dX7_node_38 (by decide) (fun c_38 => ?_) (fun c_38 => by exfalso; first | exact c_38 rfl | simp_all)
  refine lv_iconst (v := (nI 1)) hx hb dX7_node_49 (by decide) ?_
  refine lv_goto (tgt := 54) hx hb dX7_node_50 (by decide) ?_
  refine wr_fini (va_runV (As := [.int (nI 1), .int (nI 1)]) (rest := []) ⟨hx, hb, hml, hown, hts⟩ (c_X7_goes l Γ ma ms sn0 mk tw0 mt ty0 mb il0 me mr my0 mq mp mw mc true true ) (kcwV 2 hts kv_X7_goes mw_494 (rm_le hR (Nat.le_of_ble_eq_true rfl) (Nat.le_of_ble_eq_true rfl))) (kPw_V hK (va_recv hK.1 hP (ci := 7) (q0 := 0) rfl rfl) (hP.sub (ws' := [(ma, .inr (7, [.ref ms, .int (nI sn0), .ref mk, .int (nI tw0), .ref mt, .int (nI ty0), .ref mb, .int (bI il0), .ref me, .ref mr, .int (nI my0), .ref mq, .ref mp, .ref mw, .ref mc]))]) [0] rfl) (hD.sub (ws' := [(ma, .inr (7, [.ref ms, .int (nI sn0), .ref mk, .int (nI tw0), .ref mt, .int (nI ty0), .ref mb, .int (bI il0), .ref me, .ref mr, .int (nI my0), .ref mq, .ref mp, .ref mw, .ref mc]))]) [0] (by decide) rfl)) rfl rfl hl.1 rfl (lv_room (Nat.le_of_ble_eq_true rfl)) dX7_node_54 ⟨Nat.zero_le _, Nat.zero_le _⟩) hP hD hS [0] rfl (fun _ => rfl) (fun r _ H locs hw hP hD hS => ?_)
  obtain rfl := hw
  have hP : va_P Γ.1 vwCl [(ma, .inr (7, [.ref ms, .int (nI sn0), .ref mk, .int (nI (gz true true)), .ref mt, .int (nI ty0), .ref mb, .int (bI il0), .ref me, .ref mr, .int (nI my0), .ref mq, .ref mp, .ref mw, .ref mc])), (ms, .inl (Γ.2 0, 162, .inl (aN ss)))] H := hP
  have hD : va_D A [(ma, .inr (7, [.ref ms, .int (nI sn0), .ref mk, .int (nI (gz true true)), .ref mt, .int (nI ty0), .ref mb, .int (bI il0), .ref me, .ref mr, .int (nI my0), .ref mq, .ref mp, .ref mw, .ref mc])), (ms, .inl (Γ.2 0, 162, .inl (aN ss)))] := hD
  refine tp_i (y := (bI true)) (rfl) ?_
  refine nb_ifb_ne (tgt := 62) hx hb dX7_node_57 (by decide) (fun c_57 => ?_) (fun c_57 => by exfalso; exact absurd c_57 (by decide))
  refine lv_aload_n hx hb dX7_node_62 rfl (lv_at hl 1 rfl) ?_
  refine wr_finv (va_runV (As := []) (rest := []) ⟨hx, hb, hml, hown, hts⟩ (c_X7_saves l Γ ma ms sn0 mk (gz true true) mt ty0 mb il0 me mr my0 mq mp mw mc ss (by first | omega | assumption)) (kcwV 0 hts kv_X7_saves mw_497 (rm_le hR (Nat.le_of_ble_eq_true rfl) (Nat.le_of_ble_eq_true rfl))) (kPw_V hK (va_recv hK.1 hP (ci := 7) (q0 := 0) rfl rfl) (hP.sub (ws' := [(ma, .inr (7, [.ref ms, .int (nI sn0), .ref mk, .int (nI (gz true true)), .ref mt, .int (nI ty0), .ref mb, .int (bI il0), .ref me, .ref mr, .int (nI my0), .ref mq, .ref mp, .ref mw, .ref mc])), (ms, .inl (Γ.2 0, 162, .inl (aN ss)))]) [0, 1] rfl) (hD.sub (ws' := [(ma, .inr (7, [.ref ms, .int (nI sn0), .ref mk, .int (nI (gz true true)), .ref mt, .int (nI ty0), .ref mb, .int (bI il0), .ref me, .ref mr, .int (nI my0), .ref mq, .ref mp, .ref mw, .ref mc])), (ms, .inl (Γ.2 0, 162, .inl (aN ss)))]) [0, 1] (by decide) rfl)) rfl rfl hl.1 rfl (lv_room (Nat.le_of_ble_eq_true rfl)) dX7_node_63 ⟨Nat.zero_le _, Nat.zero_le _⟩) hP hD hS [0, 1] rfl (fun _ => rfl) (fun _ H locs hw hP hD hS => ?_)
  have hP : va_P Γ.1 vwCl [(ma, .inr (7, [.ref ms, .int (nI (svN sn0)), .ref mk, .int (nI (gz true true)), .ref mt, .int (nI ty0), .ref mb, .int (bI il0), .ref me, .ref mr, .int (nI my0), .ref mq, .ref mp, .ref mw, .ref mc])), (ms, .inl (Γ.2 0, 162, .inl (aN (svM ss sn0))))] H := hP
  have hD : va_D A [(ma, .inr (7, [.ref ms, .int (nI (svN sn0)), .ref mk, .int (nI (gz true true)), .ref mt, .int (nI ty0), .ref mb, .int (bI il0), .ref me, .ref mr, .int (nI my0), .ref mq, .ref mp, .ref mw, .ref mc])), (ms, .inl (Γ.2 0, 162, .inl (aN (svM ss sn0))))] := hD
  refine lv_aload_n hx hb dX7_node_66 rfl (lv_at hl 1 rfl) ?_
  refine va_get (D := Γ.1) (ci := 7) (v := .ref ms) (C := RX7) (T := TX7) (N := 15) hx hb hts hinX7 hown hK.1 hP 0 rfl rfl 0 (by decide) (hts _ mw_400) (fun _ h9 => h9) rfl dX7_node_67 ?_
  refine lv_iconst (v := (nI 0)) hx hb dX7_node_70 (by decide) ?_
  refine iald_N hx hb hK.1 hP 1 0 rfl rfl (by omega) (by first | decide | assumption) dX7_node_71 ?_
  refine tp_i (y := (nI (ss 0))) (by rw [svM_lo hsn (by decide)]) ?_
  refine lv_istore_n (lv' := [(3, .int (nI (ss 0))), (2, .int (nI 1)), (0, .ref ma), (1, .int (-1))]) hx hb dX7_node_72 rfl hl (by decide) rfl (fun ls hl => ?_)
  refine lv_aload_n hx hb dX7_node_73 rfl (lv_at hl 2 rfl) ?_
  refine va_get (D := Γ.1) (ci := 7) (v := .ref ms) (C := RX7) (T := TX7) (N := 15) hx hb hts hinX7 hown hK.1 hP 0 rfl rfl 0 (by decide) (hts _ mw_400) (fun _ h9 => h9) rfl dX7_node_74 ?_
  refine lv_iconst (v := (nI 0)) hx hb dX7_node_77 (by decide) ?_
  refine lv_dup2_11 hx hb dX7_node_78 rfl rfl ?_
  refine iald_N hx hb hK.1 hP 1 0 rfl rfl (by omega) (by first | decide | assumption) dX7_node_79 ?_
  refine tp_i (y := (nI (ss 0))) (by rw [svM_lo hsn (by decide)]) ?_
  refine lv_iconst (v := (nI 1)) hx hb dX7_node_80 (by decide) ?_
  refine lv_iadd hx hb dX7_node_81 ?_
  refine tp_i (y := (nI ((ss 0) + 1))) (nI_add _ _) ?_
  refine iast_N hx hb hK.1 hP hD hS 1 0 rfl rfl (by omega) (by first | decide | assumption) dX7_node_82 (fun H locs hP hD hS => ?_)
  have hP : va_P Γ.1 vwCl [(ma, .inr (7, [.ref ms, .int (nI (svN sn0)), .ref mk, .int (nI (gz true true)), .ref mt, .int (nI ty0), .ref mb, .int (bI il0), .ref me, .ref mr, .int (nI my0), .ref mq, .ref mp, .ref mw, .ref mc])), (ms, .inl (Γ.2 0, 162, .inl (aN (upN (svM ss sn0) 0 ((ss 0) + 1)))))] H := hP
  have hD : va_D A [(ma, .inr (7, [.ref ms, .int (nI (svN sn0)), .ref mk, .int (nI (gz true true)), .ref mt, .int (nI ty0), .ref mb, .int (bI il0), .ref me, .ref mr, .int (nI my0), .ref mq, .ref mp, .ref mw, .ref mc])), (ms, .inl (Γ.2 0, 162, .inl (aN (upN (svM ss sn0) 0 ((ss 0) + 1)))))] := hD
  refine lv_aload_n hx hb dX7_node_83 rfl (lv_at hl 2 rfl) ?_
  refine va_get (D := Γ.1) (ci := 7) (v := .ref ms) (C := RX7) (T := TX7) (N := 15) hx hb hts hinX7 hown hK.1 hP 0 rfl rfl 0 (by decide) (hts _ mw_400) (fun _ h9 => h9) rfl dX7_node_84 ?_
  refine lv_iconst (v := (nI 1)) hx hb dX7_node_87 (by decide) ?_
  refine lv_dup2_11 hx hb dX7_node_88 rfl rfl ?_
  refine iald_N hx hb hK.1 hP 1 0 rfl rfl (by omega) (by first | decide | assumption) dX7_node_89 ?_
  refine tp_i (y := (nI (ss 1))) (by rw [upN_n _ _ (by decide), svM_lo hsn (by decide)]) ?_
  refine lv_iconst (v := (nI 1)) hx hb dX7_node_90 (by decide) ?_
  refine lv_iload_n hx hb dX7_node_91 rfl (lv_at hl 0 rfl) ?_
  refine lv_ishl hx hb dX7_node_92 ?_
  refine tp_i (y := (nI (2 ^ (ss 0)))) (ni_shl1 (by omega)) ?_
  refine lv_ior hx hb dX7_node_93 ?_
  refine tp_i (y := (nI ((ss 1) ||| (2 ^ (ss 0))))) (ni_or _ _) ?_
  refine iast_N hx hb hK.1 hP hD hS 1 0 rfl rfl (by omega) (by first | decide | assumption) dX7_node_94 (fun H locs hP hD hS => ?_)
  have hP : va_P Γ.1 vwCl [(ma, .inr (7, [.ref ms, .int (nI (svN sn0)), .ref mk, .int (nI (gz true true)), .ref mt, .int (nI ty0), .ref mb, .int (bI il0), .ref me, .ref mr, .int (nI my0), .ref mq, .ref mp, .ref mw, .ref mc])), (ms, .inl (Γ.2 0, 162, .inl (aN (upN (upN (svM ss sn0) 0 ((ss 0) + 1)) 1 ((ss 1) ||| (2 ^ (ss 0)))))))] H := hP
  have hD : va_D A [(ma, .inr (7, [.ref ms, .int (nI (svN sn0)), .ref mk, .int (nI (gz true true)), .ref mt, .int (nI ty0), .ref mb, .int (bI il0), .ref me, .ref mr, .int (nI my0), .ref mq, .ref mp, .ref mw, .ref mc])), (ms, .inl (Γ.2 0, 162, .inl (aN (upN (upN (svM ss sn0) 0 ((ss 0) + 1)) 1 ((ss 1) ||| (2 ^ (ss 0)))))))] := hD
  refine lv_aload_n hx hb dX7_node_95 rfl (lv_at hl 2 rfl) ?_
  refine va_get (D := Γ.1) (ci := 7) (v := .ref ms) (C := RX7) (T := TX7) (N := 15) hx hb hts hinX7 hown hK.1 hP 0 rfl rfl 0 (by decide) (hts _ mw_400) (fun _ h9 => h9) rfl dX7_node_96 ?_
  refine lv_iconst (v := (nI 4)) hx hb dX7_node_99 (by decide) ?_
  refine lv_iload_n hx hb dX7_node_100 rfl (lv_at hl 0 rfl) ?_
  refine lv_iadd hx hb dX7_node_101 ?_
  refine tp_i (y := (nI (4 + (ss 0)))) (nI_add _ _) ?_
  refine lv_iconst (v := (nI 0)) hx hb dX7_node_102 (by decide) ?_
  refine iast_N hx hb hK.1 hP hD hS 1 0 rfl rfl (by omega) (by first | decide | assumption) dX7_node_103 (fun H locs hP hD hS => ?_)
  have hP : va_P Γ.1 vwCl [(ma, .inr (7, [.ref ms, .int (nI (svN sn0)), .ref mk, .int (nI (gz true true)), .ref mt, .int (nI ty0), .ref mb, .int (bI il0), .ref me, .ref mr, .int (nI my0), .ref mq, .ref mp, .ref mw, .ref mc])), (ms, .inl (Γ.2 0, 162, .inl (aN (upN (upN (upN (svM ss sn0) 0 ((ss 0) + 1)) 1 ((ss 1) ||| (2 ^ (ss 0)))) (4 + (ss 0)) 0))))] H := hP
  have hD : va_D A [(ma, .inr (7, [.ref ms, .int (nI (svN sn0)), .ref mk, .int (nI (gz true true)), .ref mt, .int (nI ty0), .ref mb, .int (bI il0), .ref me, .ref mr, .int (nI my0), .ref mq, .ref mp, .ref mw, .ref mc])), (ms, .inl (Γ.2 0, 162, .inl (aN (upN (upN (upN (svM ss sn0) 0 ((ss 0) + 1)) 1 ((ss 1) ||| (2 ^ (ss 0)))) (4 + (ss 0)) 0))))] := hD
  refine lv_aload_n hx hb dX7_node_104 rfl (lv_at hl 2 rfl) ?_
  refine lv_iconst (v := (nI 0)) hx hb dX7_node_105 (by decide) ?_
  refine tp_i (y := (bI false)) (rfl) ?_
  refine va_put (D := Γ.1) (ci := 7) (v := .int (bI false)) (ty := .boolean) (C := RX7) (T := TX7) (N := 15) hx hb hts hinX7 tyX7 tyX7_ok nmX7 hown hK.1 hP hD hS 0 rfl rfl 7 (by decide) (hts _ mw_419) (fun _ h9 => h9) rfl (by decide +kernel) (bI_nar _) (bI_fit _) (Nat.le_of_ble_eq_true rfl) dX7_node_106 (fun H locs hP hD hS => ?_)
  have hP : va_P Γ.1 vwCl [(ma, .inr (7, [.ref ms, .int (nI (svN sn0)), .ref mk, .int (nI (gz true true)), .ref mt, .int (nI ty0), .ref mb, .int (bI false), .ref me, .ref mr, .int (nI my0), .ref mq, .ref mp, .ref mw, .ref mc])), (ms, .inl (Γ.2 0, 162, .inl (aN (upN (upN (upN (svM ss sn0) 0 ((ss 0) + 1)) 1 ((ss 1) ||| (2 ^ (ss 0)))) (4 + (ss 0)) 0))))] H := hP
  have hD : va_D A [(ma, .inr (7, [.ref ms, .int (nI (svN sn0)), .ref mk, .int (nI (gz true true)), .ref mt, .int (nI ty0), .ref mb, .int (bI false), .ref me, .ref mr, .int (nI my0), .ref mq, .ref mp, .ref mw, .ref mc])), (ms, .inl (Γ.2 0, 162, .inl (aN (upN (upN (upN (svM ss sn0) 0 ((ss 0) + 1)) 1 ((ss 1) ||| (2 ^ (ss 0)))) (4 + (ss 0)) 0))))] := hD
  refine lv_iload_n hx hb dX7_node_109 rfl (lv_at hl 3 rfl) ?_
  refine lv_if_lt (tgt := 120) hx hb dX7_node_110 (by decide) (fun c_110 => ?_) (fun c_110 => by exfalso; first | exact absurd (by decide) c_110 | exact absurd c_110 (by decide))
  refine lv_iload_n hx hb dX7_node_120 rfl (lv_at hl 0 rfl) ?_
  exact hret () hP hS (rfl) dX7_node_121
set_option maxHeartbeats 8000000 in
set_option maxRecDepth 100000 in
theorem c_X7_node_a (l : Launch) (Γ : kG) (ma : Nat) (ms : Nat) (sn0 : Nat) (mk : Nat) (tw0 : Nat) (mt : Nat) (ty0 : Nat) (mb : Nat) (il0 : Bool) (me : Nat) (mr : Nat) (my0 : Nat) (mq : Nat) (mp : Nat) (mw : Nat) (mc : Nat) (ss : Nat → Nat) (v0 : Nat) (h0 : ss 0 < 14) (h1 : ss 1 < 16384) (hv0 : v0 < ss 0) (hb0 : (ss 1).testBit v0 = true) (hsn : sn0 ≤ 6) : WRi l yX7_node (wsq yX7_node cX7_node 4 (some .int)) (rmL 3) Γ [.ref ma, .int (nI v0)] [(ma, .inr (7, [.ref ms, .int (nI sn0), .ref mk, .int (nI tw0), .ref mt, .int (nI ty0), .ref mb, .int (bI il0), .ref me, .ref mr, .int (nI my0), .ref mq, .ref mp, .ref mw, .ref mc])), (ms, .inl (Γ.2 0, 162, .inl (aN ss)))] (fun u : Unit => [(ma, .inr (7, [.ref ms, .int (nI (svN sn0)), .ref mk, .int (nI 0), .ref mt, .int (nI ty0), .ref mb, .int (bI false), .ref me, .ref mr, .int (nI my0), .ref mq, .ref mp, .ref mw, .ref mc])), (ms, .inl (Γ.2 0, 162, .inl (aN (lkS (upN (upN (upN (svM ss sn0) 0 (ss 0 + 1)) 1 (ss 1 ||| 2 ^ ss 0)) (4 + ss 0) 0) (ss 0) v0 true))))]) (fun (r : Int32) (u : Unit) => r = (nI (ss 0))) := by
  refine wr_ofi (cc := cX7_node) (maxL := 4) (by decide +kernel) (Nat.le_of_ble_eq_true rfl) rfl ?_
  intro p ev R st mi args below meth cd Q A ls C0 hR hret hP hD hS hl
  obtain ⟨hx, hb, hr, hml, hown, hts, hlk, hK, hnm⟩ := C0
  have hown : st.vm.findClass RX7 = some mi.cls := hown
  refine lv_iload_n hx hb dX7_node_0 rfl (lv_at hl 1 rfl) ?_
  refine lv_iconst (v := (-1)) hx hb dX7_node_1 (by decide) ?_
  refine lv_icmp_eq (tgt := 13) hx hb dX7_node_2 (by decide) (fun c_2 => by exfalso; exact nI_m1 (by omega) c_2) (fun c_2 => ?_)
  refine lv_aload_n hx hb dX7_node_5 rfl (lv_at hl 0 rfl) ?_
  refine lv_iload_n hx hb dX7_node_6 rfl (lv_at hl 1 rfl) ?_
  refine ro_fin (va_runV (As := [.int (nI v0)]) (rest := []) ⟨hx, hb, hml, hown, hts⟩ (c_X7_isNode l Γ _ ma ms sn0 mk tw0 mt ty0 mb il0 me mr my0 mq mp mw mc ss (nI v0) (hP.sub (ws' := [(ma, .inr (7, [.ref ms, .int (nI sn0), .ref mk, .int (nI tw0), .ref mt, .int (nI ty0), .ref mb, .int (bI il0), .ref me, .ref mr, .int (nI my0), .ref mq, .ref mp, .ref mw, .ref mc])), (ms, .inl (Γ.2 0, 162, .inl (aN ss)))]) [0, 1] rfl) (by omega)) (kcwV 1 hts kv_X7_isNode mw_491 (rm_le hR (Nat.le_of_ble_eq_true rfl) (Nat.le_of_ble_eq_true rfl))) (kPc_V hK (va_recv hK.1 hP (ci := 7) (q0 := 0) rfl rfl)) rfl rfl hl.1 rfl (lv_room (Nat.le_of_ble_eq_true rfl)) dX7_node_7 ⟨Nat.zero_le _, Nat.zero_le _⟩) hS (fun locs hS => ?_)
  refine tp_i (y := (bI true)) (by rw [isN_t (by omega) hv0]) ?_
  refine nb_ifb_eq (tgt := 17) hx hb dX7_node_10 (by decide) (fun c_10 => by exfalso; exact absurd c_10 (by decide)) (fun c_10 => ?_)
  refine lv_iconst (v := (nI 1)) hx hb dX7_node_13 (by decide) ?_
  refine lv_goto (tgt := 18) hx hb dX7_node_14 (by decide) ?_
  refine lv_istore_n (lv' := [(2, .int (nI 1)), (0, .ref ma), (1, .int (nI v0))]) hx hb dX7_node_18 rfl hl (by decide) rfl (fun ls hl => ?_)
  refine lv_aload_n hx hb dX7_node_19 rfl (lv_at hl 1 rfl) ?_
  refine lv_iload_n hx hb dX7_node_20 rfl (lv_at hl 0 rfl) ?_
  refine lv_iload_n hx hb dX7_node_21 rfl (lv_at hl 0 rfl) ?_
  refine nb_if_eq (tgt := 53) hx hb (by omega) dX7_node_22 (by decide) (fun c_22 => by exfalso; omega) (fun c_22 => ?_)
  refine lv_aload_n hx hb dX7_node_25 rfl (lv_at hl 1 rfl) ?_
  refine va_get (D := Γ.1) (ci := 7) (v := .ref ms) (C := RX7) (T := TX7) (N := 15) hx hb hts hinX7 hown hK.1 hP 0 rfl rfl 0 (by decide) (hts _ mw_400) (fun _ h9 => h9) rfl dX7_node_26 ?_
  refine lv_iconst (v := (nI 0)) hx hb dX7_node_29 (by decide) ?_
  refine iald_N hx hb hK.1 hP 1 0 rfl rfl (by omega) (by first | decide | assumption) dX7_node_30 ?_
  refine lv_bipush (v := (nI 14)) hx hb dX7_node_31 (by decide) ?_
  refine nb_icmp_ge (tgt := 53) hx hb (by first | omega | assumption) (by first | omega | assumption) dX7_node_33 (by decide) (fun c_33 => by exfalso; omega) (fun c_33 => ?_)
  refine lv_iload_n hx hb dX7_node_36 rfl (lv_at hl 2 rfl) ?_
  refine lv_iconst (v := (-1)) hx hb dX7_node_37 (by decide) ?_
  refine lv_icmp_eq (tgt := 49) hx hb dX7_node_38 (by decide) (fun c_38 => by exfalso; exact nI_m1 (by omega) c_38) (fun c_38 => ?_)
  refine lv_aload_n hx hb dX7_node_41 rfl (lv_at hl 1 rfl) ?_
  refine lv_iload_n hx hb dX7_node_42 rfl (lv_at hl 2 rfl) ?_
  refine ro_fin (va_runV (As := [.int (nI v0)]) (rest := [.int (nI 1), .ref ma]) ⟨hx, hb, hml, hown, hts⟩ (c_X7_isThere l Γ _ ma ms sn0 mk tw0 mt ty0 mb il0 me mr my0 mq mp mw mc ss v0 (hP.sub (ws' := [(ma, .inr (7, [.ref ms, .int (nI sn0), .ref mk, .int (nI tw0), .ref mt, .int (nI ty0), .ref mb, .int (bI il0), .ref me, .ref mr, .int (nI my0), .ref mq, .ref mp, .ref mw, .ref mc])), (ms, .inl (Γ.2 0, 162, .inl (aN ss)))]) [0, 1] rfl) (by first | omega | assumption) (by first | omega | assumption)) (kcwV 1 hts kv_X7_isThere mw_470 (rm_le hR (Nat.le_of_ble_eq_true rfl) (Nat.le_of_ble_eq_true rfl))) (kPc_V hK (va_recv hK.1 hP (ci := 7) (q0 := 0) rfl rfl)) rfl rfl hl.1 rfl (lv_room (Nat.le_of_ble_eq_true rfl)) dX7_node_43 ⟨Nat.zero_le _, Nat.zero_le _⟩) hS (fun locs hS => ?_)
  refine tp_i (y := (bI true)) (by rw [hb0]) ?_
  refine nb_ifb_eq (tgt := 53) hx hb dX7_node_46 (by decide) (fun c_46 => by exfalso; exact absurd c_46 (by decide)) (fun c_46 => ?_)
  refine lv_iconst (v := (nI 1)) hx hb dX7_node_49 (by decide) ?_
  refine lv_goto (tgt := 54) hx hb dX7_node_50 (by decide) ?_
  refine wr_fini (va_runV (As := [.int (nI 1), .int (nI 1)]) (rest := []) ⟨hx, hb, hml, hown, hts⟩ (c_X7_goes l Γ ma ms sn0 mk tw0 mt ty0 mb il0 me mr my0 mq mp mw mc true true ) (kcwV 2 hts kv_X7_goes mw_494 (rm_le hR (Nat.le_of_ble_eq_true rfl) (Nat.le_of_ble_eq_true rfl))) (kPw_V hK (va_recv hK.1 hP (ci := 7) (q0 := 0) rfl rfl) (hP.sub (ws' := [(ma, .inr (7, [.ref ms, .int (nI sn0), .ref mk, .int (nI tw0), .ref mt, .int (nI ty0), .ref mb, .int (bI il0), .ref me, .ref mr, .int (nI my0), .ref mq, .ref mp, .ref mw, .ref mc]))]) [0] rfl) (hD.sub (ws' := [(ma, .inr (7, [.ref ms, .int (nI sn0), .ref mk, .int (nI tw0), .ref mt, .int (nI ty0), .ref mb, .int (bI il0), .ref me, .ref mr, .int (nI my0), .ref mq, .ref mp, .ref mw, .ref mc]))]) [0] (by decide) rfl)) rfl rfl hl.1 rfl (lv_room (Nat.le_of_ble_eq_true rfl)) dX7_node_54 ⟨Nat.zero_le _, Nat.zero_le _⟩) hP hD hS [0] rfl (fun _ => rfl) (fun r _ H locs hw hP hD hS => ?_)
  obtain rfl := hw
  have hP : va_P Γ.1 vwCl [(ma, .inr (7, [.ref ms, .int (nI sn0), .ref mk, .int (nI (gz true true)), .ref mt, .int (nI ty0), .ref mb, .int (bI il0), .ref me, .ref mr, .int (nI my0), .ref mq, .ref mp, .ref mw, .ref mc])), (ms, .inl (Γ.2 0, 162, .inl (aN ss)))] H := hP
  have hD : va_D A [(ma, .inr (7, [.ref ms, .int (nI sn0), .ref mk, .int (nI (gz true true)), .ref mt, .int (nI ty0), .ref mb, .int (bI il0), .ref me, .ref mr, .int (nI my0), .ref mq, .ref mp, .ref mw, .ref mc])), (ms, .inl (Γ.2 0, 162, .inl (aN ss)))] := hD
  refine tp_i (y := (bI true)) (rfl) ?_
  refine nb_ifb_ne (tgt := 62) hx hb dX7_node_57 (by decide) (fun c_57 => ?_) (fun c_57 => by exfalso; exact absurd c_57 (by decide))
  refine lv_aload_n hx hb dX7_node_62 rfl (lv_at hl 1 rfl) ?_
  refine wr_finv (va_runV (As := []) (rest := []) ⟨hx, hb, hml, hown, hts⟩ (c_X7_saves l Γ ma ms sn0 mk (gz true true) mt ty0 mb il0 me mr my0 mq mp mw mc ss (by first | omega | assumption)) (kcwV 0 hts kv_X7_saves mw_497 (rm_le hR (Nat.le_of_ble_eq_true rfl) (Nat.le_of_ble_eq_true rfl))) (kPw_V hK (va_recv hK.1 hP (ci := 7) (q0 := 0) rfl rfl) (hP.sub (ws' := [(ma, .inr (7, [.ref ms, .int (nI sn0), .ref mk, .int (nI (gz true true)), .ref mt, .int (nI ty0), .ref mb, .int (bI il0), .ref me, .ref mr, .int (nI my0), .ref mq, .ref mp, .ref mw, .ref mc])), (ms, .inl (Γ.2 0, 162, .inl (aN ss)))]) [0, 1] rfl) (hD.sub (ws' := [(ma, .inr (7, [.ref ms, .int (nI sn0), .ref mk, .int (nI (gz true true)), .ref mt, .int (nI ty0), .ref mb, .int (bI il0), .ref me, .ref mr, .int (nI my0), .ref mq, .ref mp, .ref mw, .ref mc])), (ms, .inl (Γ.2 0, 162, .inl (aN ss)))]) [0, 1] (by decide) rfl)) rfl rfl hl.1 rfl (lv_room (Nat.le_of_ble_eq_true rfl)) dX7_node_63 ⟨Nat.zero_le _, Nat.zero_le _⟩) hP hD hS [0, 1] rfl (fun _ => rfl) (fun _ H locs hw hP hD hS => ?_)
  have hP : va_P Γ.1 vwCl [(ma, .inr (7, [.ref ms, .int (nI (svN sn0)), .ref mk, .int (nI (gz true true)), .ref mt, .int (nI ty0), .ref mb, .int (bI il0), .ref me, .ref mr, .int (nI my0), .ref mq, .ref mp, .ref mw, .ref mc])), (ms, .inl (Γ.2 0, 162, .inl (aN (svM ss sn0))))] H := hP
  have hD : va_D A [(ma, .inr (7, [.ref ms, .int (nI (svN sn0)), .ref mk, .int (nI (gz true true)), .ref mt, .int (nI ty0), .ref mb, .int (bI il0), .ref me, .ref mr, .int (nI my0), .ref mq, .ref mp, .ref mw, .ref mc])), (ms, .inl (Γ.2 0, 162, .inl (aN (svM ss sn0))))] := hD
  refine lv_aload_n hx hb dX7_node_66 rfl (lv_at hl 1 rfl) ?_
  refine va_get (D := Γ.1) (ci := 7) (v := .ref ms) (C := RX7) (T := TX7) (N := 15) hx hb hts hinX7 hown hK.1 hP 0 rfl rfl 0 (by decide) (hts _ mw_400) (fun _ h9 => h9) rfl dX7_node_67 ?_
  refine lv_iconst (v := (nI 0)) hx hb dX7_node_70 (by decide) ?_
  refine iald_N hx hb hK.1 hP 1 0 rfl rfl (by omega) (by first | decide | assumption) dX7_node_71 ?_
  refine tp_i (y := (nI (ss 0))) (by rw [svM_lo hsn (by decide)]) ?_
  refine lv_istore_n (lv' := [(3, .int (nI (ss 0))), (2, .int (nI 1)), (0, .ref ma), (1, .int (nI v0))]) hx hb dX7_node_72 rfl hl (by decide) rfl (fun ls hl => ?_)
  refine lv_aload_n hx hb dX7_node_73 rfl (lv_at hl 2 rfl) ?_
  refine va_get (D := Γ.1) (ci := 7) (v := .ref ms) (C := RX7) (T := TX7) (N := 15) hx hb hts hinX7 hown hK.1 hP 0 rfl rfl 0 (by decide) (hts _ mw_400) (fun _ h9 => h9) rfl dX7_node_74 ?_
  refine lv_iconst (v := (nI 0)) hx hb dX7_node_77 (by decide) ?_
  refine lv_dup2_11 hx hb dX7_node_78 rfl rfl ?_
  refine iald_N hx hb hK.1 hP 1 0 rfl rfl (by omega) (by first | decide | assumption) dX7_node_79 ?_
  refine tp_i (y := (nI (ss 0))) (by rw [svM_lo hsn (by decide)]) ?_
  refine lv_iconst (v := (nI 1)) hx hb dX7_node_80 (by decide) ?_
  refine lv_iadd hx hb dX7_node_81 ?_
  refine tp_i (y := (nI ((ss 0) + 1))) (nI_add _ _) ?_
  refine iast_N hx hb hK.1 hP hD hS 1 0 rfl rfl (by omega) (by first | decide | assumption) dX7_node_82 (fun H locs hP hD hS => ?_)
  have hP : va_P Γ.1 vwCl [(ma, .inr (7, [.ref ms, .int (nI (svN sn0)), .ref mk, .int (nI (gz true true)), .ref mt, .int (nI ty0), .ref mb, .int (bI il0), .ref me, .ref mr, .int (nI my0), .ref mq, .ref mp, .ref mw, .ref mc])), (ms, .inl (Γ.2 0, 162, .inl (aN (upN (svM ss sn0) 0 ((ss 0) + 1)))))] H := hP
  have hD : va_D A [(ma, .inr (7, [.ref ms, .int (nI (svN sn0)), .ref mk, .int (nI (gz true true)), .ref mt, .int (nI ty0), .ref mb, .int (bI il0), .ref me, .ref mr, .int (nI my0), .ref mq, .ref mp, .ref mw, .ref mc])), (ms, .inl (Γ.2 0, 162, .inl (aN (upN (svM ss sn0) 0 ((ss 0) + 1)))))] := hD
  refine lv_aload_n hx hb dX7_node_83 rfl (lv_at hl 2 rfl) ?_
  refine va_get (D := Γ.1) (ci := 7) (v := .ref ms) (C := RX7) (T := TX7) (N := 15) hx hb hts hinX7 hown hK.1 hP 0 rfl rfl 0 (by decide) (hts _ mw_400) (fun _ h9 => h9) rfl dX7_node_84 ?_
  refine lv_iconst (v := (nI 1)) hx hb dX7_node_87 (by decide) ?_
  refine lv_dup2_11 hx hb dX7_node_88 rfl rfl ?_
  refine iald_N hx hb hK.1 hP 1 0 rfl rfl (by omega) (by first | decide | assumption) dX7_node_89 ?_
  refine tp_i (y := (nI (ss 1))) (by rw [upN_n _ _ (by decide), svM_lo hsn (by decide)]) ?_
  refine lv_iconst (v := (nI 1)) hx hb dX7_node_90 (by decide) ?_
  refine lv_iload_n hx hb dX7_node_91 rfl (lv_at hl 0 rfl) ?_
  refine lv_ishl hx hb dX7_node_92 ?_
  refine tp_i (y := (nI (2 ^ (ss 0)))) (ni_shl1 (by omega)) ?_
  refine lv_ior hx hb dX7_node_93 ?_
  refine tp_i (y := (nI ((ss 1) ||| (2 ^ (ss 0))))) (ni_or _ _) ?_
  refine iast_N hx hb hK.1 hP hD hS 1 0 rfl rfl (by omega) (by first | decide | assumption) dX7_node_94 (fun H locs hP hD hS => ?_)
  have hP : va_P Γ.1 vwCl [(ma, .inr (7, [.ref ms, .int (nI (svN sn0)), .ref mk, .int (nI (gz true true)), .ref mt, .int (nI ty0), .ref mb, .int (bI il0), .ref me, .ref mr, .int (nI my0), .ref mq, .ref mp, .ref mw, .ref mc])), (ms, .inl (Γ.2 0, 162, .inl (aN (upN (upN (svM ss sn0) 0 ((ss 0) + 1)) 1 ((ss 1) ||| (2 ^ (ss 0)))))))] H := hP
  have hD : va_D A [(ma, .inr (7, [.ref ms, .int (nI (svN sn0)), .ref mk, .int (nI (gz true true)), .ref mt, .int (nI ty0), .ref mb, .int (bI il0), .ref me, .ref mr, .int (nI my0), .ref mq, .ref mp, .ref mw, .ref mc])), (ms, .inl (Γ.2 0, 162, .inl (aN (upN (upN (svM ss sn0) 0 ((ss 0) + 1)) 1 ((ss 1) ||| (2 ^ (ss 0)))))))] := hD
  refine lv_aload_n hx hb dX7_node_95 rfl (lv_at hl 2 rfl) ?_
  refine va_get (D := Γ.1) (ci := 7) (v := .ref ms) (C := RX7) (T := TX7) (N := 15) hx hb hts hinX7 hown hK.1 hP 0 rfl rfl 0 (by decide) (hts _ mw_400) (fun _ h9 => h9) rfl dX7_node_96 ?_
  refine lv_iconst (v := (nI 4)) hx hb dX7_node_99 (by decide) ?_
  refine lv_iload_n hx hb dX7_node_100 rfl (lv_at hl 0 rfl) ?_
  refine lv_iadd hx hb dX7_node_101 ?_
  refine tp_i (y := (nI (4 + (ss 0)))) (nI_add _ _) ?_
  refine lv_iconst (v := (nI 0)) hx hb dX7_node_102 (by decide) ?_
  refine iast_N hx hb hK.1 hP hD hS 1 0 rfl rfl (by omega) (by first | decide | assumption) dX7_node_103 (fun H locs hP hD hS => ?_)
  have hP : va_P Γ.1 vwCl [(ma, .inr (7, [.ref ms, .int (nI (svN sn0)), .ref mk, .int (nI (gz true true)), .ref mt, .int (nI ty0), .ref mb, .int (bI il0), .ref me, .ref mr, .int (nI my0), .ref mq, .ref mp, .ref mw, .ref mc])), (ms, .inl (Γ.2 0, 162, .inl (aN (upN (upN (upN (svM ss sn0) 0 ((ss 0) + 1)) 1 ((ss 1) ||| (2 ^ (ss 0)))) (4 + (ss 0)) 0))))] H := hP
  have hD : va_D A [(ma, .inr (7, [.ref ms, .int (nI (svN sn0)), .ref mk, .int (nI (gz true true)), .ref mt, .int (nI ty0), .ref mb, .int (bI il0), .ref me, .ref mr, .int (nI my0), .ref mq, .ref mp, .ref mw, .ref mc])), (ms, .inl (Γ.2 0, 162, .inl (aN (upN (upN (upN (svM ss sn0) 0 ((ss 0) + 1)) 1 ((ss 1) ||| (2 ^ (ss 0)))) (4 + (ss 0)) 0))))] := hD
  refine lv_aload_n hx hb dX7_node_104 rfl (lv_at hl 2 rfl) ?_
  refine lv_iconst (v := (nI 0)) hx hb dX7_node_105 (by decide) ?_
  refine tp_i (y := (bI false)) (rfl) ?_
  refine va_put (D := Γ.1) (ci := 7) (v := .int (bI false)) (ty := .boolean) (C := RX7) (T := TX7) (N := 15) hx hb hts hinX7 tyX7 tyX7_ok nmX7 hown hK.1 hP hD hS 0 rfl rfl 7 (by decide) (hts _ mw_419) (fun _ h9 => h9) rfl (by decide +kernel) (bI_nar _) (bI_fit _) (Nat.le_of_ble_eq_true rfl) dX7_node_106 (fun H locs hP hD hS => ?_)
  have hP : va_P Γ.1 vwCl [(ma, .inr (7, [.ref ms, .int (nI (svN sn0)), .ref mk, .int (nI (gz true true)), .ref mt, .int (nI ty0), .ref mb, .int (bI false), .ref me, .ref mr, .int (nI my0), .ref mq, .ref mp, .ref mw, .ref mc])), (ms, .inl (Γ.2 0, 162, .inl (aN (upN (upN (upN (svM ss sn0) 0 ((ss 0) + 1)) 1 ((ss 1) ||| (2 ^ (ss 0)))) (4 + (ss 0)) 0))))] H := hP
  have hD : va_D A [(ma, .inr (7, [.ref ms, .int (nI (svN sn0)), .ref mk, .int (nI (gz true true)), .ref mt, .int (nI ty0), .ref mb, .int (bI false), .ref me, .ref mr, .int (nI my0), .ref mq, .ref mp, .ref mw, .ref mc])), (ms, .inl (Γ.2 0, 162, .inl (aN (upN (upN (upN (svM ss sn0) 0 ((ss 0) + 1)) 1 ((ss 1) ||| (2 ^ (ss 0)))) (4 + (ss 0)) 0))))] := hD
  refine lv_iload_n hx hb dX7_node_109 rfl (lv_at hl 3 rfl) ?_
  refine nb_if_lt (tgt := 120) hx hb (by first | omega | assumption) dX7_node_110 (by decide) ?_
  refine lv_aload_n hx hb dX7_node_113 rfl (lv_at hl 2 rfl) ?_
  refine lv_iload_n hx hb dX7_node_114 rfl (lv_at hl 0 rfl) ?_
  refine lv_iload_n hx hb dX7_node_115 rfl (lv_at hl 3 rfl) ?_
  refine lv_iconst (v := (nI 1)) hx hb dX7_node_116 (by decide) ?_
  refine wr_finv (va_runV (As := [.int (nI (ss 0)), .int (nI v0), .int (nI 1)]) (rest := []) ⟨hx, hb, hml, hown, hts⟩ (c_X7_links l Γ ma ms (svN sn0) mk (gz true true) mt ty0 mb false me mr my0 mq mp mw mc (upN (upN (upN (svM ss sn0) 0 ((ss 0) + 1)) 1 ((ss 1) ||| (2 ^ (ss 0)))) (4 + (ss 0)) 0) (ss 0) v0 true (by first | omega | assumption) (by first | omega | assumption)) (kcwV 3 hts kv_X7_links mw_473 (rm_le hR (Nat.le_of_ble_eq_true rfl) (Nat.le_of_ble_eq_true rfl))) (kPw_V hK (va_recv hK.1 hP (ci := 7) (q0 := 0) rfl rfl) (hP.sub (ws' := [(ma, .inr (7, [.ref ms, .int (nI (svN sn0)), .ref mk, .int (nI (gz true true)), .ref mt, .int (nI ty0), .ref mb, .int (bI false), .ref me, .ref mr, .int (nI my0), .ref mq, .ref mp, .ref mw, .ref mc])), (ms, .inl (Γ.2 0, 162, .inl (aN (upN (upN (upN (svM ss sn0) 0 ((ss 0) + 1)) 1 ((ss 1) ||| (2 ^ (ss 0)))) (4 + (ss 0)) 0))))]) [0, 1] rfl) (hD.sub (ws' := [(ma, .inr (7, [.ref ms, .int (nI (svN sn0)), .ref mk, .int (nI (gz true true)), .ref mt, .int (nI ty0), .ref mb, .int (bI false), .ref me, .ref mr, .int (nI my0), .ref mq, .ref mp, .ref mw, .ref mc])), (ms, .inl (Γ.2 0, 162, .inl (aN (upN (upN (upN (svM ss sn0) 0 ((ss 0) + 1)) 1 ((ss 1) ||| (2 ^ (ss 0)))) (4 + (ss 0)) 0))))]) [0, 1] (by decide) rfl)) rfl rfl hl.1 rfl (lv_room (Nat.le_of_ble_eq_true rfl)) dX7_node_117 ⟨Nat.zero_le _, Nat.zero_le _⟩) hP hD hS [0, 1] rfl (fun _ => rfl) (fun _ H locs hw hP hD hS => ?_)
  have hP : va_P Γ.1 vwCl [(ma, .inr (7, [.ref ms, .int (nI (svN sn0)), .ref mk, .int (nI (gz true true)), .ref mt, .int (nI ty0), .ref mb, .int (bI false), .ref me, .ref mr, .int (nI my0), .ref mq, .ref mp, .ref mw, .ref mc])), (ms, .inl (Γ.2 0, 162, .inl (aN (lkS (upN (upN (upN (svM ss sn0) 0 ((ss 0) + 1)) 1 ((ss 1) ||| (2 ^ (ss 0)))) (4 + (ss 0)) 0) (ss 0) v0 true))))] H := hP
  have hD : va_D A [(ma, .inr (7, [.ref ms, .int (nI (svN sn0)), .ref mk, .int (nI (gz true true)), .ref mt, .int (nI ty0), .ref mb, .int (bI false), .ref me, .ref mr, .int (nI my0), .ref mq, .ref mp, .ref mw, .ref mc])), (ms, .inl (Γ.2 0, 162, .inl (aN (lkS (upN (upN (upN (svM ss sn0) 0 ((ss 0) + 1)) 1 ((ss 1) ||| (2 ^ (ss 0)))) (4 + (ss 0)) 0) (ss 0) v0 true))))] := hD
  refine lv_iload_n hx hb dX7_node_120 rfl (lv_at hl 0 rfl) ?_
  exact hret () hP hS (rfl) dX7_node_121
set_option maxHeartbeats 8000000 in
set_option maxRecDepth 100000 in
theorem c_X7_join_x (l : Launch) (Γ : kG) (ma : Nat) (ms : Nat) (sn0 : Nat) (mk : Nat) (tw0 : Nat) (mt : Nat) (ty0 : Nat) (mb : Nat) (il0 : Bool) (me : Nat) (mr : Nat) (my0 : Nat) (mq : Nat) (mp : Nat) (mw : Nat) (mc : Nat) (ss : Nat → Nat) (x0 : Int32) (y0 : Int32) (h0 : ss 0 ≤ 14) (hx0 : isN (ss 0) x0 = false ∨ isN (ss 0) y0 = false) : WRi l yX7_join (wsq yX7_join cX7_join 4 (some .int)) (rmL 3) Γ [.ref ma, .int x0, .int y0] [(ma, .inr (7, [.ref ms, .int (nI sn0), .ref mk, .int (nI tw0), .ref mt, .int (nI ty0), .ref mb, .int (bI il0), .ref me, .ref mr, .int (nI my0), .ref mq, .ref mp, .ref mw, .ref mc])), (ms, .inl (Γ.2 0, 162, .inl (aN ss)))] (fun u : Unit => [(ma, .inr (7, [.ref ms, .int (nI sn0), .ref mk, .int (nI 1), .ref mt, .int (nI ty0), .ref mb, .int (bI il0), .ref me, .ref mr, .int (nI my0), .ref mq, .ref mp, .ref mw, .ref mc])), (ms, .inl (Γ.2 0, 162, .inl (aN ss)))]) (fun (r : Int32) (u : Unit) => r = (nI 0)) := by
  refine wr_ofi (cc := cX7_join) (maxL := 4) (by decide +kernel) (Nat.le_of_ble_eq_true rfl) rfl ?_
  intro p ev R st mi args below meth cd Q A ls C0 hR hret hP hD hS hl
  obtain ⟨hx, hb, hr, hml, hown, hts, hlk, hK, hnm⟩ := C0
  have hown : st.vm.findClass RX7 = some mi.cls := hown
  refine lv_aload_n hx hb dX7_join_0 rfl (lv_at hl 0 rfl) ?_
  refine lv_iload_n hx hb dX7_join_1 rfl (lv_at hl 1 rfl) ?_
  refine ro_fin (va_runV (As := [.int x0]) (rest := []) ⟨hx, hb, hml, hown, hts⟩ (c_X7_isNode l Γ _ ma ms sn0 mk tw0 mt ty0 mb il0 me mr my0 mq mp mw mc ss x0 (hP.sub (ws' := [(ma, .inr (7, [.ref ms, .int (nI sn0), .ref mk, .int (nI tw0), .ref mt, .int (nI ty0), .ref mb, .int (bI il0), .ref me, .ref mr, .int (nI my0), .ref mq, .ref mp, .ref mw, .ref mc])), (ms, .inl (Γ.2 0, 162, .inl (aN ss)))]) [0, 1] rfl) (by first | omega | assumption)) (kcwV 1 hts kv_X7_isNode mw_491 (rm_le hR (Nat.le_of_ble_eq_true rfl) (Nat.le_of_ble_eq_true rfl))) (kPc_V hK (va_recv hK.1 hP (ci := 7) (q0 := 0) rfl rfl)) rfl rfl hl.1 rfl (lv_room (Nat.le_of_ble_eq_true rfl)) dX7_join_2 ⟨Nat.zero_le _, Nat.zero_le _⟩) hS (fun locs hS => ?_)
  refine nb_ifb_eq (tgt := 20) hx hb dX7_join_5 (by decide) (fun c_5 => ?_) (fun c_5 => ?_)
  · skip
    refine lv_iconst (v := (nI 0)) hx hb dX7_join_20 (by decide) ?_
    refine lv_istore_n (lv' := [(3, .int (nI 0)), (0, .ref ma), (1, .int x0), (2, .int y0)]) hx hb dX7_join_21 rfl hl (by decide) rfl (fun ls hl => ?_)
    refine lv_aload_n hx hb dX7_join_22 rfl (lv_at hl 1 rfl) ?_
    refine lv_iload_n hx hb dX7_join_23 rfl (lv_at hl 0 rfl) ?_
    refine lv_iload_n hx hb dX7_join_24 rfl (lv_at hl 0 rfl) ?_
    refine nb_if_eq (tgt := 41) hx hb (by omega) dX7_join_25 (by decide) (fun c_25 => ?_) (fun c_25 => by exfalso; omega)
    refine lv_iconst (v := (nI 0)) hx hb dX7_join_41 (by decide) ?_
    refine wr_fini (va_runV (As := [.int (nI 0), .int (nI 0)]) (rest := []) ⟨hx, hb, hml, hown, hts⟩ (c_X7_goes l Γ ma ms sn0 mk tw0 mt ty0 mb il0 me mr my0 mq mp mw mc false false ) (kcwV 2 hts kv_X7_goes mw_494 (rm_le hR (Nat.le_of_ble_eq_true rfl) (Nat.le_of_ble_eq_true rfl))) (kPw_V hK (va_recv hK.1 hP (ci := 7) (q0 := 0) rfl rfl) (hP.sub (ws' := [(ma, .inr (7, [.ref ms, .int (nI sn0), .ref mk, .int (nI tw0), .ref mt, .int (nI ty0), .ref mb, .int (bI il0), .ref me, .ref mr, .int (nI my0), .ref mq, .ref mp, .ref mw, .ref mc]))]) [0] rfl) (hD.sub (ws' := [(ma, .inr (7, [.ref ms, .int (nI sn0), .ref mk, .int (nI tw0), .ref mt, .int (nI ty0), .ref mb, .int (bI il0), .ref me, .ref mr, .int (nI my0), .ref mq, .ref mp, .ref mw, .ref mc]))]) [0] (by decide) rfl)) rfl rfl hl.1 rfl (lv_room (Nat.le_of_ble_eq_true rfl)) dX7_join_42 ⟨Nat.zero_le _, Nat.zero_le _⟩) hP hD hS [0] rfl (fun _ => rfl) (fun r _ H locs hw hP hD hS => ?_)
    obtain rfl := hw
    have hP : va_P Γ.1 vwCl [(ma, .inr (7, [.ref ms, .int (nI sn0), .ref mk, .int (nI (gz false false)), .ref mt, .int (nI ty0), .ref mb, .int (bI il0), .ref me, .ref mr, .int (nI my0), .ref mq, .ref mp, .ref mw, .ref mc])), (ms, .inl (Γ.2 0, 162, .inl (aN ss)))] H := hP
    have hD : va_D A [(ma, .inr (7, [.ref ms, .int (nI sn0), .ref mk, .int (nI (gz false false)), .ref mt, .int (nI ty0), .ref mb, .int (bI il0), .ref me, .ref mr, .int (nI my0), .ref mq, .ref mp, .ref mw, .ref mc])), (ms, .inl (Γ.2 0, 162, .inl (aN ss)))] := hD
    refine tp_i (y := (bI false)) (rfl) ?_
    refine nb_ifb_ne (tgt := 50) hx hb dX7_join_45 (by decide) (fun c_45 => by exfalso; exact absurd c_45 (by decide)) (fun c_45 => ?_)
    refine lv_iconst (v := (nI 0)) hx hb dX7_join_48 (by decide) ?_
    exact hret () hP hS (rfl) dX7_join_49
  · skip
    refine lv_aload_n hx hb dX7_join_8 rfl (lv_at hl 0 rfl) ?_
    refine lv_iload_n hx hb dX7_join_9 rfl (lv_at hl 2 rfl) ?_
    refine ro_fin (va_runV (As := [.int y0]) (rest := []) ⟨hx, hb, hml, hown, hts⟩ (c_X7_isNode l Γ _ ma ms sn0 mk tw0 mt ty0 mb il0 me mr my0 mq mp mw mc ss y0 (hP.sub (ws' := [(ma, .inr (7, [.ref ms, .int (nI sn0), .ref mk, .int (nI tw0), .ref mt, .int (nI ty0), .ref mb, .int (bI il0), .ref me, .ref mr, .int (nI my0), .ref mq, .ref mp, .ref mw, .ref mc])), (ms, .inl (Γ.2 0, 162, .inl (aN ss)))]) [0, 1] rfl) (by first | omega | assumption)) (kcwV 1 hts kv_X7_isNode mw_491 (rm_le hR (Nat.le_of_ble_eq_true rfl) (Nat.le_of_ble_eq_true rfl))) (kPc_V hK (va_recv hK.1 hP (ci := 7) (q0 := 0) rfl rfl)) rfl rfl hl.1 rfl (lv_room (Nat.le_of_ble_eq_true rfl)) dX7_join_10 ⟨Nat.zero_le _, Nat.zero_le _⟩) hS (fun locs hS => ?_)
    refine nb_ifb_eq (tgt := 20) hx hb dX7_join_13 (by decide) (fun c_13 => ?_) (fun c_13 => by exfalso; rcases hx0 with q9 | q9 <;> simp_all)
    refine lv_iconst (v := (nI 0)) hx hb dX7_join_20 (by decide) ?_
    refine lv_istore_n (lv' := [(3, .int (nI 0)), (0, .ref ma), (1, .int x0), (2, .int y0)]) hx hb dX7_join_21 rfl hl (by decide) rfl (fun ls hl => ?_)
    refine lv_aload_n hx hb dX7_join_22 rfl (lv_at hl 1 rfl) ?_
    refine lv_iload_n hx hb dX7_join_23 rfl (lv_at hl 0 rfl) ?_
    refine lv_iload_n hx hb dX7_join_24 rfl (lv_at hl 0 rfl) ?_
    refine nb_if_eq (tgt := 41) hx hb (by omega) dX7_join_25 (by decide) (fun c_25 => ?_) (fun c_25 => by exfalso; omega)
    refine lv_iconst (v := (nI 0)) hx hb dX7_join_41 (by decide) ?_
    refine wr_fini (va_runV (As := [.int (nI 0), .int (nI 0)]) (rest := []) ⟨hx, hb, hml, hown, hts⟩ (c_X7_goes l Γ ma ms sn0 mk tw0 mt ty0 mb il0 me mr my0 mq mp mw mc false false ) (kcwV 2 hts kv_X7_goes mw_494 (rm_le hR (Nat.le_of_ble_eq_true rfl) (Nat.le_of_ble_eq_true rfl))) (kPw_V hK (va_recv hK.1 hP (ci := 7) (q0 := 0) rfl rfl) (hP.sub (ws' := [(ma, .inr (7, [.ref ms, .int (nI sn0), .ref mk, .int (nI tw0), .ref mt, .int (nI ty0), .ref mb, .int (bI il0), .ref me, .ref mr, .int (nI my0), .ref mq, .ref mp, .ref mw, .ref mc]))]) [0] rfl) (hD.sub (ws' := [(ma, .inr (7, [.ref ms, .int (nI sn0), .ref mk, .int (nI tw0), .ref mt, .int (nI ty0), .ref mb, .int (bI il0), .ref me, .ref mr, .int (nI my0), .ref mq, .ref mp, .ref mw, .ref mc]))]) [0] (by decide) rfl)) rfl rfl hl.1 rfl (lv_room (Nat.le_of_ble_eq_true rfl)) dX7_join_42 ⟨Nat.zero_le _, Nat.zero_le _⟩) hP hD hS [0] rfl (fun _ => rfl) (fun r _ H locs hw hP hD hS => ?_)
    obtain rfl := hw
    have hP : va_P Γ.1 vwCl [(ma, .inr (7, [.ref ms, .int (nI sn0), .ref mk, .int (nI (gz false false)), .ref mt, .int (nI ty0), .ref mb, .int (bI il0), .ref me, .ref mr, .int (nI my0), .ref mq, .ref mp, .ref mw, .ref mc])), (ms, .inl (Γ.2 0, 162, .inl (aN ss)))] H := hP
    have hD : va_D A [(ma, .inr (7, [.ref ms, .int (nI sn0), .ref mk, .int (nI (gz false false)), .ref mt, .int (nI ty0), .ref mb, .int (bI il0), .ref me, .ref mr, .int (nI my0), .ref mq, .ref mp, .ref mw, .ref mc])), (ms, .inl (Γ.2 0, 162, .inl (aN ss)))] := hD
    refine tp_i (y := (bI false)) (rfl) ?_
    refine nb_ifb_ne (tgt := 50) hx hb dX7_join_45 (by decide) (fun c_45 => by exfalso; exact absurd c_45 (by decide)) (fun c_45 => ?_)
    refine lv_iconst (v := (nI 0)) hx hb dX7_join_48 (by decide) ?_
    exact hret () hP hS (rfl) dX7_join_49
set_option maxHeartbeats 8000000 in
set_option maxRecDepth 100000 in
theorem c_X7_join_n (l : Launch) (Γ : kG) (ma : Nat) (ms : Nat) (sn0 : Nat) (mk : Nat) (tw0 : Nat) (mt : Nat) (ty0 : Nat) (mb : Nat) (il0 : Bool) (me : Nat) (mr : Nat) (my0 : Nat) (mq : Nat) (mp : Nat) (mw : Nat) (mc : Nat) (ss : Nat → Nat) (i0 : Nat) (j0 : Nat) (h0 : ss 0 ≤ 14) (h1 : ss 1 < 16384) (hi0 : i0 < ss 0) (hj0 : j0 < ss 0) (hc : (cjB (gS ss) (ss 1) (ss 0) i0 j0) = false) : WRi l yX7_join (wsq yX7_join cX7_join 4 (some .int)) (rmL 4) Γ [.ref ma, .int (nI i0), .int (nI j0)] [(ma, .inr (7, [.ref ms, .int (nI sn0), .ref mk, .int (nI tw0), .ref mt, .int (nI ty0), .ref mb, .int (bI il0), .ref me, .ref mr, .int (nI my0), .ref mq, .ref mp, .ref mw, .ref mc])), (ms, .inl (Γ.2 0, 162, .inl (aN ss)))] (fun u : Unit => [(ma, .inr (7, [.ref ms, .int (nI sn0), .ref mk, .int (nI 2), .ref mt, .int (nI ty0), .ref mb, .int (bI il0), .ref me, .ref mr, .int (nI my0), .ref mq, .ref mp, .ref mw, .ref mc])), (ms, .inl (Γ.2 0, 162, .inl (aN ss)))]) (fun (r : Int32) (u : Unit) => r = (nI 0)) := by
  refine wr_ofi (cc := cX7_join) (maxL := 4) (by decide +kernel) (Nat.le_of_ble_eq_true rfl) rfl ?_
  intro p ev R st mi args below meth cd Q A ls C0 hR hret hP hD hS hl
  obtain ⟨hx, hb, hr, hml, hown, hts, hlk, hK, hnm⟩ := C0
  have hown : st.vm.findClass RX7 = some mi.cls := hown
  refine lv_aload_n hx hb dX7_join_0 rfl (lv_at hl 0 rfl) ?_
  refine lv_iload_n hx hb dX7_join_1 rfl (lv_at hl 1 rfl) ?_
  refine ro_fin (va_runV (As := [.int (nI i0)]) (rest := []) ⟨hx, hb, hml, hown, hts⟩ (c_X7_isNode l Γ _ ma ms sn0 mk tw0 mt ty0 mb il0 me mr my0 mq mp mw mc ss (nI i0) (hP.sub (ws' := [(ma, .inr (7, [.ref ms, .int (nI sn0), .ref mk, .int (nI tw0), .ref mt, .int (nI ty0), .ref mb, .int (bI il0), .ref me, .ref mr, .int (nI my0), .ref mq, .ref mp, .ref mw, .ref mc])), (ms, .inl (Γ.2 0, 162, .inl (aN ss)))]) [0, 1] rfl) (by first | omega | assumption)) (kcwV 1 hts kv_X7_isNode mw_491 (rm_le hR (Nat.le_of_ble_eq_true rfl) (Nat.le_of_ble_eq_true rfl))) (kPc_V hK (va_recv hK.1 hP (ci := 7) (q0 := 0) rfl rfl)) rfl rfl hl.1 rfl (lv_room (Nat.le_of_ble_eq_true rfl)) dX7_join_2 ⟨Nat.zero_le _, Nat.zero_le _⟩) hS (fun locs hS => ?_)
  refine tp_i (y := (bI true)) (by rw [isN_t h0 hi0]) ?_
  refine nb_ifb_eq (tgt := 20) hx hb dX7_join_5 (by decide) (fun c_5 => by exfalso; exact absurd c_5 (by decide)) (fun c_5 => ?_)
  refine lv_aload_n hx hb dX7_join_8 rfl (lv_at hl 0 rfl) ?_
  refine lv_iload_n hx hb dX7_join_9 rfl (lv_at hl 2 rfl) ?_
  refine ro_fin (va_runV (As := [.int (nI j0)]) (rest := []) ⟨hx, hb, hml, hown, hts⟩ (c_X7_isNode l Γ _ ma ms sn0 mk tw0 mt ty0 mb il0 me mr my0 mq mp mw mc ss (nI j0) (hP.sub (ws' := [(ma, .inr (7, [.ref ms, .int (nI sn0), .ref mk, .int (nI tw0), .ref mt, .int (nI ty0), .ref mb, .int (bI il0), .ref me, .ref mr, .int (nI my0), .ref mq, .ref mp, .ref mw, .ref mc])), (ms, .inl (Γ.2 0, 162, .inl (aN ss)))]) [0, 1] rfl) (by first | omega | assumption)) (kcwV 1 hts kv_X7_isNode mw_491 (rm_le hR (Nat.le_of_ble_eq_true rfl) (Nat.le_of_ble_eq_true rfl))) (kPc_V hK (va_recv hK.1 hP (ci := 7) (q0 := 0) rfl rfl)) rfl rfl hl.1 rfl (lv_room (Nat.le_of_ble_eq_true rfl)) dX7_join_10 ⟨Nat.zero_le _, Nat.zero_le _⟩) hS (fun locs hS => ?_)
  refine tp_i (y := (bI true)) (by rw [isN_t h0 hj0]) ?_
  refine nb_ifb_eq (tgt := 20) hx hb dX7_join_13 (by decide) (fun c_13 => by exfalso; exact absurd c_13 (by decide)) (fun c_13 => ?_)
  refine lv_iconst (v := (nI 1)) hx hb dX7_join_16 (by decide) ?_
  refine lv_goto (tgt := 21) hx hb dX7_join_17 (by decide) ?_
  refine lv_istore_n (lv' := [(3, .int (nI 1)), (0, .ref ma), (1, .int (nI i0)), (2, .int (nI j0))]) hx hb dX7_join_21 rfl hl (by decide) rfl (fun ls hl => ?_)
  refine lv_aload_n hx hb dX7_join_22 rfl (lv_at hl 1 rfl) ?_
  refine lv_iload_n hx hb dX7_join_23 rfl (lv_at hl 0 rfl) ?_
  refine lv_iload_n hx hb dX7_join_24 rfl (lv_at hl 0 rfl) ?_
  refine nb_if_eq (tgt := 41) hx hb (by omega) dX7_join_25 (by decide) (fun c_25 => by exfalso; omega) (fun c_25 => ?_)
  refine lv_aload_n hx hb dX7_join_28 rfl (lv_at hl 1 rfl) ?_
  refine lv_iload_n hx hb dX7_join_29 rfl (lv_at hl 2 rfl) ?_
  refine lv_iload_n hx hb dX7_join_30 rfl (lv_at hl 3 rfl) ?_
  refine ro_fin (va_runV (As := [.int (nI i0), .int (nI j0)]) (rest := [.int (nI 1), .ref ma]) ⟨hx, hb, hml, hown, hts⟩ (c_X7_canJoin l Γ _ ma ms sn0 mk tw0 mt ty0 mb il0 me mr my0 mq mp mw mc ss i0 j0 (hP.sub (ws' := [(ma, .inr (7, [.ref ms, .int (nI sn0), .ref mk, .int (nI tw0), .ref mt, .int (nI ty0), .ref mb, .int (bI il0), .ref me, .ref mr, .int (nI my0), .ref mq, .ref mp, .ref mw, .ref mc])), (ms, .inl (Γ.2 0, 162, .inl (aN ss)))]) [0, 1] rfl) (by first | omega | assumption) (by first | omega | assumption) (by first | omega | assumption) (by first | omega | assumption)) (kcwV 2 hts kv_X7_canJoin mw_502 (rm_le hR (Nat.le_of_ble_eq_true rfl) (Nat.le_of_ble_eq_true rfl))) (kPc_V hK (va_recv hK.1 hP (ci := 7) (q0 := 0) rfl rfl)) rfl rfl hl.1 rfl (lv_room (Nat.le_of_ble_eq_true rfl)) dX7_join_31 ⟨Nat.zero_le _, Nat.zero_le _⟩) hS (fun locs hS => ?_)
  refine tp_i (y := (bI false)) (by rw [← hc]; rfl) ?_
  refine nb_ifb_eq (tgt := 41) hx hb dX7_join_34 (by decide) (fun c_34 => ?_) (fun c_34 => by exfalso; exact absurd c_34 (by decide))
  refine lv_iconst (v := (nI 0)) hx hb dX7_join_41 (by decide) ?_
  refine wr_fini (va_runV (As := [.int (nI 1), .int (nI 0)]) (rest := []) ⟨hx, hb, hml, hown, hts⟩ (c_X7_goes l Γ ma ms sn0 mk tw0 mt ty0 mb il0 me mr my0 mq mp mw mc true false ) (kcwV 2 hts kv_X7_goes mw_494 (rm_le hR (Nat.le_of_ble_eq_true rfl) (Nat.le_of_ble_eq_true rfl))) (kPw_V hK (va_recv hK.1 hP (ci := 7) (q0 := 0) rfl rfl) (hP.sub (ws' := [(ma, .inr (7, [.ref ms, .int (nI sn0), .ref mk, .int (nI tw0), .ref mt, .int (nI ty0), .ref mb, .int (bI il0), .ref me, .ref mr, .int (nI my0), .ref mq, .ref mp, .ref mw, .ref mc]))]) [0] rfl) (hD.sub (ws' := [(ma, .inr (7, [.ref ms, .int (nI sn0), .ref mk, .int (nI tw0), .ref mt, .int (nI ty0), .ref mb, .int (bI il0), .ref me, .ref mr, .int (nI my0), .ref mq, .ref mp, .ref mw, .ref mc]))]) [0] (by decide) rfl)) rfl rfl hl.1 rfl (lv_room (Nat.le_of_ble_eq_true rfl)) dX7_join_42 ⟨Nat.zero_le _, Nat.zero_le _⟩) hP hD hS [0] rfl (fun _ => rfl) (fun r _ H locs hw hP hD hS => ?_)
  obtain rfl := hw
  have hP : va_P Γ.1 vwCl [(ma, .inr (7, [.ref ms, .int (nI sn0), .ref mk, .int (nI (gz true false)), .ref mt, .int (nI ty0), .ref mb, .int (bI il0), .ref me, .ref mr, .int (nI my0), .ref mq, .ref mp, .ref mw, .ref mc])), (ms, .inl (Γ.2 0, 162, .inl (aN ss)))] H := hP
  have hD : va_D A [(ma, .inr (7, [.ref ms, .int (nI sn0), .ref mk, .int (nI (gz true false)), .ref mt, .int (nI ty0), .ref mb, .int (bI il0), .ref me, .ref mr, .int (nI my0), .ref mq, .ref mp, .ref mw, .ref mc])), (ms, .inl (Γ.2 0, 162, .inl (aN ss)))] := hD
  refine tp_i (y := (bI false)) (rfl) ?_
  refine nb_ifb_ne (tgt := 50) hx hb dX7_join_45 (by decide) (fun c_45 => by exfalso; exact absurd c_45 (by decide)) (fun c_45 => ?_)
  refine lv_iconst (v := (nI 0)) hx hb dX7_join_48 (by decide) ?_
  exact hret () hP hS (rfl) dX7_join_49
set_option maxHeartbeats 8000000 in
set_option maxRecDepth 100000 in
theorem c_X7_join_a (l : Launch) (Γ : kG) (ma : Nat) (ms : Nat) (sn0 : Nat) (mk : Nat) (tw0 : Nat) (mt : Nat) (ty0 : Nat) (mb : Nat) (il0 : Bool) (me : Nat) (mr : Nat) (my0 : Nat) (mq : Nat) (mp : Nat) (mw : Nat) (mc : Nat) (ss : Nat → Nat) (i0 : Nat) (j0 : Nat) (tr : Nat → Nat) (h0 : ss 0 ≤ 14) (h1 : ss 1 < 2 ^ ss 0) (hi0 : i0 < ss 0) (hj0 : j0 < ss 0) (hc : (cjB (gS ss) (ss 1) (ss 0) i0 j0) = true) (hsn : sn0 ≤ 6) : WRi l yX7_join (wsq yX7_join cX7_join 4 (some .int)) (rmL 4) Γ [.ref ma, .int (nI i0), .int (nI j0)] [(ma, .inr (7, [.ref ms, .int (nI sn0), .ref mk, .int (nI tw0), .ref mt, .int (nI ty0), .ref mb, .int (bI il0), .ref me, .ref mr, .int (nI my0), .ref mq, .ref mp, .ref mw, .ref mc])), (ms, .inl (Γ.2 0, 162, .inl (aN ss))), (mr, .inl (Γ.2 0, 14, .inl (aN tr)))] (fun u : Unit => [(ma, .inr (7, [.ref ms, .int (nI (svN sn0)), .ref mk, .int (nI 0), .ref mt, .int (nI ty0), .ref mb, .int (bI false), .ref me, .ref mr, .int (nI (trC (gS (lkS (svM ss sn0) i0 j0 true)) ((lkS (svM ss sn0) i0 j0 true) 1))), .ref mq, .ref mp, .ref mw, .ref mc])), (ms, .inl (Γ.2 0, 162, .inl (aN (lkS (svM ss sn0) i0 j0 true)))), (mr, .inl (Γ.2 0, 14, .inl (aN (trS tr (gS (lkS (svM ss sn0) i0 j0 true)) ((lkS (svM ss sn0) i0 j0 true) 1) (trC (gS (lkS (svM ss sn0) i0 j0 true)) ((lkS (svM ss sn0) i0 j0 true) 1))))))]) (fun (r : Int32) (u : Unit) => r = (nI (trC (gS (lkS (svM ss sn0) i0 j0 true)) ((lkS (svM ss sn0) i0 j0 true) 1)))) := by
  refine wr_ofi (cc := cX7_join) (maxL := 4) (by decide +kernel) (Nat.le_of_ble_eq_true rfl) rfl ?_
  intro p ev R st mi args below meth cd Q A ls C0 hR hret hP hD hS hl
  obtain ⟨hx, hb, hr, hml, hown, hts, hlk, hK, hnm⟩ := C0
  have hown : st.vm.findClass RX7 = some mi.cls := hown
  have hwn := w14 h1 h0
  refine lv_aload_n hx hb dX7_join_0 rfl (lv_at hl 0 rfl) ?_
  refine lv_iload_n hx hb dX7_join_1 rfl (lv_at hl 1 rfl) ?_
  refine ro_fin (va_runV (As := [.int (nI i0)]) (rest := []) ⟨hx, hb, hml, hown, hts⟩ (c_X7_isNode l Γ _ ma ms sn0 mk tw0 mt ty0 mb il0 me mr my0 mq mp mw mc ss (nI i0) (hP.sub (ws' := [(ma, .inr (7, [.ref ms, .int (nI sn0), .ref mk, .int (nI tw0), .ref mt, .int (nI ty0), .ref mb, .int (bI il0), .ref me, .ref mr, .int (nI my0), .ref mq, .ref mp, .ref mw, .ref mc])), (ms, .inl (Γ.2 0, 162, .inl (aN ss)))]) [0, 1] rfl) (by first | omega | assumption)) (kcwV 1 hts kv_X7_isNode mw_491 (rm_le hR (Nat.le_of_ble_eq_true rfl) (Nat.le_of_ble_eq_true rfl))) (kPc_V hK (va_recv hK.1 hP (ci := 7) (q0 := 0) rfl rfl)) rfl rfl hl.1 rfl (lv_room (Nat.le_of_ble_eq_true rfl)) dX7_join_2 ⟨Nat.zero_le _, Nat.zero_le _⟩) hS (fun locs hS => ?_)
  refine tp_i (y := (bI true)) (by rw [isN_t h0 hi0]) ?_
  refine nb_ifb_eq (tgt := 20) hx hb dX7_join_5 (by decide) (fun c_5 => by exfalso; exact absurd c_5 (by decide)) (fun c_5 => ?_)
  refine lv_aload_n hx hb dX7_join_8 rfl (lv_at hl 0 rfl) ?_
  refine lv_iload_n hx hb dX7_join_9 rfl (lv_at hl 2 rfl) ?_
  refine ro_fin (va_runV (As := [.int (nI j0)]) (rest := []) ⟨hx, hb, hml, hown, hts⟩ (c_X7_isNode l Γ _ ma ms sn0 mk tw0 mt ty0 mb il0 me mr my0 mq mp mw mc ss (nI j0) (hP.sub (ws' := [(ma, .inr (7, [.ref ms, .int (nI sn0), .ref mk, .int (nI tw0), .ref mt, .int (nI ty0), .ref mb, .int (bI il0), .ref me, .ref mr, .int (nI my0), .ref mq, .ref mp, .ref mw, .ref mc])), (ms, .inl (Γ.2 0, 162, .inl (aN ss)))]) [0, 1] rfl) (by first | omega | assumption)) (kcwV 1 hts kv_X7_isNode mw_491 (rm_le hR (Nat.le_of_ble_eq_true rfl) (Nat.le_of_ble_eq_true rfl))) (kPc_V hK (va_recv hK.1 hP (ci := 7) (q0 := 0) rfl rfl)) rfl rfl hl.1 rfl (lv_room (Nat.le_of_ble_eq_true rfl)) dX7_join_10 ⟨Nat.zero_le _, Nat.zero_le _⟩) hS (fun locs hS => ?_)
  refine tp_i (y := (bI true)) (by rw [isN_t h0 hj0]) ?_
  refine nb_ifb_eq (tgt := 20) hx hb dX7_join_13 (by decide) (fun c_13 => by exfalso; exact absurd c_13 (by decide)) (fun c_13 => ?_)
  refine lv_iconst (v := (nI 1)) hx hb dX7_join_16 (by decide) ?_
  refine lv_goto (tgt := 21) hx hb dX7_join_17 (by decide) ?_
  refine lv_istore_n (lv' := [(3, .int (nI 1)), (0, .ref ma), (1, .int (nI i0)), (2, .int (nI j0))]) hx hb dX7_join_21 rfl hl (by decide) rfl (fun ls hl => ?_)
  refine lv_aload_n hx hb dX7_join_22 rfl (lv_at hl 1 rfl) ?_
  refine lv_iload_n hx hb dX7_join_23 rfl (lv_at hl 0 rfl) ?_
  refine lv_iload_n hx hb dX7_join_24 rfl (lv_at hl 0 rfl) ?_
  refine nb_if_eq (tgt := 41) hx hb (by omega) dX7_join_25 (by decide) (fun c_25 => by exfalso; omega) (fun c_25 => ?_)
  refine lv_aload_n hx hb dX7_join_28 rfl (lv_at hl 1 rfl) ?_
  refine lv_iload_n hx hb dX7_join_29 rfl (lv_at hl 2 rfl) ?_
  refine lv_iload_n hx hb dX7_join_30 rfl (lv_at hl 3 rfl) ?_
  refine ro_fin (va_runV (As := [.int (nI i0), .int (nI j0)]) (rest := [.int (nI 1), .ref ma]) ⟨hx, hb, hml, hown, hts⟩ (c_X7_canJoin l Γ _ ma ms sn0 mk tw0 mt ty0 mb il0 me mr my0 mq mp mw mc ss i0 j0 (hP.sub (ws' := [(ma, .inr (7, [.ref ms, .int (nI sn0), .ref mk, .int (nI tw0), .ref mt, .int (nI ty0), .ref mb, .int (bI il0), .ref me, .ref mr, .int (nI my0), .ref mq, .ref mp, .ref mw, .ref mc])), (ms, .inl (Γ.2 0, 162, .inl (aN ss)))]) [0, 1] rfl) (by first | omega | assumption) (hwn) (by first | omega | assumption) (by first | omega | assumption)) (kcwV 2 hts kv_X7_canJoin mw_502 (rm_le hR (Nat.le_of_ble_eq_true rfl) (Nat.le_of_ble_eq_true rfl))) (kPc_V hK (va_recv hK.1 hP (ci := 7) (q0 := 0) rfl rfl)) rfl rfl hl.1 rfl (lv_room (Nat.le_of_ble_eq_true rfl)) dX7_join_31 ⟨Nat.zero_le _, Nat.zero_le _⟩) hS (fun locs hS => ?_)
  refine tp_i (y := (bI true)) (by rw [← hc]; rfl) ?_
  refine nb_ifb_eq (tgt := 41) hx hb dX7_join_34 (by decide) (fun c_34 => by exfalso; exact absurd c_34 (by decide)) (fun c_34 => ?_)
  refine lv_iconst (v := (nI 1)) hx hb dX7_join_37 (by decide) ?_
  refine lv_goto (tgt := 42) hx hb dX7_join_38 (by decide) ?_
  refine wr_fini (va_runV (As := [.int (nI 1), .int (nI 1)]) (rest := []) ⟨hx, hb, hml, hown, hts⟩ (c_X7_goes l Γ ma ms sn0 mk tw0 mt ty0 mb il0 me mr my0 mq mp mw mc true true ) (kcwV 2 hts kv_X7_goes mw_494 (rm_le hR (Nat.le_of_ble_eq_true rfl) (Nat.le_of_ble_eq_true rfl))) (kPw_V hK (va_recv hK.1 hP (ci := 7) (q0 := 0) rfl rfl) (hP.sub (ws' := [(ma, .inr (7, [.ref ms, .int (nI sn0), .ref mk, .int (nI tw0), .ref mt, .int (nI ty0), .ref mb, .int (bI il0), .ref me, .ref mr, .int (nI my0), .ref mq, .ref mp, .ref mw, .ref mc]))]) [0] rfl) (hD.sub (ws' := [(ma, .inr (7, [.ref ms, .int (nI sn0), .ref mk, .int (nI tw0), .ref mt, .int (nI ty0), .ref mb, .int (bI il0), .ref me, .ref mr, .int (nI my0), .ref mq, .ref mp, .ref mw, .ref mc]))]) [0] (by decide) rfl)) rfl rfl hl.1 rfl (lv_room (Nat.le_of_ble_eq_true rfl)) dX7_join_42 ⟨Nat.zero_le _, Nat.zero_le _⟩) hP hD hS [0] rfl (fun _ => rfl) (fun r _ H locs hw hP hD hS => ?_)
  obtain rfl := hw
  have hP : va_P Γ.1 vwCl [(ma, .inr (7, [.ref ms, .int (nI sn0), .ref mk, .int (nI (gz true true)), .ref mt, .int (nI ty0), .ref mb, .int (bI il0), .ref me, .ref mr, .int (nI my0), .ref mq, .ref mp, .ref mw, .ref mc])), (ms, .inl (Γ.2 0, 162, .inl (aN ss))), (mr, .inl (Γ.2 0, 14, .inl (aN tr)))] H := hP
  have hD : va_D A [(ma, .inr (7, [.ref ms, .int (nI sn0), .ref mk, .int (nI (gz true true)), .ref mt, .int (nI ty0), .ref mb, .int (bI il0), .ref me, .ref mr, .int (nI my0), .ref mq, .ref mp, .ref mw, .ref mc])), (ms, .inl (Γ.2 0, 162, .inl (aN ss))), (mr, .inl (Γ.2 0, 14, .inl (aN tr)))] := hD
  refine tp_i (y := (bI true)) (rfl) ?_
  refine nb_ifb_ne (tgt := 50) hx hb dX7_join_45 (by decide) (fun c_45 => ?_) (fun c_45 => by exfalso; exact absurd c_45 (by decide))
  refine lv_aload_n hx hb dX7_join_50 rfl (lv_at hl 1 rfl) ?_
  refine wr_finv (va_runV (As := []) (rest := []) ⟨hx, hb, hml, hown, hts⟩ (c_X7_saves l Γ ma ms sn0 mk (gz true true) mt ty0 mb il0 me mr my0 mq mp mw mc ss (by first | omega | assumption)) (kcwV 0 hts kv_X7_saves mw_497 (rm_le hR (Nat.le_of_ble_eq_true rfl) (Nat.le_of_ble_eq_true rfl))) (kPw_V hK (va_recv hK.1 hP (ci := 7) (q0 := 0) rfl rfl) (hP.sub (ws' := [(ma, .inr (7, [.ref ms, .int (nI sn0), .ref mk, .int (nI (gz true true)), .ref mt, .int (nI ty0), .ref mb, .int (bI il0), .ref me, .ref mr, .int (nI my0), .ref mq, .ref mp, .ref mw, .ref mc])), (ms, .inl (Γ.2 0, 162, .inl (aN ss)))]) [0, 1] rfl) (hD.sub (ws' := [(ma, .inr (7, [.ref ms, .int (nI sn0), .ref mk, .int (nI (gz true true)), .ref mt, .int (nI ty0), .ref mb, .int (bI il0), .ref me, .ref mr, .int (nI my0), .ref mq, .ref mp, .ref mw, .ref mc])), (ms, .inl (Γ.2 0, 162, .inl (aN ss)))]) [0, 1] (by decide) rfl)) rfl rfl hl.1 rfl (lv_room (Nat.le_of_ble_eq_true rfl)) dX7_join_51 ⟨Nat.zero_le _, Nat.zero_le _⟩) hP hD hS [0, 1] rfl (fun _ => rfl) (fun _ H locs hw hP hD hS => ?_)
  have hP : va_P Γ.1 vwCl [(ma, .inr (7, [.ref ms, .int (nI (svN sn0)), .ref mk, .int (nI (gz true true)), .ref mt, .int (nI ty0), .ref mb, .int (bI il0), .ref me, .ref mr, .int (nI my0), .ref mq, .ref mp, .ref mw, .ref mc])), (ms, .inl (Γ.2 0, 162, .inl (aN (svM ss sn0)))), (mr, .inl (Γ.2 0, 14, .inl (aN tr)))] H := hP
  have hD : va_D A [(ma, .inr (7, [.ref ms, .int (nI (svN sn0)), .ref mk, .int (nI (gz true true)), .ref mt, .int (nI ty0), .ref mb, .int (bI il0), .ref me, .ref mr, .int (nI my0), .ref mq, .ref mp, .ref mw, .ref mc])), (ms, .inl (Γ.2 0, 162, .inl (aN (svM ss sn0)))), (mr, .inl (Γ.2 0, 14, .inl (aN tr)))] := hD
  refine lv_aload_n hx hb dX7_join_54 rfl (lv_at hl 1 rfl) ?_
  refine lv_iload_n hx hb dX7_join_55 rfl (lv_at hl 2 rfl) ?_
  refine lv_iload_n hx hb dX7_join_56 rfl (lv_at hl 3 rfl) ?_
  refine lv_iconst (v := (nI 1)) hx hb dX7_join_57 (by decide) ?_
  refine wr_finv (va_runV (As := [.int (nI i0), .int (nI j0), .int (nI 1)]) (rest := []) ⟨hx, hb, hml, hown, hts⟩ (c_X7_links l Γ ma ms (svN sn0) mk (gz true true) mt ty0 mb il0 me mr my0 mq mp mw mc (svM ss sn0) i0 j0 true (by omega) (by omega)) (kcwV 3 hts kv_X7_links mw_473 (rm_le hR (Nat.le_of_ble_eq_true rfl) (Nat.le_of_ble_eq_true rfl))) (kPw_V hK (va_recv hK.1 hP (ci := 7) (q0 := 0) rfl rfl) (hP.sub (ws' := [(ma, .inr (7, [.ref ms, .int (nI (svN sn0)), .ref mk, .int (nI (gz true true)), .ref mt, .int (nI ty0), .ref mb, .int (bI il0), .ref me, .ref mr, .int (nI my0), .ref mq, .ref mp, .ref mw, .ref mc])), (ms, .inl (Γ.2 0, 162, .inl (aN (svM ss sn0))))]) [0, 1] rfl) (hD.sub (ws' := [(ma, .inr (7, [.ref ms, .int (nI (svN sn0)), .ref mk, .int (nI (gz true true)), .ref mt, .int (nI ty0), .ref mb, .int (bI il0), .ref me, .ref mr, .int (nI my0), .ref mq, .ref mp, .ref mw, .ref mc])), (ms, .inl (Γ.2 0, 162, .inl (aN (svM ss sn0))))]) [0, 1] (by decide) rfl)) rfl rfl hl.1 rfl (lv_room (Nat.le_of_ble_eq_true rfl)) dX7_join_58 ⟨Nat.zero_le _, Nat.zero_le _⟩) hP hD hS [0, 1] rfl (fun _ => rfl) (fun _ H locs hw hP hD hS => ?_)
  have hP : va_P Γ.1 vwCl [(ma, .inr (7, [.ref ms, .int (nI (svN sn0)), .ref mk, .int (nI (gz true true)), .ref mt, .int (nI ty0), .ref mb, .int (bI false), .ref me, .ref mr, .int (nI my0), .ref mq, .ref mp, .ref mw, .ref mc])), (ms, .inl (Γ.2 0, 162, .inl (aN (lkS (svM ss sn0) i0 j0 true)))), (mr, .inl (Γ.2 0, 14, .inl (aN tr)))] H := hP
  have hD : va_D A [(ma, .inr (7, [.ref ms, .int (nI (svN sn0)), .ref mk, .int (nI (gz true true)), .ref mt, .int (nI ty0), .ref mb, .int (bI false), .ref me, .ref mr, .int (nI my0), .ref mq, .ref mp, .ref mw, .ref mc])), (ms, .inl (Γ.2 0, 162, .inl (aN (lkS (svM ss sn0) i0 j0 true)))), (mr, .inl (Γ.2 0, 14, .inl (aN tr)))] := hD
  refine lv_aload_n hx hb dX7_join_61 rfl (lv_at hl 1 rfl) ?_
  refine wr_finv (va_runV (As := []) (rest := []) ⟨hx, hb, hml, hown, hts⟩ (c_X7_finds l Γ ma ms (svN sn0) mk (gz true true) mt ty0 mb false me mr my0 mq mp mw mc (lkS (svM ss sn0) i0 j0 true) tr (by rw [lkS_lo (by decide), svM_lo hsn (by decide)]; exact h0) (by rw [lkS_lo (by decide), lkS_lo (by decide), svM_lo hsn (by decide), svM_lo hsn (by decide)]; exact h1)) (kcwV 0 hts kv_X7_finds mw_505 (rm_le hR (Nat.le_of_ble_eq_true rfl) (Nat.le_of_ble_eq_true rfl))) (kPw_V hK (va_recv hK.1 hP (ci := 7) (q0 := 0) rfl rfl) (hP.sub (ws' := [(ma, .inr (7, [.ref ms, .int (nI (svN sn0)), .ref mk, .int (nI (gz true true)), .ref mt, .int (nI ty0), .ref mb, .int (bI false), .ref me, .ref mr, .int (nI my0), .ref mq, .ref mp, .ref mw, .ref mc])), (ms, .inl (Γ.2 0, 162, .inl (aN (lkS (svM ss sn0) i0 j0 true)))), (mr, .inl (Γ.2 0, 14, .inl (aN tr)))]) [0, 1, 2] rfl) (hD.sub (ws' := [(ma, .inr (7, [.ref ms, .int (nI (svN sn0)), .ref mk, .int (nI (gz true true)), .ref mt, .int (nI ty0), .ref mb, .int (bI false), .ref me, .ref mr, .int (nI my0), .ref mq, .ref mp, .ref mw, .ref mc])), (ms, .inl (Γ.2 0, 162, .inl (aN (lkS (svM ss sn0) i0 j0 true)))), (mr, .inl (Γ.2 0, 14, .inl (aN tr)))]) [0, 1, 2] (by decide) rfl)) rfl rfl hl.1 rfl (lv_room (Nat.le_of_ble_eq_true rfl)) dX7_join_62 ⟨Nat.zero_le _, Nat.zero_le _⟩) hP hD hS [0, 1, 2] rfl (fun _ => rfl) (fun _ H locs hw hP hD hS => ?_)
  have hP : va_P Γ.1 vwCl [(ma, .inr (7, [.ref ms, .int (nI (svN sn0)), .ref mk, .int (nI (gz true true)), .ref mt, .int (nI ty0), .ref mb, .int (bI false), .ref me, .ref mr, .int (nI (trC (gS (lkS (svM ss sn0) i0 j0 true)) ((lkS (svM ss sn0) i0 j0 true) 1))), .ref mq, .ref mp, .ref mw, .ref mc])), (ms, .inl (Γ.2 0, 162, .inl (aN (lkS (svM ss sn0) i0 j0 true)))), (mr, .inl (Γ.2 0, 14, .inl (aN (trS tr (gS (lkS (svM ss sn0) i0 j0 true)) ((lkS (svM ss sn0) i0 j0 true) 1) (trC (gS (lkS (svM ss sn0) i0 j0 true)) ((lkS (svM ss sn0) i0 j0 true) 1))))))] H := hP
  have hD : va_D A [(ma, .inr (7, [.ref ms, .int (nI (svN sn0)), .ref mk, .int (nI (gz true true)), .ref mt, .int (nI ty0), .ref mb, .int (bI false), .ref me, .ref mr, .int (nI (trC (gS (lkS (svM ss sn0) i0 j0 true)) ((lkS (svM ss sn0) i0 j0 true) 1))), .ref mq, .ref mp, .ref mw, .ref mc])), (ms, .inl (Γ.2 0, 162, .inl (aN (lkS (svM ss sn0) i0 j0 true)))), (mr, .inl (Γ.2 0, 14, .inl (aN (trS tr (gS (lkS (svM ss sn0) i0 j0 true)) ((lkS (svM ss sn0) i0 j0 true) 1) (trC (gS (lkS (svM ss sn0) i0 j0 true)) ((lkS (svM ss sn0) i0 j0 true) 1))))))] := hD
  refine lv_aload_n hx hb dX7_join_65 rfl (lv_at hl 1 rfl) ?_
  refine va_get (D := Γ.1) (ci := 7) (v := .int (nI (trC (gS (lkS (svM ss sn0) i0 j0 true)) ((lkS (svM ss sn0) i0 j0 true) 1)))) (C := RX7) (T := TX7) (N := 15) hx hb hts hinX7 hown hK.1 hP 0 rfl rfl 10 (by decide) (hts _ mw_450) (fun _ h9 => h9) rfl dX7_join_66 ?_
  exact hret () hP hS (rfl) dX7_join_69
set_option maxHeartbeats 8000000 in
set_option maxRecDepth 100000 in
theorem c_X7_nodes (l : Launch) (Γ : kG) (ma : Nat) (ms : Nat) (sn0 : Nat) (mk : Nat) (tw0 : Nat) (mt : Nat) (ty0 : Nat) (mb : Nat) (il0 : Bool) (me : Nat) (mr : Nat) (my0 : Nat) (mq : Nat) (mp : Nat) (mw : Nat) (mc : Nat) (ss : Nat → Nat) (tb : Nat → Nat) (ed : Nat → Nat) (tr : Nat → Nat) (v0 : Nat) (w0 : Nat) (h0 : ss 0 ≤ 14) (h1 : ss 1 < 2 ^ ss 0) (htb : tbLt tb) (hil : il0 = true → tbOk (gS ss) tb (2 ^ ss 0)) (hv0 : v0 < ss 0) (hw0 : w0 < 6) : WRi l yX7_nodes (wsq yX7_nodes cX7_nodes 3 (some .int)) (rmL 6) Γ [.ref ma, .int (nI v0), .int (nI w0)] [(ma, .inr (7, [.ref ms, .int (nI sn0), .ref mk, .int (nI tw0), .ref mt, .int (nI ty0), .ref mb, .int (bI il0), .ref me, .ref mr, .int (nI my0), .ref mq, .ref mp, .ref mw, .ref mc])), (ms, .inl (Γ.2 0, 162, .inl (aN ss))), (mb, .inl (Γ.2 0, 16384, .inl (aN tb))), (me, .inl (Γ.2 0, 14, .inl (aN ed))), (mr, .inl (Γ.2 0, 14, .inl (aN tr)))] (fun u : (Nat → Nat) × (Nat → Nat) × Bool × Nat × (Nat → Nat) => [(ma, .inr (7, [.ref ms, .int (nI sn0), .ref mk, .int (nI tw0), .ref mt, .int (nI ty0), .ref mb, .int (bI u.2.2.1), .ref me, .ref mr, .int (nI u.2.2.2.1), .ref mq, .ref mp, .ref mw, .ref mc])), (ms, .inl (Γ.2 0, 162, .inl (aN ss))), (mb, .inl (Γ.2 0, 16384, .inl (aN u.1))), (me, .inl (Γ.2 0, 14, .inl (aN u.2.1))), (mr, .inl (Γ.2 0, 14, .inl (aN u.2.2.2.2)))]) (fun (r : Int32) (u : (Nat → Nat) × (Nat → Nat) × Bool × Nat × (Nat → Nat)) => r = (ndR (gS ss) (ss 1) v0 w0) ∧ tbLt u.1 ∧ (u.2.2.1 = true → tbOk (gS ss) u.1 (2 ^ ss 0))) := by
  refine wr_ofi (cc := cX7_nodes) (maxL := 3) (by decide +kernel) (Nat.le_of_ble_eq_true rfl) rfl ?_
  intro p ev R st mi args below meth cd Q A ls C0 hR hret hP hD hS hl
  obtain ⟨hx, hb, hr, hml, hown, hts, hlk, hK, hnm⟩ := C0
  have hown : st.vm.findClass RX7 = some mi.cls := hown
  have hwn := w14 h1 h0
  rcases (show w0 = 0 ∨ w0 = 1 ∨ w0 = 2 ∨ w0 = 3 ∨ w0 = 4 ∨ w0 = 5 by omega) with rfl | rfl | rfl | rfl | rfl | rfl
  · skip
    refine lv_iload_n hx hb dX7_nodes_0 rfl (lv_at hl 2 rfl) ?_
    refine nb_if_ne (tgt := 18) hx hb (by omega) dX7_nodes_1 (by decide) (fun c_1 => by exfalso; omega) (fun c_1 => ?_)
    refine lv_aload_n hx hb dX7_nodes_4 rfl (lv_at hl 0 rfl) ?_
    refine lv_iload_n hx hb dX7_nodes_5 rfl (lv_at hl 1 rfl) ?_
    refine ro_fin (va_runV (As := [.int (nI v0)]) (rest := []) ⟨hx, hb, hml, hown, hts⟩ (c_X7_isThere l Γ _ ma ms sn0 mk tw0 mt ty0 mb il0 me mr my0 mq mp mw mc ss v0 (hP.sub (ws' := [(ma, .inr (7, [.ref ms, .int (nI sn0), .ref mk, .int (nI tw0), .ref mt, .int (nI ty0), .ref mb, .int (bI il0), .ref me, .ref mr, .int (nI my0), .ref mq, .ref mp, .ref mw, .ref mc])), (ms, .inl (Γ.2 0, 162, .inl (aN ss)))]) [0, 1] rfl) (hwn) (by omega)) (kcwV 1 hts kv_X7_isThere mw_470 (rm_le hR (Nat.le_of_ble_eq_true rfl) (Nat.le_of_ble_eq_true rfl))) (kPc_V hK (va_recv hK.1 hP (ci := 7) (q0 := 0) rfl rfl)) rfl rfl hl.1 rfl (lv_room (Nat.le_of_ble_eq_true rfl)) dX7_nodes_6 ⟨Nat.zero_le _, Nat.zero_le _⟩) hS (fun locs hS => ?_)
    refine nb_ifb_eq (tgt := 16) hx hb dX7_nodes_9 (by decide) (fun c_9 => ?_) (fun c_9 => ?_)
    · skip
      refine lv_iconst (v := (nI 0)) hx hb dX7_nodes_16 (by decide) ?_
      exact hret (tb, ed, il0, my0, tr) hP hS (⟨by first | (rw [ndR, c_9]; rfl) | (rw [ndR, if_f c_23]) | (rw [ndR, if_t c_23]; rfl) | (rw [ndR, if_t c_23, if_pos c_109]) | (rw [ndR, if_t c_23, if_neg c_109]) | (rw [ndR, if_t c_23, if_neg (Nat.not_lt.mpr c_130)]) | (rw [ndR, if_t c_23, if_pos c_130]) | (rw [ndR, if_f c_23]; rfl) | (rw [ndR, if_t c_23]), htb, hil⟩) dX7_nodes_17
    · skip
      refine lv_iconst (v := (nI 1)) hx hb dX7_nodes_12 (by decide) ?_
      refine lv_goto (tgt := 17) hx hb dX7_nodes_13 (by decide) ?_
      exact hret (tb, ed, il0, my0, tr) hP hS (⟨by first | (rw [ndR, c_9]; rfl) | (rw [ndR, if_f c_23]) | (rw [ndR, if_t c_23]; rfl) | (rw [ndR, if_t c_23, if_pos c_109]) | (rw [ndR, if_t c_23, if_neg c_109]) | (rw [ndR, if_t c_23, if_neg (Nat.not_lt.mpr c_130)]) | (rw [ndR, if_t c_23, if_pos c_130]) | (rw [ndR, if_f c_23]; rfl) | (rw [ndR, if_t c_23]), htb, hil⟩) dX7_nodes_17
  · skip
    refine lv_iload_n hx hb dX7_nodes_0 rfl (lv_at hl 2 rfl) ?_
    refine nb_if_ne (tgt := 18) hx hb (by omega) dX7_nodes_1 (by decide) (fun c_1 => ?_) (fun c_1 => by exfalso; omega)
    refine lv_aload_n hx hb dX7_nodes_18 rfl (lv_at hl 0 rfl) ?_
    refine lv_iload_n hx hb dX7_nodes_19 rfl (lv_at hl 1 rfl) ?_
    refine ro_fin (va_runV (As := [.int (nI v0)]) (rest := []) ⟨hx, hb, hml, hown, hts⟩ (c_X7_isThere l Γ _ ma ms sn0 mk tw0 mt ty0 mb il0 me mr my0 mq mp mw mc ss v0 (hP.sub (ws' := [(ma, .inr (7, [.ref ms, .int (nI sn0), .ref mk, .int (nI tw0), .ref mt, .int (nI ty0), .ref mb, .int (bI il0), .ref me, .ref mr, .int (nI my0), .ref mq, .ref mp, .ref mw, .ref mc])), (ms, .inl (Γ.2 0, 162, .inl (aN ss)))]) [0, 1] rfl) (hwn) (by omega)) (kcwV 1 hts kv_X7_isThere mw_470 (rm_le hR (Nat.le_of_ble_eq_true rfl) (Nat.le_of_ble_eq_true rfl))) (kPc_V hK (va_recv hK.1 hP (ci := 7) (q0 := 0) rfl rfl)) rfl rfl hl.1 rfl (lv_room (Nat.le_of_ble_eq_true rfl)) dX7_nodes_20 ⟨Nat.zero_le _, Nat.zero_le _⟩) hS (fun locs hS => ?_)
    refine nb_ifb_ne (tgt := 37) hx hb dX7_nodes_23 (by decide) (fun c_23 => ?_) (fun c_23 => ?_)
    · skip
      refine lv_iload_n hx hb dX7_nodes_37 rfl (lv_at hl 2 rfl) ?_
      refine lv_tableIn (off := 30) (tgt := 68) hx hb dX7_nodes_38 (by decide) (by decide) (by decide) (by decide) ?_
      refine lv_aload_n hx hb dX7_nodes_68 rfl (lv_at hl 0 rfl) ?_
      refine va_get (D := Γ.1) (ci := 7) (v := .ref ms) (C := RX7) (T := TX7) (N := 15) hx hb hts hinX7 hown hK.1 hP 0 rfl rfl 0 (by decide) (hts _ mw_400) (fun _ h9 => h9) rfl dX7_nodes_69 ?_
      refine lv_iconst (v := (nI 4)) hx hb dX7_nodes_72 (by decide) ?_
      refine lv_iload_n hx hb dX7_nodes_73 rfl (lv_at hl 1 rfl) ?_
      refine lv_iadd hx hb dX7_nodes_74 ?_
      refine tp_i (y := (nI (4 + v0))) (nI_add _ _) ?_
      refine iald_N hx hb hK.1 hP 1 0 rfl rfl (by omega) (by first | decide | assumption) dX7_nodes_75 ?_
      refine lv_aload_n hx hb dX7_nodes_76 rfl (lv_at hl 0 rfl) ?_
      refine va_get (D := Γ.1) (ci := 7) (v := .ref ms) (C := RX7) (T := TX7) (N := 15) hx hb hts hinX7 hown hK.1 hP 0 rfl rfl 0 (by decide) (hts _ mw_400) (fun _ h9 => h9) rfl dX7_nodes_77 ?_
      refine lv_iconst (v := (nI 1)) hx hb dX7_nodes_80 (by decide) ?_
      refine iald_N hx hb hK.1 hP 1 0 rfl rfl (by omega) (by first | decide | assumption) dX7_nodes_81 ?_
      refine lv_iand hx hb dX7_nodes_82 ?_
      refine tp_i (y := (nI ((ss (4 + v0)) &&& (ss 1)))) (ni_and _ _) ?_
      exact hret (tb, ed, il0, my0, tr) hP hS (⟨by first | (rw [ndR, c_9]; rfl) | (rw [ndR, if_f c_23]) | (rw [ndR, if_t c_23]; rfl) | (rw [ndR, if_t c_23, if_pos c_109]) | (rw [ndR, if_t c_23, if_neg c_109]) | (rw [ndR, if_t c_23, if_neg (Nat.not_lt.mpr c_130)]) | (rw [ndR, if_t c_23, if_pos c_130]) | (rw [ndR, if_f c_23]; rfl) | (rw [ndR, if_t c_23]), htb, hil⟩) dX7_nodes_83
    · skip
      refine lv_iload_n hx hb dX7_nodes_26 rfl (lv_at hl 2 rfl) ?_
      refine lv_iconst (v := (nI 1)) hx hb dX7_nodes_27 (by decide) ?_
      refine nb_icmp_ne (tgt := 35) hx hb (by first | omega | assumption) (by first | omega | assumption) dX7_nodes_28 (by decide) (fun c_28 => by exfalso; omega) (fun c_28 => ?_)
      refine lv_iconst (v := (nI 0)) hx hb dX7_nodes_31 (by decide) ?_
      refine lv_goto (tgt := 36) hx hb dX7_nodes_32 (by decide) ?_
      exact hret (tb, ed, il0, my0, tr) hP hS (⟨by first | (rw [ndR, c_9]; rfl) | (rw [ndR, if_f c_23]) | (rw [ndR, if_t c_23]; rfl) | (rw [ndR, if_t c_23, if_pos c_109]) | (rw [ndR, if_t c_23, if_neg c_109]) | (rw [ndR, if_t c_23, if_neg (Nat.not_lt.mpr c_130)]) | (rw [ndR, if_t c_23, if_pos c_130]) | (rw [ndR, if_f c_23]; rfl) | (rw [ndR, if_t c_23]), htb, hil⟩) dX7_nodes_36
  · skip
    refine lv_iload_n hx hb dX7_nodes_0 rfl (lv_at hl 2 rfl) ?_
    refine nb_if_ne (tgt := 18) hx hb (by omega) dX7_nodes_1 (by decide) (fun c_1 => ?_) (fun c_1 => by exfalso; omega)
    refine lv_aload_n hx hb dX7_nodes_18 rfl (lv_at hl 0 rfl) ?_
    refine lv_iload_n hx hb dX7_nodes_19 rfl (lv_at hl 1 rfl) ?_
    refine ro_fin (va_runV (As := [.int (nI v0)]) (rest := []) ⟨hx, hb, hml, hown, hts⟩ (c_X7_isThere l Γ _ ma ms sn0 mk tw0 mt ty0 mb il0 me mr my0 mq mp mw mc ss v0 (hP.sub (ws' := [(ma, .inr (7, [.ref ms, .int (nI sn0), .ref mk, .int (nI tw0), .ref mt, .int (nI ty0), .ref mb, .int (bI il0), .ref me, .ref mr, .int (nI my0), .ref mq, .ref mp, .ref mw, .ref mc])), (ms, .inl (Γ.2 0, 162, .inl (aN ss)))]) [0, 1] rfl) (hwn) (by omega)) (kcwV 1 hts kv_X7_isThere mw_470 (rm_le hR (Nat.le_of_ble_eq_true rfl) (Nat.le_of_ble_eq_true rfl))) (kPc_V hK (va_recv hK.1 hP (ci := 7) (q0 := 0) rfl rfl)) rfl rfl hl.1 rfl (lv_room (Nat.le_of_ble_eq_true rfl)) dX7_nodes_20 ⟨Nat.zero_le _, Nat.zero_le _⟩) hS (fun locs hS => ?_)
    refine nb_ifb_ne (tgt := 37) hx hb dX7_nodes_23 (by decide) (fun c_23 => ?_) (fun c_23 => ?_)
    · skip
      refine lv_iload_n hx hb dX7_nodes_37 rfl (lv_at hl 2 rfl) ?_
      refine lv_tableIn (off := 46) (tgt := 84) hx hb dX7_nodes_38 (by decide) (by decide) (by decide) (by decide) ?_
      refine lv_aload_n hx hb dX7_nodes_84 rfl (lv_at hl 0 rfl) ?_
      refine lv_iload_n hx hb dX7_nodes_85 rfl (lv_at hl 1 rfl) ?_
      refine wr_fini (va_runV (As := [.int (nI v0)]) (rest := []) ⟨hx, hb, hml, hown, hts⟩ (c_X7_treeOf l Γ ma ms sn0 mk tw0 mt ty0 mb il0 me mr my0 mq mp mw mc ss tr v0 (by first | omega | assumption) (by first | omega | assumption) (by omega)) (kcwV 1 hts kv_X7_treeOf mw_546 (rm_le hR (Nat.le_of_ble_eq_true rfl) (Nat.le_of_ble_eq_true rfl))) (kPw_V hK (va_recv hK.1 hP (ci := 7) (q0 := 0) rfl rfl) (hP.sub (ws' := [(ma, .inr (7, [.ref ms, .int (nI sn0), .ref mk, .int (nI tw0), .ref mt, .int (nI ty0), .ref mb, .int (bI il0), .ref me, .ref mr, .int (nI my0), .ref mq, .ref mp, .ref mw, .ref mc])), (ms, .inl (Γ.2 0, 162, .inl (aN ss))), (mr, .inl (Γ.2 0, 14, .inl (aN tr)))]) [0, 1, 4] rfl) (hD.sub (ws' := [(ma, .inr (7, [.ref ms, .int (nI sn0), .ref mk, .int (nI tw0), .ref mt, .int (nI ty0), .ref mb, .int (bI il0), .ref me, .ref mr, .int (nI my0), .ref mq, .ref mp, .ref mw, .ref mc])), (ms, .inl (Γ.2 0, 162, .inl (aN ss))), (mr, .inl (Γ.2 0, 14, .inl (aN tr)))]) [0, 1, 4] (by decide) rfl)) rfl rfl hl.1 rfl (lv_room (Nat.le_of_ble_eq_true rfl)) dX7_nodes_86 ⟨Nat.zero_le _, Nat.zero_le _⟩) hP hD hS [0, 1, 4] rfl (fun _ => rfl) (fun r _ H locs hw hP hD hS => ?_)
      obtain rfl := hw
      have hP : va_P Γ.1 vwCl [(ma, .inr (7, [.ref ms, .int (nI sn0), .ref mk, .int (nI tw0), .ref mt, .int (nI ty0), .ref mb, .int (bI il0), .ref me, .ref mr, .int (nI (trC (gS ss) (ss 1))), .ref mq, .ref mp, .ref mw, .ref mc])), (ms, .inl (Γ.2 0, 162, .inl (aN ss))), (mb, .inl (Γ.2 0, 16384, .inl (aN tb))), (me, .inl (Γ.2 0, 14, .inl (aN ed))), (mr, .inl (Γ.2 0, 14, .inl (aN (trS tr (gS ss) (ss 1) (trC (gS ss) (ss 1))))))] H := hP
      have hD : va_D A [(ma, .inr (7, [.ref ms, .int (nI sn0), .ref mk, .int (nI tw0), .ref mt, .int (nI ty0), .ref mb, .int (bI il0), .ref me, .ref mr, .int (nI (trC (gS ss) (ss 1))), .ref mq, .ref mp, .ref mw, .ref mc])), (ms, .inl (Γ.2 0, 162, .inl (aN ss))), (mb, .inl (Γ.2 0, 16384, .inl (aN tb))), (me, .inl (Γ.2 0, 14, .inl (aN ed))), (mr, .inl (Γ.2 0, 14, .inl (aN (trS tr (gS ss) (ss 1) (trC (gS ss) (ss 1))))))] := hD
      exact hret (tb, ed, il0, (trC (gS ss) (ss 1)), (trS tr (gS ss) (ss 1) (trC (gS ss) (ss 1)))) hP hS (⟨by first | (rw [ndR, c_9]; rfl) | (rw [ndR, if_f c_23]) | (rw [ndR, if_t c_23]; rfl) | (rw [ndR, if_t c_23, if_pos c_109]) | (rw [ndR, if_t c_23, if_neg c_109]) | (rw [ndR, if_t c_23, if_neg (Nat.not_lt.mpr c_130)]) | (rw [ndR, if_t c_23, if_pos c_130]) | (rw [ndR, if_f c_23]; rfl) | (rw [ndR, if_t c_23]), htb, hil⟩) dX7_nodes_89
    · skip
      refine lv_iload_n hx hb dX7_nodes_26 rfl (lv_at hl 2 rfl) ?_
      refine lv_iconst (v := (nI 1)) hx hb dX7_nodes_27 (by decide) ?_
      refine nb_icmp_ne (tgt := 35) hx hb (by first | omega | assumption) (by first | omega | assumption) dX7_nodes_28 (by decide) (fun c_28 => ?_) (fun c_28 => by exfalso; omega)
      refine lv_iconst (v := (-1)) hx hb dX7_nodes_35 (by decide) ?_
      exact hret (tb, ed, il0, my0, tr) hP hS (⟨by first | (rw [ndR, c_9]; rfl) | (rw [ndR, if_f c_23]) | (rw [ndR, if_t c_23]; rfl) | (rw [ndR, if_t c_23, if_pos c_109]) | (rw [ndR, if_t c_23, if_neg c_109]) | (rw [ndR, if_t c_23, if_neg (Nat.not_lt.mpr c_130)]) | (rw [ndR, if_t c_23, if_pos c_130]) | (rw [ndR, if_f c_23]; rfl) | (rw [ndR, if_t c_23]), htb, hil⟩) dX7_nodes_36
  · skip
    refine lv_iload_n hx hb dX7_nodes_0 rfl (lv_at hl 2 rfl) ?_
    refine nb_if_ne (tgt := 18) hx hb (by omega) dX7_nodes_1 (by decide) (fun c_1 => ?_) (fun c_1 => by exfalso; omega)
    refine lv_aload_n hx hb dX7_nodes_18 rfl (lv_at hl 0 rfl) ?_
    refine lv_iload_n hx hb dX7_nodes_19 rfl (lv_at hl 1 rfl) ?_
    refine ro_fin (va_runV (As := [.int (nI v0)]) (rest := []) ⟨hx, hb, hml, hown, hts⟩ (c_X7_isThere l Γ _ ma ms sn0 mk tw0 mt ty0 mb il0 me mr my0 mq mp mw mc ss v0 (hP.sub (ws' := [(ma, .inr (7, [.ref ms, .int (nI sn0), .ref mk, .int (nI tw0), .ref mt, .int (nI ty0), .ref mb, .int (bI il0), .ref me, .ref mr, .int (nI my0), .ref mq, .ref mp, .ref mw, .ref mc])), (ms, .inl (Γ.2 0, 162, .inl (aN ss)))]) [0, 1] rfl) (hwn) (by omega)) (kcwV 1 hts kv_X7_isThere mw_470 (rm_le hR (Nat.le_of_ble_eq_true rfl) (Nat.le_of_ble_eq_true rfl))) (kPc_V hK (va_recv hK.1 hP (ci := 7) (q0 := 0) rfl rfl)) rfl rfl hl.1 rfl (lv_room (Nat.le_of_ble_eq_true rfl)) dX7_nodes_20 ⟨Nat.zero_le _, Nat.zero_le _⟩) hS (fun locs hS => ?_)
    refine nb_ifb_ne (tgt := 37) hx hb dX7_nodes_23 (by decide) (fun c_23 => ?_) (fun c_23 => ?_)
    · skip
      refine lv_iload_n hx hb dX7_nodes_37 rfl (lv_at hl 2 rfl) ?_
      refine lv_tableIn (off := 52) (tgt := 90) hx hb dX7_nodes_38 (by decide) (by decide) (by decide) (by decide) ?_
      refine lv_aload_n hx hb dX7_nodes_90 rfl (lv_at hl 0 rfl) ?_
      refine lv_aload_n hx hb dX7_nodes_91 rfl (lv_at hl 0 rfl) ?_
      refine lv_iload_n hx hb dX7_nodes_92 rfl (lv_at hl 1 rfl) ?_
      refine ro_fin (va_runV (As := [.int (nI v0)]) (rest := [.ref ma]) ⟨hx, hb, hml, hown, hts⟩ (c_X7_behind l Γ _ ma ms sn0 mk tw0 mt ty0 mb il0 me mr my0 mq mp mw mc ss v0 (hP.sub (ws' := [(ma, .inr (7, [.ref ms, .int (nI sn0), .ref mk, .int (nI tw0), .ref mt, .int (nI ty0), .ref mb, .int (bI il0), .ref me, .ref mr, .int (nI my0), .ref mq, .ref mp, .ref mw, .ref mc])), (ms, .inl (Γ.2 0, 162, .inl (aN ss)))]) [0, 1] rfl) (by omega)) (kcwV 1 hts kv_X7_behind mw_516 (rm_le hR (Nat.le_of_ble_eq_true rfl) (Nat.le_of_ble_eq_true rfl))) (kPc_V hK (va_recv hK.1 hP (ci := 7) (q0 := 0) rfl rfl)) rfl rfl hl.1 rfl (lv_room (Nat.le_of_ble_eq_true rfl)) dX7_nodes_93 ⟨Nat.zero_le _, Nat.zero_le _⟩) hS (fun locs hS => ?_)
      refine wr_fini (va_runV (As := [.int (nI (lft (gS ss) (ss 1) v0))]) (rest := []) ⟨hx, hb, hml, hown, hts⟩ (c_X7_valueOf l Γ ma ms sn0 mk tw0 mt ty0 mb il0 me mr my0 mq mp mw mc ss tb ed (lft (gS ss) (ss 1) v0) (by first | omega | assumption) (sd_lt (k := ss 0) _ h1) (by first | omega | assumption) (by first | omega | assumption)) (kcwV 1 hts kv_X7_valueOf mw_519 (rm_le hR (Nat.le_of_ble_eq_true rfl) (Nat.le_of_ble_eq_true rfl))) (kPw_V hK (va_recv hK.1 hP (ci := 7) (q0 := 0) rfl rfl) (hP.sub (ws' := [(ma, .inr (7, [.ref ms, .int (nI sn0), .ref mk, .int (nI tw0), .ref mt, .int (nI ty0), .ref mb, .int (bI il0), .ref me, .ref mr, .int (nI my0), .ref mq, .ref mp, .ref mw, .ref mc])), (ms, .inl (Γ.2 0, 162, .inl (aN ss))), (mb, .inl (Γ.2 0, 16384, .inl (aN tb))), (me, .inl (Γ.2 0, 14, .inl (aN ed)))]) [0, 1, 2, 3] rfl) (hD.sub (ws' := [(ma, .inr (7, [.ref ms, .int (nI sn0), .ref mk, .int (nI tw0), .ref mt, .int (nI ty0), .ref mb, .int (bI il0), .ref me, .ref mr, .int (nI my0), .ref mq, .ref mp, .ref mw, .ref mc])), (ms, .inl (Γ.2 0, 162, .inl (aN ss))), (mb, .inl (Γ.2 0, 16384, .inl (aN tb))), (me, .inl (Γ.2 0, 14, .inl (aN ed)))]) [0, 1, 2, 3] (by decide) rfl)) rfl rfl hl.1 rfl (lv_room (Nat.le_of_ble_eq_true rfl)) dX7_nodes_96 ⟨Nat.zero_le _, Nat.zero_le _⟩) hP hD hS [0, 1, 2, 3] rfl (fun _ => rfl) (fun r u H locs hw hP hD hS => ?_)
      obtain ⟨t7, e7⟩ := u
      obtain ⟨rfl, hq7, hr7⟩ := hw
      have hP : va_P Γ.1 vwCl [(ma, .inr (7, [.ref ms, .int (nI sn0), .ref mk, .int (nI tw0), .ref mt, .int (nI ty0), .ref mb, .int (bI true), .ref me, .ref mr, .int (nI my0), .ref mq, .ref mp, .ref mw, .ref mc])), (ms, .inl (Γ.2 0, 162, .inl (aN ss))), (mb, .inl (Γ.2 0, 16384, .inl (aN t7))), (me, .inl (Γ.2 0, 14, .inl (aN e7))), (mr, .inl (Γ.2 0, 14, .inl (aN tr)))] H := hP
      have hD : va_D A [(ma, .inr (7, [.ref ms, .int (nI sn0), .ref mk, .int (nI tw0), .ref mt, .int (nI ty0), .ref mb, .int (bI true), .ref me, .ref mr, .int (nI my0), .ref mq, .ref mp, .ref mw, .ref mc])), (ms, .inl (Γ.2 0, 162, .inl (aN ss))), (mb, .inl (Γ.2 0, 16384, .inl (aN t7))), (me, .inl (Γ.2 0, 14, .inl (aN e7))), (mr, .inl (Γ.2 0, 14, .inl (aN tr)))] := hD
      exact hret (t7, e7, true, my0, tr) hP hS (⟨by first | (rw [ndR, c_9]; rfl) | (rw [ndR, if_f c_23]) | (rw [ndR, if_t c_23]; rfl) | (rw [ndR, if_t c_23, if_pos c_109]) | (rw [ndR, if_t c_23, if_neg c_109]) | (rw [ndR, if_t c_23, if_neg (Nat.not_lt.mpr c_130)]) | (rw [ndR, if_t c_23, if_pos c_130]) | (rw [ndR, if_f c_23]; rfl) | (rw [ndR, if_t c_23]), hr7, fun _ => hq7⟩) dX7_nodes_99
    · skip
      refine lv_iload_n hx hb dX7_nodes_26 rfl (lv_at hl 2 rfl) ?_
      refine lv_iconst (v := (nI 1)) hx hb dX7_nodes_27 (by decide) ?_
      refine nb_icmp_ne (tgt := 35) hx hb (by first | omega | assumption) (by first | omega | assumption) dX7_nodes_28 (by decide) (fun c_28 => ?_) (fun c_28 => by exfalso; omega)
      refine lv_iconst (v := (-1)) hx hb dX7_nodes_35 (by decide) ?_
      exact hret (tb, ed, il0, my0, tr) hP hS (⟨by first | (rw [ndR, c_9]; rfl) | (rw [ndR, if_f c_23]) | (rw [ndR, if_t c_23]; rfl) | (rw [ndR, if_t c_23, if_pos c_109]) | (rw [ndR, if_t c_23, if_neg c_109]) | (rw [ndR, if_t c_23, if_neg (Nat.not_lt.mpr c_130)]) | (rw [ndR, if_t c_23, if_pos c_130]) | (rw [ndR, if_f c_23]; rfl) | (rw [ndR, if_t c_23]), htb, hil⟩) dX7_nodes_36
  · skip
    refine lv_iload_n hx hb dX7_nodes_0 rfl (lv_at hl 2 rfl) ?_
    refine nb_if_ne (tgt := 18) hx hb (by omega) dX7_nodes_1 (by decide) (fun c_1 => ?_) (fun c_1 => by exfalso; omega)
    refine lv_aload_n hx hb dX7_nodes_18 rfl (lv_at hl 0 rfl) ?_
    refine lv_iload_n hx hb dX7_nodes_19 rfl (lv_at hl 1 rfl) ?_
    refine ro_fin (va_runV (As := [.int (nI v0)]) (rest := []) ⟨hx, hb, hml, hown, hts⟩ (c_X7_isThere l Γ _ ma ms sn0 mk tw0 mt ty0 mb il0 me mr my0 mq mp mw mc ss v0 (hP.sub (ws' := [(ma, .inr (7, [.ref ms, .int (nI sn0), .ref mk, .int (nI tw0), .ref mt, .int (nI ty0), .ref mb, .int (bI il0), .ref me, .ref mr, .int (nI my0), .ref mq, .ref mp, .ref mw, .ref mc])), (ms, .inl (Γ.2 0, 162, .inl (aN ss)))]) [0, 1] rfl) (hwn) (by omega)) (kcwV 1 hts kv_X7_isThere mw_470 (rm_le hR (Nat.le_of_ble_eq_true rfl) (Nat.le_of_ble_eq_true rfl))) (kPc_V hK (va_recv hK.1 hP (ci := 7) (q0 := 0) rfl rfl)) rfl rfl hl.1 rfl (lv_room (Nat.le_of_ble_eq_true rfl)) dX7_nodes_20 ⟨Nat.zero_le _, Nat.zero_le _⟩) hS (fun locs hS => ?_)
    refine nb_ifb_ne (tgt := 37) hx hb dX7_nodes_23 (by decide) (fun c_23 => ?_) (fun c_23 => ?_)
    · skip
      refine lv_iload_n hx hb dX7_nodes_37 rfl (lv_at hl 2 rfl) ?_
      refine lv_tableIn (off := 62) (tgt := 100) hx hb dX7_nodes_38 (by decide) (by decide) (by decide) (by decide) ?_
      refine lv_aload_n hx hb dX7_nodes_100 rfl (lv_at hl 0 rfl) ?_
      refine lv_aload_n hx hb dX7_nodes_101 rfl (lv_at hl 0 rfl) ?_
      refine lv_iload_n hx hb dX7_nodes_102 rfl (lv_at hl 1 rfl) ?_
      refine ro_fin (va_runV (As := [.int (nI v0)]) (rest := [.ref ma]) ⟨hx, hb, hml, hown, hts⟩ (c_X7_behind l Γ _ ma ms sn0 mk tw0 mt ty0 mb il0 me mr my0 mq mp mw mc ss v0 (hP.sub (ws' := [(ma, .inr (7, [.ref ms, .int (nI sn0), .ref mk, .int (nI tw0), .ref mt, .int (nI ty0), .ref mb, .int (bI il0), .ref me, .ref mr, .int (nI my0), .ref mq, .ref mp, .ref mw, .ref mc])), (ms, .inl (Γ.2 0, 162, .inl (aN ss)))]) [0, 1] rfl) (by omega)) (kcwV 1 hts kv_X7_behind mw_516 (rm_le hR (Nat.le_of_ble_eq_true rfl) (Nat.le_of_ble_eq_true rfl))) (kPc_V hK (va_recv hK.1 hP (ci := 7) (q0 := 0) rfl rfl)) rfl rfl hl.1 rfl (lv_room (Nat.le_of_ble_eq_true rfl)) dX7_nodes_103 ⟨Nat.zero_le _, Nat.zero_le _⟩) hS (fun locs hS => ?_)
      refine wr_fini (va_runV (As := [.int (nI (lft (gS ss) (ss 1) v0))]) (rest := []) ⟨hx, hb, hml, hown, hts⟩ (c_X7_valueOf l Γ ma ms sn0 mk tw0 mt ty0 mb il0 me mr my0 mq mp mw mc ss tb ed (lft (gS ss) (ss 1) v0) (by first | omega | assumption) (sd_lt (k := ss 0) _ h1) (by first | omega | assumption) (by first | omega | assumption)) (kcwV 1 hts kv_X7_valueOf mw_519 (rm_le hR (Nat.le_of_ble_eq_true rfl) (Nat.le_of_ble_eq_true rfl))) (kPw_V hK (va_recv hK.1 hP (ci := 7) (q0 := 0) rfl rfl) (hP.sub (ws' := [(ma, .inr (7, [.ref ms, .int (nI sn0), .ref mk, .int (nI tw0), .ref mt, .int (nI ty0), .ref mb, .int (bI il0), .ref me, .ref mr, .int (nI my0), .ref mq, .ref mp, .ref mw, .ref mc])), (ms, .inl (Γ.2 0, 162, .inl (aN ss))), (mb, .inl (Γ.2 0, 16384, .inl (aN tb))), (me, .inl (Γ.2 0, 14, .inl (aN ed)))]) [0, 1, 2, 3] rfl) (hD.sub (ws' := [(ma, .inr (7, [.ref ms, .int (nI sn0), .ref mk, .int (nI tw0), .ref mt, .int (nI ty0), .ref mb, .int (bI il0), .ref me, .ref mr, .int (nI my0), .ref mq, .ref mp, .ref mw, .ref mc])), (ms, .inl (Γ.2 0, 162, .inl (aN ss))), (mb, .inl (Γ.2 0, 16384, .inl (aN tb))), (me, .inl (Γ.2 0, 14, .inl (aN ed)))]) [0, 1, 2, 3] (by decide) rfl)) rfl rfl hl.1 rfl (lv_room (Nat.le_of_ble_eq_true rfl)) dX7_nodes_106 ⟨Nat.zero_le _, Nat.zero_le _⟩) hP hD hS [0, 1, 2, 3] rfl (fun _ => rfl) (fun r u H locs hw hP hD hS => ?_)
      obtain ⟨t7, e7⟩ := u
      obtain ⟨rfl, hq7, hr7⟩ := hw
      have hP : va_P Γ.1 vwCl [(ma, .inr (7, [.ref ms, .int (nI sn0), .ref mk, .int (nI tw0), .ref mt, .int (nI ty0), .ref mb, .int (bI true), .ref me, .ref mr, .int (nI my0), .ref mq, .ref mp, .ref mw, .ref mc])), (ms, .inl (Γ.2 0, 162, .inl (aN ss))), (mb, .inl (Γ.2 0, 16384, .inl (aN t7))), (me, .inl (Γ.2 0, 14, .inl (aN e7))), (mr, .inl (Γ.2 0, 14, .inl (aN tr)))] H := hP
      have hD : va_D A [(ma, .inr (7, [.ref ms, .int (nI sn0), .ref mk, .int (nI tw0), .ref mt, .int (nI ty0), .ref mb, .int (bI true), .ref me, .ref mr, .int (nI my0), .ref mq, .ref mp, .ref mw, .ref mc])), (ms, .inl (Γ.2 0, 162, .inl (aN ss))), (mb, .inl (Γ.2 0, 16384, .inl (aN t7))), (me, .inl (Γ.2 0, 14, .inl (aN e7))), (mr, .inl (Γ.2 0, 14, .inl (aN tr)))] := hD
      refine nb_if_ne (tgt := 116) hx hb (Nat.lt_trans (V_16 _ _) (by decide)) dX7_nodes_109 (by decide) (fun c_109 => ?_) (fun c_109 => ?_)
      · skip
        refine lv_iconst (v := (nI 0)) hx hb dX7_nodes_116 (by decide) ?_
        exact hret (t7, e7, true, my0, tr) hP hS (⟨by first | (rw [ndR, c_9]; rfl) | (rw [ndR, if_f c_23]) | (rw [ndR, if_t c_23]; rfl) | (rw [ndR, if_t c_23, if_pos c_109]) | (rw [ndR, if_t c_23, if_neg c_109]) | (rw [ndR, if_t c_23, if_neg (Nat.not_lt.mpr c_130)]) | (rw [ndR, if_t c_23, if_pos c_130]) | (rw [ndR, if_f c_23]; rfl) | (rw [ndR, if_t c_23]), hr7, fun _ => hq7⟩) dX7_nodes_117
      · skip
        refine lv_iconst (v := (nI 1)) hx hb dX7_nodes_112 (by decide) ?_
        refine lv_goto (tgt := 117) hx hb dX7_nodes_113 (by decide) ?_
        exact hret (t7, e7, true, my0, tr) hP hS (⟨by first | (rw [ndR, c_9]; rfl) | (rw [ndR, if_f c_23]) | (rw [ndR, if_t c_23]; rfl) | (rw [ndR, if_t c_23, if_pos c_109]) | (rw [ndR, if_t c_23, if_neg c_109]) | (rw [ndR, if_t c_23, if_neg (Nat.not_lt.mpr c_130)]) | (rw [ndR, if_t c_23, if_pos c_130]) | (rw [ndR, if_f c_23]; rfl) | (rw [ndR, if_t c_23]), hr7, fun _ => hq7⟩) dX7_nodes_117
    · skip
      refine lv_iload_n hx hb dX7_nodes_26 rfl (lv_at hl 2 rfl) ?_
      refine lv_iconst (v := (nI 1)) hx hb dX7_nodes_27 (by decide) ?_
      refine nb_icmp_ne (tgt := 35) hx hb (by first | omega | assumption) (by first | omega | assumption) dX7_nodes_28 (by decide) (fun c_28 => ?_) (fun c_28 => by exfalso; omega)
      refine lv_iconst (v := (-1)) hx hb dX7_nodes_35 (by decide) ?_
      exact hret (tb, ed, il0, my0, tr) hP hS (⟨by first | (rw [ndR, c_9]; rfl) | (rw [ndR, if_f c_23]) | (rw [ndR, if_t c_23]; rfl) | (rw [ndR, if_t c_23, if_pos c_109]) | (rw [ndR, if_t c_23, if_neg c_109]) | (rw [ndR, if_t c_23, if_neg (Nat.not_lt.mpr c_130)]) | (rw [ndR, if_t c_23, if_pos c_130]) | (rw [ndR, if_f c_23]; rfl) | (rw [ndR, if_t c_23]), htb, hil⟩) dX7_nodes_36
  · skip
    refine lv_iload_n hx hb dX7_nodes_0 rfl (lv_at hl 2 rfl) ?_
    refine nb_if_ne (tgt := 18) hx hb (by omega) dX7_nodes_1 (by decide) (fun c_1 => ?_) (fun c_1 => by exfalso; omega)
    refine lv_aload_n hx hb dX7_nodes_18 rfl (lv_at hl 0 rfl) ?_
    refine lv_iload_n hx hb dX7_nodes_19 rfl (lv_at hl 1 rfl) ?_
    refine ro_fin (va_runV (As := [.int (nI v0)]) (rest := []) ⟨hx, hb, hml, hown, hts⟩ (c_X7_isThere l Γ _ ma ms sn0 mk tw0 mt ty0 mb il0 me mr my0 mq mp mw mc ss v0 (hP.sub (ws' := [(ma, .inr (7, [.ref ms, .int (nI sn0), .ref mk, .int (nI tw0), .ref mt, .int (nI ty0), .ref mb, .int (bI il0), .ref me, .ref mr, .int (nI my0), .ref mq, .ref mp, .ref mw, .ref mc])), (ms, .inl (Γ.2 0, 162, .inl (aN ss)))]) [0, 1] rfl) (hwn) (by omega)) (kcwV 1 hts kv_X7_isThere mw_470 (rm_le hR (Nat.le_of_ble_eq_true rfl) (Nat.le_of_ble_eq_true rfl))) (kPc_V hK (va_recv hK.1 hP (ci := 7) (q0 := 0) rfl rfl)) rfl rfl hl.1 rfl (lv_room (Nat.le_of_ble_eq_true rfl)) dX7_nodes_20 ⟨Nat.zero_le _, Nat.zero_le _⟩) hS (fun locs hS => ?_)
    refine nb_ifb_ne (tgt := 37) hx hb dX7_nodes_23 (by decide) (fun c_23 => ?_) (fun c_23 => ?_)
    · skip
      refine lv_iload_n hx hb dX7_nodes_37 rfl (lv_at hl 2 rfl) ?_
      refine lv_tableOut (tgt := 118) hx hb dX7_nodes_38 (by decide) (by decide) ?_
      refine lv_aload_n hx hb dX7_nodes_118 rfl (lv_at hl 0 rfl) ?_
      refine lv_aload_n hx hb dX7_nodes_119 rfl (lv_at hl 0 rfl) ?_
      refine lv_iload_n hx hb dX7_nodes_120 rfl (lv_at hl 1 rfl) ?_
      refine ro_fin (va_runV (As := [.int (nI v0)]) (rest := [.ref ma]) ⟨hx, hb, hml, hown, hts⟩ (c_X7_behind l Γ _ ma ms sn0 mk tw0 mt ty0 mb il0 me mr my0 mq mp mw mc ss v0 (hP.sub (ws' := [(ma, .inr (7, [.ref ms, .int (nI sn0), .ref mk, .int (nI tw0), .ref mt, .int (nI ty0), .ref mb, .int (bI il0), .ref me, .ref mr, .int (nI my0), .ref mq, .ref mp, .ref mw, .ref mc])), (ms, .inl (Γ.2 0, 162, .inl (aN ss)))]) [0, 1] rfl) (by omega)) (kcwV 1 hts kv_X7_behind mw_516 (rm_le hR (Nat.le_of_ble_eq_true rfl) (Nat.le_of_ble_eq_true rfl))) (kPc_V hK (va_recv hK.1 hP (ci := 7) (q0 := 0) rfl rfl)) rfl rfl hl.1 rfl (lv_room (Nat.le_of_ble_eq_true rfl)) dX7_nodes_121 ⟨Nat.zero_le _, Nat.zero_le _⟩) hS (fun locs hS => ?_)
      refine wr_fini (va_runV (As := [.int (nI (lft (gS ss) (ss 1) v0))]) (rest := []) ⟨hx, hb, hml, hown, hts⟩ (c_X7_of l Γ ma ms sn0 mk tw0 mt ty0 mb il0 me mr my0 mq mp mw mc ss tb ed (lft (gS ss) (ss 1) v0) (by first | omega | assumption) (sd_lt (k := ss 0) _ h1) (by first | omega | assumption) (by first | omega | assumption)) (kcwV 1 hts kv_X7_of mw_445 (rm_le hR (Nat.le_of_ble_eq_true rfl) (Nat.le_of_ble_eq_true rfl))) (kPw_V hK (va_recv hK.1 hP (ci := 7) (q0 := 0) rfl rfl) (hP.sub (ws' := [(ma, .inr (7, [.ref ms, .int (nI sn0), .ref mk, .int (nI tw0), .ref mt, .int (nI ty0), .ref mb, .int (bI il0), .ref me, .ref mr, .int (nI my0), .ref mq, .ref mp, .ref mw, .ref mc])), (ms, .inl (Γ.2 0, 162, .inl (aN ss))), (mb, .inl (Γ.2 0, 16384, .inl (aN tb))), (me, .inl (Γ.2 0, 14, .inl (aN ed)))]) [0, 1, 2, 3] rfl) (hD.sub (ws' := [(ma, .inr (7, [.ref ms, .int (nI sn0), .ref mk, .int (nI tw0), .ref mt, .int (nI ty0), .ref mb, .int (bI il0), .ref me, .ref mr, .int (nI my0), .ref mq, .ref mp, .ref mw, .ref mc])), (ms, .inl (Γ.2 0, 162, .inl (aN ss))), (mb, .inl (Γ.2 0, 16384, .inl (aN tb))), (me, .inl (Γ.2 0, 14, .inl (aN ed)))]) [0, 1, 2, 3] (by decide) rfl)) rfl rfl hl.1 rfl (lv_room (Nat.le_of_ble_eq_true rfl)) dX7_nodes_124 ⟨Nat.zero_le _, Nat.zero_le _⟩) hP hD hS [0, 1, 2, 3] rfl (fun _ => rfl) (fun r u H locs hw hP hD hS => ?_)
      obtain ⟨t7, e7⟩ := u
      obtain ⟨rfl, hq7, hr7⟩ := hw
      have hP : va_P Γ.1 vwCl [(ma, .inr (7, [.ref ms, .int (nI sn0), .ref mk, .int (nI tw0), .ref mt, .int (nI ty0), .ref mb, .int (bI true), .ref me, .ref mr, .int (nI my0), .ref mq, .ref mp, .ref mw, .ref mc])), (ms, .inl (Γ.2 0, 162, .inl (aN ss))), (mb, .inl (Γ.2 0, 16384, .inl (aN t7))), (me, .inl (Γ.2 0, 14, .inl (aN e7))), (mr, .inl (Γ.2 0, 14, .inl (aN tr)))] H := hP
      have hD : va_D A [(ma, .inr (7, [.ref ms, .int (nI sn0), .ref mk, .int (nI tw0), .ref mt, .int (nI ty0), .ref mb, .int (bI true), .ref me, .ref mr, .int (nI my0), .ref mq, .ref mp, .ref mw, .ref mc])), (ms, .inl (Γ.2 0, 162, .inl (aN ss))), (mb, .inl (Γ.2 0, 16384, .inl (aN t7))), (me, .inl (Γ.2 0, 14, .inl (aN e7))), (mr, .inl (Γ.2 0, 14, .inl (aN tr)))] := hD
      refine lv_sipush (v := (nI 4096)) hx hb dX7_nodes_127 (by decide) ?_
      refine nb_icmp_ge (tgt := 137) hx hb (Nat.lt_trans (T_lt _ (sd_14 _ hwn)) (by decide)) (by omega) dX7_nodes_130 (by decide) (fun c_130 => ?_) (fun c_130 => ?_)
      · skip
        refine lv_iconst (v := (nI 0)) hx hb dX7_nodes_137 (by decide) ?_
        exact hret (t7, e7, true, my0, tr) hP hS (⟨by first | (rw [ndR, c_9]; rfl) | (rw [ndR, if_f c_23]) | (rw [ndR, if_t c_23]; rfl) | (rw [ndR, if_t c_23, if_pos c_109]) | (rw [ndR, if_t c_23, if_neg c_109]) | (rw [ndR, if_t c_23, if_neg (Nat.not_lt.mpr c_130)]) | (rw [ndR, if_t c_23, if_pos c_130]) | (rw [ndR, if_f c_23]; rfl) | (rw [ndR, if_t c_23]), hr7, fun _ => hq7⟩) dX7_nodes_138
      · skip
        refine lv_iconst (v := (nI 1)) hx hb dX7_nodes_133 (by decide) ?_
        refine lv_goto (tgt := 138) hx hb dX7_nodes_134 (by decide) ?_
        exact hret (t7, e7, true, my0, tr) hP hS (⟨by first | (rw [ndR, c_9]; rfl) | (rw [ndR, if_f c_23]) | (rw [ndR, if_t c_23]; rfl) | (rw [ndR, if_t c_23, if_pos c_109]) | (rw [ndR, if_t c_23, if_neg c_109]) | (rw [ndR, if_t c_23, if_neg (Nat.not_lt.mpr c_130)]) | (rw [ndR, if_t c_23, if_pos c_130]) | (rw [ndR, if_f c_23]; rfl) | (rw [ndR, if_t c_23]), hr7, fun _ => hq7⟩) dX7_nodes_138
    · skip
      refine lv_iload_n hx hb dX7_nodes_26 rfl (lv_at hl 2 rfl) ?_
      refine lv_iconst (v := (nI 1)) hx hb dX7_nodes_27 (by decide) ?_
      refine nb_icmp_ne (tgt := 35) hx hb (by first | omega | assumption) (by first | omega | assumption) dX7_nodes_28 (by decide) (fun c_28 => ?_) (fun c_28 => by exfalso; omega)
      refine lv_iconst (v := (-1)) hx hb dX7_nodes_35 (by decide) ?_
      exact hret (tb, ed, il0, my0, tr) hP hS (⟨by first | (rw [ndR, c_9]; rfl) | (rw [ndR, if_f c_23]) | (rw [ndR, if_t c_23]; rfl) | (rw [ndR, if_t c_23, if_pos c_109]) | (rw [ndR, if_t c_23, if_neg c_109]) | (rw [ndR, if_t c_23, if_neg (Nat.not_lt.mpr c_130)]) | (rw [ndR, if_t c_23, if_pos c_130]) | (rw [ndR, if_f c_23]; rfl) | (rw [ndR, if_t c_23]), htb, hil⟩) dX7_nodes_36
set_option maxHeartbeats 8000000 in
set_option maxRecDepth 100000 in
theorem c_X7_nodeOf_x (l : Launch) (Γ : kG) (ma : Nat) (ms : Nat) (sn0 : Nat) (mk : Nat) (tw0 : Nat) (mt : Nat) (ty0 : Nat) (mb : Nat) (il0 : Bool) (me : Nat) (mr : Nat) (my0 : Nat) (mq : Nat) (mp : Nat) (mw : Nat) (mc : Nat) (ss : Nat → Nat) (x0 : Int32) (y0 : Int32) (h0 : ss 0 ≤ 14) (hx0 : isN (ss 0) x0 = false) : WRi l yX7_nodeOf (wsq yX7_nodeOf cX7_nodeOf 3 (some .int)) (rmL 3) Γ [.ref ma, .int x0, .int y0] [(ma, .inr (7, [.ref ms, .int (nI sn0), .ref mk, .int (nI tw0), .ref mt, .int (nI ty0), .ref mb, .int (bI il0), .ref me, .ref mr, .int (nI my0), .ref mq, .ref mp, .ref mw, .ref mc])), (ms, .inl (Γ.2 0, 162, .inl (aN ss)))] (fun u : Unit => [(ma, .inr (7, [.ref ms, .int (nI sn0), .ref mk, .int (nI 1), .ref mt, .int (nI ty0), .ref mb, .int (bI il0), .ref me, .ref mr, .int (nI my0), .ref mq, .ref mp, .ref mw, .ref mc])), (ms, .inl (Γ.2 0, 162, .inl (aN ss)))]) (fun (r : Int32) (u : Unit) => r = (nI 0)) := by
  refine wr_ofi (cc := cX7_nodeOf) (maxL := 3) (by decide +kernel) (Nat.le_of_ble_eq_true rfl) rfl ?_
  intro p ev R st mi args below meth cd Q A ls C0 hR hret hP hD hS hl
  obtain ⟨hx, hb, hr, hml, hown, hts, hlk, hK, hnm⟩ := C0
  have hown : st.vm.findClass RX7 = some mi.cls := hown
  refine lv_aload_n hx hb dX7_nodeOf_0 rfl (lv_at hl 0 rfl) ?_
  refine lv_aload_n hx hb dX7_nodeOf_1 rfl (lv_at hl 0 rfl) ?_
  refine lv_iload_n hx hb dX7_nodeOf_2 rfl (lv_at hl 1 rfl) ?_
  refine ro_fin (va_runV (As := [.int x0]) (rest := [.ref ma]) ⟨hx, hb, hml, hown, hts⟩ (c_X7_isNode l Γ _ ma ms sn0 mk tw0 mt ty0 mb il0 me mr my0 mq mp mw mc ss x0 (hP.sub (ws' := [(ma, .inr (7, [.ref ms, .int (nI sn0), .ref mk, .int (nI tw0), .ref mt, .int (nI ty0), .ref mb, .int (bI il0), .ref me, .ref mr, .int (nI my0), .ref mq, .ref mp, .ref mw, .ref mc])), (ms, .inl (Γ.2 0, 162, .inl (aN ss)))]) [0, 1] rfl) (by first | omega | assumption)) (kcwV 1 hts kv_X7_isNode mw_491 (rm_le hR (Nat.le_of_ble_eq_true rfl) (Nat.le_of_ble_eq_true rfl))) (kPc_V hK (va_recv hK.1 hP (ci := 7) (q0 := 0) rfl rfl)) rfl rfl hl.1 rfl (lv_room (Nat.le_of_ble_eq_true rfl)) dX7_nodeOf_3 ⟨Nat.zero_le _, Nat.zero_le _⟩) hS (fun locs hS => ?_)
  refine tp_i (y := (bI false)) (by rw [hx0]) ?_
  refine lv_iload_n hx hb dX7_nodeOf_6 rfl (lv_at hl 2 rfl) ?_
  refine lv_iconst (v := (nI 0)) hx hb dX7_nodeOf_7 (by decide) ?_
  refine lv_iconst (v := (nI 5)) hx hb dX7_nodeOf_8 (by decide) ?_
  refine ro_fin (va_runS (As := [.int y0, .int (nI 0), .int (nI 5)]) (rest := [.int (bI false), .ref ma]) ⟨hx, hb, hml, hown, hts⟩ (c_X7_in l Γ _ y0 (nI 0) (nI 5) ) (kcwS 3 hts kv_X7_in mw_427 (rm_le hR (Nat.le_of_ble_eq_true rfl) (Nat.le_of_ble_eq_true rfl))) (kPc_S hK) rfl rfl hl.1 rfl (lv_room (Nat.le_of_ble_eq_true rfl)) dX7_nodeOf_9 ⟨Nat.zero_le _, Nat.zero_le _⟩) hS (fun locs hS => ?_)
  refine wr_fini (va_runV (As := [.int (bI false), .int (bI (decide ((nI 0) ≤ y0 ∧ y0 ≤ (nI 5))))]) (rest := []) ⟨hx, hb, hml, hown, hts⟩ (c_X7_goes l Γ ma ms sn0 mk tw0 mt ty0 mb il0 me mr my0 mq mp mw mc false (decide ((nI 0) ≤ y0 ∧ y0 ≤ (nI 5))) ) (kcwV 2 hts kv_X7_goes mw_494 (rm_le hR (Nat.le_of_ble_eq_true rfl) (Nat.le_of_ble_eq_true rfl))) (kPw_V hK (va_recv hK.1 hP (ci := 7) (q0 := 0) rfl rfl) (hP.sub (ws' := [(ma, .inr (7, [.ref ms, .int (nI sn0), .ref mk, .int (nI tw0), .ref mt, .int (nI ty0), .ref mb, .int (bI il0), .ref me, .ref mr, .int (nI my0), .ref mq, .ref mp, .ref mw, .ref mc]))]) [0] rfl) (hD.sub (ws' := [(ma, .inr (7, [.ref ms, .int (nI sn0), .ref mk, .int (nI tw0), .ref mt, .int (nI ty0), .ref mb, .int (bI il0), .ref me, .ref mr, .int (nI my0), .ref mq, .ref mp, .ref mw, .ref mc]))]) [0] (by decide) rfl)) rfl rfl hl.1 rfl (lv_room (Nat.le_of_ble_eq_true rfl)) dX7_nodeOf_12 ⟨Nat.zero_le _, Nat.zero_le _⟩) hP hD hS [0] rfl (fun _ => rfl) (fun r _ H locs hw hP hD hS => ?_)
  obtain rfl := hw
  have hP : va_P Γ.1 vwCl [(ma, .inr (7, [.ref ms, .int (nI sn0), .ref mk, .int (nI (gz false (decide ((nI 0) ≤ y0 ∧ y0 ≤ (nI 5))))), .ref mt, .int (nI ty0), .ref mb, .int (bI il0), .ref me, .ref mr, .int (nI my0), .ref mq, .ref mp, .ref mw, .ref mc])), (ms, .inl (Γ.2 0, 162, .inl (aN ss)))] H := hP
  have hD : va_D A [(ma, .inr (7, [.ref ms, .int (nI sn0), .ref mk, .int (nI (gz false (decide ((nI 0) ≤ y0 ∧ y0 ≤ (nI 5))))), .ref mt, .int (nI ty0), .ref mb, .int (bI il0), .ref me, .ref mr, .int (nI my0), .ref mq, .ref mp, .ref mw, .ref mc])), (ms, .inl (Γ.2 0, 162, .inl (aN ss)))] := hD
  refine tp_i (y := (bI false)) (rfl) ?_
  refine nb_ifb_eq (tgt := 27) hx hb dX7_nodeOf_15 (by decide) (fun c_15 => ?_) (fun c_15 => by exfalso; exact absurd c_15 (by decide))
  refine lv_iconst (v := (nI 0)) hx hb dX7_nodeOf_27 (by decide) ?_
  exact hret () hP hS (rfl) dX7_nodeOf_28
set_option maxHeartbeats 8000000 in
set_option maxRecDepth 100000 in
theorem c_X7_nodeOf_f (l : Launch) (Γ : kG) (ma : Nat) (ms : Nat) (sn0 : Nat) (mk : Nat) (tw0 : Nat) (mt : Nat) (ty0 : Nat) (mb : Nat) (il0 : Bool) (me : Nat) (mr : Nat) (my0 : Nat) (mq : Nat) (mp : Nat) (mw : Nat) (mc : Nat) (ss : Nat → Nat) (x0 : Int32) (y0 : Int32) (h0 : ss 0 ≤ 14) (hx0 : isN (ss 0) x0 = true) (hy0 : ¬ (nI 0 ≤ y0 ∧ y0 ≤ nI 5)) : WRi l yX7_nodeOf (wsq yX7_nodeOf cX7_nodeOf 3 (some .int)) (rmL 3) Γ [.ref ma, .int x0, .int y0] [(ma, .inr (7, [.ref ms, .int (nI sn0), .ref mk, .int (nI tw0), .ref mt, .int (nI ty0), .ref mb, .int (bI il0), .ref me, .ref mr, .int (nI my0), .ref mq, .ref mp, .ref mw, .ref mc])), (ms, .inl (Γ.2 0, 162, .inl (aN ss)))] (fun u : Unit => [(ma, .inr (7, [.ref ms, .int (nI sn0), .ref mk, .int (nI 2), .ref mt, .int (nI ty0), .ref mb, .int (bI il0), .ref me, .ref mr, .int (nI my0), .ref mq, .ref mp, .ref mw, .ref mc])), (ms, .inl (Γ.2 0, 162, .inl (aN ss)))]) (fun (r : Int32) (u : Unit) => r = (nI 0)) := by
  refine wr_ofi (cc := cX7_nodeOf) (maxL := 3) (by decide +kernel) (Nat.le_of_ble_eq_true rfl) rfl ?_
  intro p ev R st mi args below meth cd Q A ls C0 hR hret hP hD hS hl
  obtain ⟨hx, hb, hr, hml, hown, hts, hlk, hK, hnm⟩ := C0
  have hown : st.vm.findClass RX7 = some mi.cls := hown
  refine lv_aload_n hx hb dX7_nodeOf_0 rfl (lv_at hl 0 rfl) ?_
  refine lv_aload_n hx hb dX7_nodeOf_1 rfl (lv_at hl 0 rfl) ?_
  refine lv_iload_n hx hb dX7_nodeOf_2 rfl (lv_at hl 1 rfl) ?_
  refine ro_fin (va_runV (As := [.int x0]) (rest := [.ref ma]) ⟨hx, hb, hml, hown, hts⟩ (c_X7_isNode l Γ _ ma ms sn0 mk tw0 mt ty0 mb il0 me mr my0 mq mp mw mc ss x0 (hP.sub (ws' := [(ma, .inr (7, [.ref ms, .int (nI sn0), .ref mk, .int (nI tw0), .ref mt, .int (nI ty0), .ref mb, .int (bI il0), .ref me, .ref mr, .int (nI my0), .ref mq, .ref mp, .ref mw, .ref mc])), (ms, .inl (Γ.2 0, 162, .inl (aN ss)))]) [0, 1] rfl) (by first | omega | assumption)) (kcwV 1 hts kv_X7_isNode mw_491 (rm_le hR (Nat.le_of_ble_eq_true rfl) (Nat.le_of_ble_eq_true rfl))) (kPc_V hK (va_recv hK.1 hP (ci := 7) (q0 := 0) rfl rfl)) rfl rfl hl.1 rfl (lv_room (Nat.le_of_ble_eq_true rfl)) dX7_nodeOf_3 ⟨Nat.zero_le _, Nat.zero_le _⟩) hS (fun locs hS => ?_)
  refine tp_i (y := (bI true)) (by rw [hx0]) ?_
  refine lv_iload_n hx hb dX7_nodeOf_6 rfl (lv_at hl 2 rfl) ?_
  refine lv_iconst (v := (nI 0)) hx hb dX7_nodeOf_7 (by decide) ?_
  refine lv_iconst (v := (nI 5)) hx hb dX7_nodeOf_8 (by decide) ?_
  refine ro_fin (va_runS (As := [.int y0, .int (nI 0), .int (nI 5)]) (rest := [.int (bI true), .ref ma]) ⟨hx, hb, hml, hown, hts⟩ (c_X7_in l Γ _ y0 (nI 0) (nI 5) ) (kcwS 3 hts kv_X7_in mw_427 (rm_le hR (Nat.le_of_ble_eq_true rfl) (Nat.le_of_ble_eq_true rfl))) (kPc_S hK) rfl rfl hl.1 rfl (lv_room (Nat.le_of_ble_eq_true rfl)) dX7_nodeOf_9 ⟨Nat.zero_le _, Nat.zero_le _⟩) hS (fun locs hS => ?_)
  refine tp_i (y := (bI false)) (by rw [decide_eq_false hy0]) ?_
  refine wr_fini (va_runV (As := [.int (bI true), .int (bI false)]) (rest := []) ⟨hx, hb, hml, hown, hts⟩ (c_X7_goes l Γ ma ms sn0 mk tw0 mt ty0 mb il0 me mr my0 mq mp mw mc true false ) (kcwV 2 hts kv_X7_goes mw_494 (rm_le hR (Nat.le_of_ble_eq_true rfl) (Nat.le_of_ble_eq_true rfl))) (kPw_V hK (va_recv hK.1 hP (ci := 7) (q0 := 0) rfl rfl) (hP.sub (ws' := [(ma, .inr (7, [.ref ms, .int (nI sn0), .ref mk, .int (nI tw0), .ref mt, .int (nI ty0), .ref mb, .int (bI il0), .ref me, .ref mr, .int (nI my0), .ref mq, .ref mp, .ref mw, .ref mc]))]) [0] rfl) (hD.sub (ws' := [(ma, .inr (7, [.ref ms, .int (nI sn0), .ref mk, .int (nI tw0), .ref mt, .int (nI ty0), .ref mb, .int (bI il0), .ref me, .ref mr, .int (nI my0), .ref mq, .ref mp, .ref mw, .ref mc]))]) [0] (by decide) rfl)) rfl rfl hl.1 rfl (lv_room (Nat.le_of_ble_eq_true rfl)) dX7_nodeOf_12 ⟨Nat.zero_le _, Nat.zero_le _⟩) hP hD hS [0] rfl (fun _ => rfl) (fun r _ H locs hw hP hD hS => ?_)
  obtain rfl := hw
  have hP : va_P Γ.1 vwCl [(ma, .inr (7, [.ref ms, .int (nI sn0), .ref mk, .int (nI (gz true false)), .ref mt, .int (nI ty0), .ref mb, .int (bI il0), .ref me, .ref mr, .int (nI my0), .ref mq, .ref mp, .ref mw, .ref mc])), (ms, .inl (Γ.2 0, 162, .inl (aN ss)))] H := hP
  have hD : va_D A [(ma, .inr (7, [.ref ms, .int (nI sn0), .ref mk, .int (nI (gz true false)), .ref mt, .int (nI ty0), .ref mb, .int (bI il0), .ref me, .ref mr, .int (nI my0), .ref mq, .ref mp, .ref mw, .ref mc])), (ms, .inl (Γ.2 0, 162, .inl (aN ss)))] := hD
  refine tp_i (y := (bI false)) (rfl) ?_
  refine nb_ifb_eq (tgt := 27) hx hb dX7_nodeOf_15 (by decide) (fun c_15 => ?_) (fun c_15 => by exfalso; exact absurd c_15 (by decide))
  refine lv_iconst (v := (nI 0)) hx hb dX7_nodeOf_27 (by decide) ?_
  exact hret () hP hS (rfl) dX7_nodeOf_28
set_option maxHeartbeats 8000000 in
set_option maxRecDepth 100000 in
theorem c_X7_nodeOf_a (l : Launch) (Γ : kG) (ma : Nat) (ms : Nat) (sn0 : Nat) (mk : Nat) (tw0 : Nat) (mt : Nat) (ty0 : Nat) (mb : Nat) (il0 : Bool) (me : Nat) (mr : Nat) (my0 : Nat) (mq : Nat) (mp : Nat) (mw : Nat) (mc : Nat) (ss : Nat → Nat) (tb : Nat → Nat) (ed : Nat → Nat) (tr : Nat → Nat) (v0 : Nat) (w0 : Nat) (h0 : ss 0 ≤ 14) (h1 : ss 1 < 2 ^ ss 0) (htb : tbLt tb) (hil : il0 = true → tbOk (gS ss) tb (2 ^ ss 0)) (hv0 : v0 < ss 0) (hw0 : w0 < 6) : WRi l yX7_nodeOf (wsq yX7_nodeOf cX7_nodeOf 3 (some .int)) (rmL 7) Γ [.ref ma, .int (nI v0), .int (nI w0)] [(ma, .inr (7, [.ref ms, .int (nI sn0), .ref mk, .int (nI tw0), .ref mt, .int (nI ty0), .ref mb, .int (bI il0), .ref me, .ref mr, .int (nI my0), .ref mq, .ref mp, .ref mw, .ref mc])), (ms, .inl (Γ.2 0, 162, .inl (aN ss))), (mb, .inl (Γ.2 0, 16384, .inl (aN tb))), (me, .inl (Γ.2 0, 14, .inl (aN ed))), (mr, .inl (Γ.2 0, 14, .inl (aN tr)))] (fun u : (Nat → Nat) × (Nat → Nat) × Bool × Nat × (Nat → Nat) => [(ma, .inr (7, [.ref ms, .int (nI sn0), .ref mk, .int (nI 0), .ref mt, .int (nI ty0), .ref mb, .int (bI u.2.2.1), .ref me, .ref mr, .int (nI u.2.2.2.1), .ref mq, .ref mp, .ref mw, .ref mc])), (ms, .inl (Γ.2 0, 162, .inl (aN ss))), (mb, .inl (Γ.2 0, 16384, .inl (aN u.1))), (me, .inl (Γ.2 0, 14, .inl (aN u.2.1))), (mr, .inl (Γ.2 0, 14, .inl (aN u.2.2.2.2)))]) (fun (r : Int32) (u : (Nat → Nat) × (Nat → Nat) × Bool × Nat × (Nat → Nat)) => r = (ndR (gS ss) (ss 1) v0 w0) ∧ tbLt u.1 ∧ (u.2.2.1 = true → tbOk (gS ss) u.1 (2 ^ ss 0))) := by
  refine wr_ofi (cc := cX7_nodeOf) (maxL := 3) (by decide +kernel) (Nat.le_of_ble_eq_true rfl) rfl ?_
  intro p ev R st mi args below meth cd Q A ls C0 hR hret hP hD hS hl
  obtain ⟨hx, hb, hr, hml, hown, hts, hlk, hK, hnm⟩ := C0
  have hown : st.vm.findClass RX7 = some mi.cls := hown
  refine lv_aload_n hx hb dX7_nodeOf_0 rfl (lv_at hl 0 rfl) ?_
  refine lv_aload_n hx hb dX7_nodeOf_1 rfl (lv_at hl 0 rfl) ?_
  refine lv_iload_n hx hb dX7_nodeOf_2 rfl (lv_at hl 1 rfl) ?_
  refine ro_fin (va_runV (As := [.int (nI v0)]) (rest := [.ref ma]) ⟨hx, hb, hml, hown, hts⟩ (c_X7_isNode l Γ _ ma ms sn0 mk tw0 mt ty0 mb il0 me mr my0 mq mp mw mc ss (nI v0) (hP.sub (ws' := [(ma, .inr (7, [.ref ms, .int (nI sn0), .ref mk, .int (nI tw0), .ref mt, .int (nI ty0), .ref mb, .int (bI il0), .ref me, .ref mr, .int (nI my0), .ref mq, .ref mp, .ref mw, .ref mc])), (ms, .inl (Γ.2 0, 162, .inl (aN ss)))]) [0, 1] rfl) (by first | omega | assumption)) (kcwV 1 hts kv_X7_isNode mw_491 (rm_le hR (Nat.le_of_ble_eq_true rfl) (Nat.le_of_ble_eq_true rfl))) (kPc_V hK (va_recv hK.1 hP (ci := 7) (q0 := 0) rfl rfl)) rfl rfl hl.1 rfl (lv_room (Nat.le_of_ble_eq_true rfl)) dX7_nodeOf_3 ⟨Nat.zero_le _, Nat.zero_le _⟩) hS (fun locs hS => ?_)
  refine tp_i (y := (bI true)) (by rw [isN_t h0 hv0]) ?_
  refine lv_iload_n hx hb dX7_nodeOf_6 rfl (lv_at hl 2 rfl) ?_
  refine lv_iconst (v := (nI 0)) hx hb dX7_nodeOf_7 (by decide) ?_
  refine lv_iconst (v := (nI 5)) hx hb dX7_nodeOf_8 (by decide) ?_
  refine ro_fin (va_runS (As := [.int (nI w0), .int (nI 0), .int (nI 5)]) (rest := [.int (bI true), .ref ma]) ⟨hx, hb, hml, hown, hts⟩ (c_X7_in l Γ _ (nI w0) (nI 0) (nI 5) ) (kcwS 3 hts kv_X7_in mw_427 (rm_le hR (Nat.le_of_ble_eq_true rfl) (Nat.le_of_ble_eq_true rfl))) (kPc_S hK) rfl rfl hl.1 rfl (lv_room (Nat.le_of_ble_eq_true rfl)) dX7_nodeOf_9 ⟨Nat.zero_le _, Nat.zero_le _⟩) hS (fun locs hS => ?_)
  refine tp_i (y := (bI true)) (by rw [in_t (Nat.zero_le _) (by omega) (by decide)]) ?_
  refine wr_fini (va_runV (As := [.int (bI true), .int (bI true)]) (rest := []) ⟨hx, hb, hml, hown, hts⟩ (c_X7_goes l Γ ma ms sn0 mk tw0 mt ty0 mb il0 me mr my0 mq mp mw mc true true ) (kcwV 2 hts kv_X7_goes mw_494 (rm_le hR (Nat.le_of_ble_eq_true rfl) (Nat.le_of_ble_eq_true rfl))) (kPw_V hK (va_recv hK.1 hP (ci := 7) (q0 := 0) rfl rfl) (hP.sub (ws' := [(ma, .inr (7, [.ref ms, .int (nI sn0), .ref mk, .int (nI tw0), .ref mt, .int (nI ty0), .ref mb, .int (bI il0), .ref me, .ref mr, .int (nI my0), .ref mq, .ref mp, .ref mw, .ref mc]))]) [0] rfl) (hD.sub (ws' := [(ma, .inr (7, [.ref ms, .int (nI sn0), .ref mk, .int (nI tw0), .ref mt, .int (nI ty0), .ref mb, .int (bI il0), .ref me, .ref mr, .int (nI my0), .ref mq, .ref mp, .ref mw, .ref mc]))]) [0] (by decide) rfl)) rfl rfl hl.1 rfl (lv_room (Nat.le_of_ble_eq_true rfl)) dX7_nodeOf_12 ⟨Nat.zero_le _, Nat.zero_le _⟩) hP hD hS [0] rfl (fun _ => rfl) (fun r _ H locs hw hP hD hS => ?_)
  obtain rfl := hw
  have hP : va_P Γ.1 vwCl [(ma, .inr (7, [.ref ms, .int (nI sn0), .ref mk, .int (nI (gz true true)), .ref mt, .int (nI ty0), .ref mb, .int (bI il0), .ref me, .ref mr, .int (nI my0), .ref mq, .ref mp, .ref mw, .ref mc])), (ms, .inl (Γ.2 0, 162, .inl (aN ss))), (mb, .inl (Γ.2 0, 16384, .inl (aN tb))), (me, .inl (Γ.2 0, 14, .inl (aN ed))), (mr, .inl (Γ.2 0, 14, .inl (aN tr)))] H := hP
  have hD : va_D A [(ma, .inr (7, [.ref ms, .int (nI sn0), .ref mk, .int (nI (gz true true)), .ref mt, .int (nI ty0), .ref mb, .int (bI il0), .ref me, .ref mr, .int (nI my0), .ref mq, .ref mp, .ref mw, .ref mc])), (ms, .inl (Γ.2 0, 162, .inl (aN ss))), (mb, .inl (Γ.2 0, 16384, .inl (aN tb))), (me, .inl (Γ.2 0, 14, .inl (aN ed))), (mr, .inl (Γ.2 0, 14, .inl (aN tr)))] := hD
  refine tp_i (y := (bI true)) (rfl) ?_
  refine nb_ifb_eq (tgt := 27) hx hb dX7_nodeOf_15 (by decide) (fun c_15 => by exfalso; exact absurd c_15 (by decide)) (fun c_15 => ?_)
  refine lv_aload_n hx hb dX7_nodeOf_18 rfl (lv_at hl 0 rfl) ?_
  refine lv_iload_n hx hb dX7_nodeOf_19 rfl (lv_at hl 1 rfl) ?_
  refine lv_iload_n hx hb dX7_nodeOf_20 rfl (lv_at hl 2 rfl) ?_
  refine wr_fini (va_runV (As := [.int (nI v0), .int (nI w0)]) (rest := []) ⟨hx, hb, hml, hown, hts⟩ (c_X7_nodes l Γ ma ms sn0 mk (gz true true) mt ty0 mb il0 me mr my0 mq mp mw mc ss tb ed tr v0 w0 (by first | omega | assumption) (by first | omega | assumption) (by first | omega | assumption) (by first | omega | assumption) (by first | omega | assumption) (by first | omega | assumption)) (kcwV 2 hts kv_X7_nodes mw_550 (rm_le hR (Nat.le_of_ble_eq_true rfl) (Nat.le_of_ble_eq_true rfl))) (kPw_V hK (va_recv hK.1 hP (ci := 7) (q0 := 0) rfl rfl) (hP.sub (ws' := [(ma, .inr (7, [.ref ms, .int (nI sn0), .ref mk, .int (nI (gz true true)), .ref mt, .int (nI ty0), .ref mb, .int (bI il0), .ref me, .ref mr, .int (nI my0), .ref mq, .ref mp, .ref mw, .ref mc])), (ms, .inl (Γ.2 0, 162, .inl (aN ss))), (mb, .inl (Γ.2 0, 16384, .inl (aN tb))), (me, .inl (Γ.2 0, 14, .inl (aN ed))), (mr, .inl (Γ.2 0, 14, .inl (aN tr)))]) [0, 1, 2, 3, 4] rfl) (hD.sub (ws' := [(ma, .inr (7, [.ref ms, .int (nI sn0), .ref mk, .int (nI (gz true true)), .ref mt, .int (nI ty0), .ref mb, .int (bI il0), .ref me, .ref mr, .int (nI my0), .ref mq, .ref mp, .ref mw, .ref mc])), (ms, .inl (Γ.2 0, 162, .inl (aN ss))), (mb, .inl (Γ.2 0, 16384, .inl (aN tb))), (me, .inl (Γ.2 0, 14, .inl (aN ed))), (mr, .inl (Γ.2 0, 14, .inl (aN tr)))]) [0, 1, 2, 3, 4] (by decide) rfl)) rfl rfl hl.1 rfl (lv_room (Nat.le_of_ble_eq_true rfl)) dX7_nodeOf_21 ⟨Nat.zero_le _, Nat.zero_le _⟩) hP hD hS [0, 1, 2, 3, 4] rfl (fun _ => rfl) (fun r u H locs hw hP hD hS => ?_)
  obtain ⟨t7, e7, b7, m7, r7⟩ := u
  obtain ⟨rfl, hq7, hr7⟩ := hw
  have hP : va_P Γ.1 vwCl [(ma, .inr (7, [.ref ms, .int (nI sn0), .ref mk, .int (nI (gz true true)), .ref mt, .int (nI ty0), .ref mb, .int (bI b7), .ref me, .ref mr, .int (nI m7), .ref mq, .ref mp, .ref mw, .ref mc])), (ms, .inl (Γ.2 0, 162, .inl (aN ss))), (mb, .inl (Γ.2 0, 16384, .inl (aN t7))), (me, .inl (Γ.2 0, 14, .inl (aN e7))), (mr, .inl (Γ.2 0, 14, .inl (aN r7)))] H := hP
  have hD : va_D A [(ma, .inr (7, [.ref ms, .int (nI sn0), .ref mk, .int (nI (gz true true)), .ref mt, .int (nI ty0), .ref mb, .int (bI b7), .ref me, .ref mr, .int (nI m7), .ref mq, .ref mp, .ref mw, .ref mc])), (ms, .inl (Γ.2 0, 162, .inl (aN ss))), (mb, .inl (Γ.2 0, 16384, .inl (aN t7))), (me, .inl (Γ.2 0, 14, .inl (aN e7))), (mr, .inl (Γ.2 0, 14, .inl (aN r7)))] := hD
  refine lv_goto (tgt := 28) hx hb dX7_nodeOf_24 (by decide) ?_
  exact hret (t7, e7, b7, m7, r7) hP hS (⟨rfl, hq7, hr7⟩) dX7_nodeOf_28
set_option maxHeartbeats 8000000 in
set_option maxRecDepth 100000 in
theorem c_X7_write_n (l : Launch) (Γ : kG) (ma : Nat) (ms : Nat) (sn0 : Nat) (mk : Nat) (tw0 : Nat) (mt : Nat) (ty0 : Nat) (mb : Nat) (il0 : Bool) (me : Nat) (mr : Nat) (my0 : Nat) (mq : Nat) (mp : Nat) (mw : Nat) (mc : Nat) (ss : Nat → Nat) (tx : Nat → Nat) (h0 : ss 0 ≤ 14) (hgs : ∀ i, i < 14 → gS ss i < 16384) (hwr : wrt (gS ss) (ss 0) = false) : WRi l yX7_write (wsq yX7_write cX7_write 3 (some .int)) (rmL 2) Γ [.ref ma] [(ma, .inr (7, [.ref ms, .int (nI sn0), .ref mk, .int (nI tw0), .ref mt, .int (nI ty0), .ref mb, .int (bI il0), .ref me, .ref mr, .int (nI my0), .ref mq, .ref mp, .ref mw, .ref mc])), (ms, .inl (Γ.2 0, 162, .inl (aN ss))), (mt, .inl (Γ.2 2, 14, .inl (aN tx)))] (fun u : Unit => [(ma, .inr (7, [.ref ms, .int (nI sn0), .ref mk, .int (nI 0), .ref mt, .int (nI ty0), .ref mb, .int (bI il0), .ref me, .ref mr, .int (nI my0), .ref mq, .ref mp, .ref mw, .ref mc])), (ms, .inl (Γ.2 0, 162, .inl (aN ss))), (mt, .inl (Γ.2 2, 14, .inl (aN tx)))]) (fun (r : Int32) (u : Unit) => r = (-1)) := by
  refine wr_ofi (cc := cX7_write) (maxL := 3) (by decide +kernel) (Nat.le_of_ble_eq_true rfl) rfl ?_
  intro p ev R st mi args below meth cd Q A ls C0 hR hret hP hD hS hl
  obtain ⟨hx, hb, hr, hml, hown, hts, hlk, hK, hnm⟩ := C0
  have hown : st.vm.findClass RX7 = some mi.cls := hown
  refine lv_aload_n hx hb dX7_write_0 rfl (lv_at hl 0 rfl) ?_
  refine lv_iconst (v := (nI 0)) hx hb dX7_write_1 (by decide) ?_
  refine va_put (D := Γ.1) (ci := 7) (v := .int (nI 0)) (ty := .int) (C := RX7) (T := TX7) (N := 15) hx hb hts hinX7 tyX7 tyX7_ok nmX7 hown hK.1 hP hD hS 0 rfl rfl 3 (by decide) (hts _ mw_413) (fun _ h9 => h9) rfl (by decide +kernel) rfl rfl (Nat.le_of_ble_eq_true rfl) dX7_write_2 (fun H locs hP hD hS => ?_)
  have hP : va_P Γ.1 vwCl [(ma, .inr (7, [.ref ms, .int (nI sn0), .ref mk, .int (nI 0), .ref mt, .int (nI ty0), .ref mb, .int (bI il0), .ref me, .ref mr, .int (nI my0), .ref mq, .ref mp, .ref mw, .ref mc])), (ms, .inl (Γ.2 0, 162, .inl (aN ss))), (mt, .inl (Γ.2 2, 14, .inl (aN tx)))] H := hP
  have hD : va_D A [(ma, .inr (7, [.ref ms, .int (nI sn0), .ref mk, .int (nI 0), .ref mt, .int (nI ty0), .ref mb, .int (bI il0), .ref me, .ref mr, .int (nI my0), .ref mq, .ref mp, .ref mw, .ref mc])), (ms, .inl (Γ.2 0, 162, .inl (aN ss))), (mt, .inl (Γ.2 2, 14, .inl (aN tx)))] := hD
  refine lv_iconst (v := (nI 0)) hx hb dX7_write_5 (by decide) ?_
  refine lv_istore_n (lv' := [(1, .int (nI 0)), (0, .ref ma)]) hx hb dX7_write_6 rfl hl (by decide) rfl (fun ls hl => ?_)
  have LP7 : ∀ (fu : Nat) (k0 : Nat) (hk0 : k0 ≤ ss 0) (hs0 : wrt (gS ss) k0 = true), (ss 0 - k0) < fu → ∀ (H : Heap) (locs : List Loc), va_P Γ.1 vwCl [(ma, .inr (7, [.ref ms, .int (nI sn0), .ref mk, .int (nI 0), .ref mt, .int (nI ty0), .ref mb, .int (bI il0), .ref me, .ref mr, .int (nI my0), .ref mq, .ref mp, .ref mw, .ref mc])), (ms, .inl (Γ.2 0, 162, .inl (aN ss))), (mt, .inl (Γ.2 2, 14, .inl (aN tx)))] H → va_D A [(ma, .inr (7, [.ref ms, .int (nI sn0), .ref mk, .int (nI 0), .ref mt, .int (nI ty0), .ref mb, .int (bI il0), .ref me, .ref mr, .int (nI my0), .ref mq, .ref mp, .ref mw, .ref mc])), (ms, .inl (Γ.2 0, 162, .inl (aN ss))), (mt, .inl (Γ.2 2, 14, .inl (aN tx)))] → va_S A st.heap H locs → ∀ (ls : Array Slot), lv_has ls 3 [(1, .int (nI k0)), (0, .ref ma)] → W p l ev R st mi args below meth cd H locs 0 0 Q (F0 mi 7 ls []) := by
    intro fu
    induction fu with
    | zero => intro k0 hk0 hs0 hfu; exact absurd hfu (Nat.not_lt_zero _)
    | succ fu ih7 =>
      intro k0 hk0 hs0 hfu H locs hP hD hS ls hl
      refine lv_iload_n hx hb dX7_write_7 rfl (lv_at hl 0 rfl) ?_
      refine lv_aload_n hx hb dX7_write_8 rfl (lv_at hl 1 rfl) ?_
      refine va_get (D := Γ.1) (ci := 7) (v := .ref ms) (C := RX7) (T := TX7) (N := 15) hx hb hts hinX7 hown hK.1 hP 0 rfl rfl 0 (by decide) (hts _ mw_400) (fun _ h9 => h9) rfl dX7_write_9 ?_
      refine lv_iconst (v := (nI 0)) hx hb dX7_write_12 (by decide) ?_
      refine iald_N hx hb hK.1 hP 1 0 rfl rfl (by omega) (by first | decide | assumption) dX7_write_13 ?_
      refine nb_icmp_ge (tgt := 46) hx hb (by first | omega | assumption) (by first | omega | assumption) dX7_write_14 (by decide) (fun c_14 => by exfalso; have q9 : k0 = ss 0 := (by omega); rw [q9, hwr] at hs0; cases hs0) (fun c_14 => ?_)
      refine lv_aload_n hx hb dX7_write_17 rfl (lv_at hl 1 rfl) ?_
      refine va_get (D := Γ.1) (ci := 7) (v := .ref ms) (C := RX7) (T := TX7) (N := 15) hx hb hts hinX7 hown hK.1 hP 0 rfl rfl 0 (by decide) (hts _ mw_400) (fun _ h9 => h9) rfl dX7_write_18 ?_
      refine lv_iconst (v := (nI 4)) hx hb dX7_write_21 (by decide) ?_
      refine lv_iload_n hx hb dX7_write_22 rfl (lv_at hl 0 rfl) ?_
      refine lv_iadd hx hb dX7_write_23 ?_
      refine tp_i (y := (nI (4 + k0))) (nI_add _ _) ?_
      refine iald_N hx hb hK.1 hP 1 0 rfl rfl (by omega) (by first | decide | assumption) dX7_write_24 ?_
      refine lv_iconst (v := (nI 1)) hx hb dX7_write_25 (by decide) ?_
      refine lv_iload_n hx hb dX7_write_26 rfl (lv_at hl 0 rfl) ?_
      refine lv_ishl hx hb dX7_write_27 ?_
      refine tp_i (y := (nI (2 ^ k0))) (ni_shl1 (by omega)) ?_
      refine lv_iconst (v := (nI 1)) hx hb dX7_write_28 (by decide) ?_
      refine lv_isub hx hb dX7_write_29 ?_
      refine tp_i (y := (nI ((2 ^ k0) - 1))) (ni_sub (Nat.one_le_two_pow)) ?_
      refine lv_iand hx hb dX7_write_30 ?_
      refine tp_i (y := (nI ((ss (4 + k0)) &&& ((2 ^ k0) - 1)))) (ni_and _ _) ?_
      refine ro_fin (va_runS (As := [.int (nI ((ss (4 + k0)) &&& ((2 ^ k0) - 1)))]) (rest := []) ⟨hx, hb, hml, hown, hts⟩ (c_X7_bits l Γ _ ((ss (4 + k0)) &&& ((2 ^ k0) - 1)) (Nat.lt_trans (and_lt _ (hgs k0 (by omega))) (by decide))) (kcwS 1 hts kv_X7_bits mw_476 (rm_le hR (Nat.le_of_ble_eq_true rfl) (Nat.le_of_ble_eq_true rfl))) (kPc_S hK) rfl rfl hl.1 rfl (lv_room (Nat.le_of_ble_eq_true rfl)) dX7_write_31 ⟨Nat.zero_le _, Nat.zero_le _⟩) hS (fun locs hS => ?_)
      refine lv_iconst (v := (nI 1)) hx hb dX7_write_34 (by decide) ?_
      refine nb_icmp_le (tgt := 40) hx hb (Nat.lt_of_le_of_lt (pc_le _) (by decide)) (by omega) dX7_write_35 (by decide) (fun c_35 => ?_) (fun c_35 => ?_)
      · skip
        refine lv_iinc (v := (nI (k0 + 1))) (lv' := [(1, .int (nI (k0 + 1))), (0, .ref ma)]) hx hb dX7_write_40 hl (k := 0) rfl (nI_1 _) (by decide) rfl (fun ls hl => ?_)
        refine lv_goto (tgt := 7) hx hb dX7_write_43 (by decide) ?_
        exact ih7 (k0 + 1) (by first | omega | assumption) (by rw [wrt, hs0, decide_eq_true (show pc (gS ss k0 &&& (2 ^ k0 - 1)) ≤ 1 from c_35)]; rfl) (by omega) _ _ hP hD hS ls (lv_sub hl [0, 1] rfl)
      · skip
        refine lv_iconst (v := (-1)) hx hb dX7_write_38 (by decide) ?_
        exact hret () hP hS (rfl) dX7_write_39
  exact LP7 ((ss 0 - 0) + 1) 0 (by first | omega | assumption) (rfl) (Nat.lt_succ_self _) _ _ hP hD hS ls (lv_sub hl [0, 1] rfl)
set_option maxHeartbeats 8000000 in
set_option maxRecDepth 100000 in
theorem c_X7_write_a (l : Launch) (Γ : kG) (ma : Nat) (ms : Nat) (sn0 : Nat) (mk : Nat) (tw0 : Nat) (mt : Nat) (ty0 : Nat) (mb : Nat) (il0 : Bool) (me : Nat) (mr : Nat) (my0 : Nat) (mq : Nat) (mp : Nat) (mw : Nat) (mc : Nat) (ss : Nat → Nat) (tx : Nat → Nat) (h0 : ss 0 ≤ 14) (hgs : ∀ i, i < 14 → gS ss i < 16384) (hwr : wrt (gS ss) (ss 0) = true) : WRi l yX7_write (wsq yX7_write cX7_write 3 (some .int)) (rmL 2) Γ [.ref ma] [(ma, .inr (7, [.ref ms, .int (nI sn0), .ref mk, .int (nI tw0), .ref mt, .int (nI ty0), .ref mb, .int (bI il0), .ref me, .ref mr, .int (nI my0), .ref mq, .ref mp, .ref mw, .ref mc])), (ms, .inl (Γ.2 0, 162, .inl (aN ss))), (mt, .inl (Γ.2 2, 14, .inl (aN tx)))] (fun u : Unit => [(ma, .inr (7, [.ref ms, .int (nI sn0), .ref mk, .int (nI 0), .ref mt, .int (nI (ss 0)), .ref mb, .int (bI il0), .ref me, .ref mr, .int (nI my0), .ref mq, .ref mp, .ref mw, .ref mc])), (ms, .inl (Γ.2 0, 162, .inl (aN ss))), (mt, .inl (Γ.2 2, 14, .inl (aN (wrS (gS ss) tx (ss 0)))))]) (fun (r : Int32) (u : Unit) => r = (nI (ss 0))) := by
  refine wr_ofi (cc := cX7_write) (maxL := 3) (by decide +kernel) (Nat.le_of_ble_eq_true rfl) rfl ?_
  intro p ev R st mi args below meth cd Q A ls C0 hR hret hP hD hS hl
  obtain ⟨hx, hb, hr, hml, hown, hts, hlk, hK, hnm⟩ := C0
  have hown : st.vm.findClass RX7 = some mi.cls := hown
  refine lv_aload_n hx hb dX7_write_0 rfl (lv_at hl 0 rfl) ?_
  refine lv_iconst (v := (nI 0)) hx hb dX7_write_1 (by decide) ?_
  refine va_put (D := Γ.1) (ci := 7) (v := .int (nI 0)) (ty := .int) (C := RX7) (T := TX7) (N := 15) hx hb hts hinX7 tyX7 tyX7_ok nmX7 hown hK.1 hP hD hS 0 rfl rfl 3 (by decide) (hts _ mw_413) (fun _ h9 => h9) rfl (by decide +kernel) rfl rfl (Nat.le_of_ble_eq_true rfl) dX7_write_2 (fun H locs hP hD hS => ?_)
  have hP : va_P Γ.1 vwCl [(ma, .inr (7, [.ref ms, .int (nI sn0), .ref mk, .int (nI 0), .ref mt, .int (nI ty0), .ref mb, .int (bI il0), .ref me, .ref mr, .int (nI my0), .ref mq, .ref mp, .ref mw, .ref mc])), (ms, .inl (Γ.2 0, 162, .inl (aN ss))), (mt, .inl (Γ.2 2, 14, .inl (aN tx)))] H := hP
  have hD : va_D A [(ma, .inr (7, [.ref ms, .int (nI sn0), .ref mk, .int (nI 0), .ref mt, .int (nI ty0), .ref mb, .int (bI il0), .ref me, .ref mr, .int (nI my0), .ref mq, .ref mp, .ref mw, .ref mc])), (ms, .inl (Γ.2 0, 162, .inl (aN ss))), (mt, .inl (Γ.2 2, 14, .inl (aN tx)))] := hD
  refine lv_iconst (v := (nI 0)) hx hb dX7_write_5 (by decide) ?_
  refine lv_istore_n (lv' := [(1, .int (nI 0)), (0, .ref ma)]) hx hb dX7_write_6 rfl hl (by decide) rfl (fun ls hl => ?_)
  have LP7 : ∀ (fu : Nat) (k0 : Nat) (hk0 : k0 ≤ ss 0) (hs0 : wrt (gS ss) k0 = true), (ss 0 - k0) < fu → ∀ (H : Heap) (locs : List Loc), va_P Γ.1 vwCl [(ma, .inr (7, [.ref ms, .int (nI sn0), .ref mk, .int (nI 0), .ref mt, .int (nI ty0), .ref mb, .int (bI il0), .ref me, .ref mr, .int (nI my0), .ref mq, .ref mp, .ref mw, .ref mc])), (ms, .inl (Γ.2 0, 162, .inl (aN ss))), (mt, .inl (Γ.2 2, 14, .inl (aN tx)))] H → va_D A [(ma, .inr (7, [.ref ms, .int (nI sn0), .ref mk, .int (nI 0), .ref mt, .int (nI ty0), .ref mb, .int (bI il0), .ref me, .ref mr, .int (nI my0), .ref mq, .ref mp, .ref mw, .ref mc])), (ms, .inl (Γ.2 0, 162, .inl (aN ss))), (mt, .inl (Γ.2 2, 14, .inl (aN tx)))] → va_S A st.heap H locs → ∀ (ls : Array Slot), lv_has ls 3 [(1, .int (nI k0)), (0, .ref ma)] → W p l ev R st mi args below meth cd H locs 0 0 Q (F0 mi 7 ls []) := by
    intro fu
    induction fu with
    | zero => intro k0 hk0 hs0 hfu; exact absurd hfu (Nat.not_lt_zero _)
    | succ fu ih7 =>
      intro k0 hk0 hs0 hfu H locs hP hD hS ls hl
      refine lv_iload_n hx hb dX7_write_7 rfl (lv_at hl 0 rfl) ?_
      refine lv_aload_n hx hb dX7_write_8 rfl (lv_at hl 1 rfl) ?_
      refine va_get (D := Γ.1) (ci := 7) (v := .ref ms) (C := RX7) (T := TX7) (N := 15) hx hb hts hinX7 hown hK.1 hP 0 rfl rfl 0 (by decide) (hts _ mw_400) (fun _ h9 => h9) rfl dX7_write_9 ?_
      refine lv_iconst (v := (nI 0)) hx hb dX7_write_12 (by decide) ?_
      refine iald_N hx hb hK.1 hP 1 0 rfl rfl (by omega) (by first | decide | assumption) dX7_write_13 ?_
      refine nb_icmp_ge (tgt := 46) hx hb (by first | omega | assumption) (by first | omega | assumption) dX7_write_14 (by decide) (fun c_14 => ?_) (fun c_14 => ?_)
      · skip
        obtain rfl : k0 = ss 0 := by omega
        refine lv_aload_n hx hb dX7_write_46 rfl (lv_at hl 1 rfl) ?_
        refine lv_aload_n hx hb dX7_write_47 rfl (lv_at hl 1 rfl) ?_
        refine va_get (D := Γ.1) (ci := 7) (v := .ref ms) (C := RX7) (T := TX7) (N := 15) hx hb hts hinX7 hown hK.1 hP 0 rfl rfl 0 (by decide) (hts _ mw_400) (fun _ h9 => h9) rfl dX7_write_48 ?_
        refine lv_iconst (v := (nI 0)) hx hb dX7_write_51 (by decide) ?_
        refine iald_N hx hb hK.1 hP 1 0 rfl rfl (by omega) (by first | decide | assumption) dX7_write_52 ?_
        refine va_put (D := Γ.1) (ci := 7) (v := .int (nI (ss 0))) (ty := .int) (C := RX7) (T := TX7) (N := 15) hx hb hts hinX7 tyX7 tyX7_ok nmX7 hown hK.1 hP hD hS 0 rfl rfl 5 (by decide) (hts _ mw_533) (fun _ h9 => h9) rfl (by decide +kernel) rfl rfl (Nat.le_of_ble_eq_true rfl) dX7_write_53 (fun H locs hP hD hS => ?_)
        have hP : va_P Γ.1 vwCl [(ma, .inr (7, [.ref ms, .int (nI sn0), .ref mk, .int (nI 0), .ref mt, .int (nI (ss 0)), .ref mb, .int (bI il0), .ref me, .ref mr, .int (nI my0), .ref mq, .ref mp, .ref mw, .ref mc])), (ms, .inl (Γ.2 0, 162, .inl (aN ss))), (mt, .inl (Γ.2 2, 14, .inl (aN tx)))] H := hP
        have hD : va_D A [(ma, .inr (7, [.ref ms, .int (nI sn0), .ref mk, .int (nI 0), .ref mt, .int (nI (ss 0)), .ref mb, .int (bI il0), .ref me, .ref mr, .int (nI my0), .ref mq, .ref mp, .ref mw, .ref mc])), (ms, .inl (Γ.2 0, 162, .inl (aN ss))), (mt, .inl (Γ.2 2, 14, .inl (aN tx)))] := hD
        refine lv_iconst (v := (nI 0)) hx hb dX7_write_56 (by decide) ?_
        refine lv_istore_n (lv' := [(1, .int (nI 0)), (0, .ref ma)]) hx hb dX7_write_57 rfl hl (by decide) rfl (fun ls hl => ?_)
        have LP58 : ∀ (fu : Nat) (k0 : Nat) (hk0 : k0 ≤ ss 0), (ss 0 - k0) < fu → ∀ (H : Heap) (locs : List Loc), va_P Γ.1 vwCl [(ma, .inr (7, [.ref ms, .int (nI sn0), .ref mk, .int (nI 0), .ref mt, .int (nI (ss 0)), .ref mb, .int (bI il0), .ref me, .ref mr, .int (nI my0), .ref mq, .ref mp, .ref mw, .ref mc])), (ms, .inl (Γ.2 0, 162, .inl (aN ss))), (mt, .inl (Γ.2 2, 14, .inl (aN (wrS (gS ss) tx k0))))] H → va_D A [(ma, .inr (7, [.ref ms, .int (nI sn0), .ref mk, .int (nI 0), .ref mt, .int (nI (ss 0)), .ref mb, .int (bI il0), .ref me, .ref mr, .int (nI my0), .ref mq, .ref mp, .ref mw, .ref mc])), (ms, .inl (Γ.2 0, 162, .inl (aN ss))), (mt, .inl (Γ.2 2, 14, .inl (aN (wrS (gS ss) tx k0))))] → va_S A st.heap H locs → ∀ (ls : Array Slot), lv_has ls 3 [(1, .int (nI k0)), (0, .ref ma)] → W p l ev R st mi args below meth cd H locs 0 0 Q (F0 mi 58 ls []) := by
          intro fu
          induction fu with
          | zero => intro k0 hk0 hfu; exact absurd hfu (Nat.not_lt_zero _)
          | succ fu ih58 =>
            intro k0 hk0 hfu H locs hP hD hS ls hl
            refine lv_iload_n hx hb dX7_write_58 rfl (lv_at hl 0 rfl) ?_
            refine lv_aload_n hx hb dX7_write_59 rfl (lv_at hl 1 rfl) ?_
            refine va_get (D := Γ.1) (ci := 7) (v := .int (nI (ss 0))) (C := RX7) (T := TX7) (N := 15) hx hb hts hinX7 hown hK.1 hP 0 rfl rfl 5 (by decide) (hts _ mw_533) (fun _ h9 => h9) rfl dX7_write_60 ?_
            refine nb_icmp_ge (tgt := 110) hx hb (by first | omega | assumption) (by first | omega | assumption) dX7_write_63 (by decide) (fun c_63 => ?_) (fun c_63 => ?_)
            · skip
              obtain rfl : k0 = ss 0 := by omega
              refine lv_aload_n hx hb dX7_write_110 rfl (lv_at hl 1 rfl) ?_
              refine va_get (D := Γ.1) (ci := 7) (v := .int (nI (ss 0))) (C := RX7) (T := TX7) (N := 15) hx hb hts hinX7 hown hK.1 hP 0 rfl rfl 5 (by decide) (hts _ mw_533) (fun _ h9 => h9) rfl dX7_write_111 ?_
              exact hret () hP hS (rfl) dX7_write_114
            · skip
              refine lv_aload_n hx hb dX7_write_66 rfl (lv_at hl 1 rfl) ?_
              refine va_get (D := Γ.1) (ci := 7) (v := .ref ms) (C := RX7) (T := TX7) (N := 15) hx hb hts hinX7 hown hK.1 hP 0 rfl rfl 0 (by decide) (hts _ mw_400) (fun _ h9 => h9) rfl dX7_write_67 ?_
              refine lv_iconst (v := (nI 4)) hx hb dX7_write_70 (by decide) ?_
              refine lv_iload_n hx hb dX7_write_71 rfl (lv_at hl 0 rfl) ?_
              refine lv_iadd hx hb dX7_write_72 ?_
              refine tp_i (y := (nI (4 + k0))) (nI_add _ _) ?_
              refine iald_N hx hb hK.1 hP 1 0 rfl rfl (by omega) (by first | decide | assumption) dX7_write_73 ?_
              refine lv_iconst (v := (nI 1)) hx hb dX7_write_74 (by decide) ?_
              refine lv_iload_n hx hb dX7_write_75 rfl (lv_at hl 0 rfl) ?_
              refine lv_ishl hx hb dX7_write_76 ?_
              refine tp_i (y := (nI (2 ^ k0))) (ni_shl1 (by omega)) ?_
              refine lv_iconst (v := (nI 1)) hx hb dX7_write_77 (by decide) ?_
              refine lv_isub hx hb dX7_write_78 ?_
              refine tp_i (y := (nI ((2 ^ k0) - 1))) (ni_sub (Nat.one_le_two_pow)) ?_
              refine lv_iand hx hb dX7_write_79 ?_
              refine tp_i (y := (nI ((ss (4 + k0)) &&& ((2 ^ k0) - 1)))) (ni_and _ _) ?_
              refine ro_fin (va_runS (As := [.int (nI ((ss (4 + k0)) &&& ((2 ^ k0) - 1)))]) (rest := []) ⟨hx, hb, hml, hown, hts⟩ (c_X7_lowest l Γ _ ((ss (4 + k0)) &&& ((2 ^ k0) - 1)) (and_lt _ (hgs k0 (by omega)))) (kcwS 1 hts kv_X7_lowest mw_451 (rm_le hR (Nat.le_of_ble_eq_true rfl) (Nat.le_of_ble_eq_true rfl))) (kPc_S hK) rfl rfl hl.1 rfl (lv_room (Nat.le_of_ble_eq_true rfl)) dX7_write_80 ⟨Nat.zero_le _, Nat.zero_le _⟩) hS (fun locs hS => ?_)
              refine tp_i (y := (oI (lsr (gS ss) k0))) (loI_lsr (gS ss) k0) ?_
              refine lv_istore_n (lv' := [(2, .int (oI (lsr (gS ss) k0))), (1, .int (nI k0)), (0, .ref ma)]) hx hb dX7_write_83 rfl hl (by decide) rfl (fun ls hl => ?_)
              refine lv_aload_n hx hb dX7_write_84 rfl (lv_at hl 2 rfl) ?_
              refine va_get (D := Γ.1) (ci := 7) (v := .ref mt) (C := RX7) (T := TX7) (N := 15) hx hb hts hinX7 hown hK.1 hP 0 rfl rfl 4 (by decide) (hts _ mw_403) (fun _ h9 => h9) rfl dX7_write_85 ?_
              refine lv_iload_n hx hb dX7_write_88 rfl (lv_at hl 1 rfl) ?_
              refine lv_iload_n hx hb dX7_write_89 rfl (lv_at hl 0 rfl) ?_
              refine lv_if_ge (tgt := 98) hx hb dX7_write_90 (by decide) (fun c_90 => ?_) (fun c_90 => ?_)
              · skip
                have hn9 : ¬ (lsr (gS ss) k0) = none := fun q9 => by
                  have z9 := (oI_neg (lsr_lt hgs (by omega))).mpr q9
                  first | exact c_90 z9 | exact absurd z9 (Int32.not_lt.mpr c_90)
                obtain ⟨k9, hk9⟩ := Option.ne_none_iff_exists'.mp hn9
                have hl9 := lsr_lt hgs (by omega) k9 hk9
                have hch9 : chO (lsr (gS ss) k0) = 97 + k9 := by rw [hk9]; rfl
                have hl : lv_has ls 3 [(2, .int (nI k9)), (1, .int (nI k0)), (0, .ref ma)] := lv_cast hl (by rw [hk9]; rfl)
                refine lv_bipush (v := (nI 97)) hx hb dX7_write_98 (by decide) ?_
                refine lv_iload_n hx hb dX7_write_100 rfl (lv_at hl 0 rfl) ?_
                refine lv_iadd hx hb dX7_write_101 ?_
                refine tp_i (y := (nI (97 + k9))) (nI_add _ _) ?_
                refine lv_i2c (v := (nI (97 + k9))) hx hb dX7_write_102 (ni_i2c (by omega)) ?_
                refine cast_N hx hb hK.1 hP hD hS 2 2 rfl rfl (by omega) (by first | decide | assumption) (by omega) dX7_write_103 (fun H locs hP hD hS => ?_)
                have hP : va_P Γ.1 vwCl [(ma, .inr (7, [.ref ms, .int (nI sn0), .ref mk, .int (nI 0), .ref mt, .int (nI (ss 0)), .ref mb, .int (bI il0), .ref me, .ref mr, .int (nI my0), .ref mq, .ref mp, .ref mw, .ref mc])), (ms, .inl (Γ.2 0, 162, .inl (aN ss))), (mt, .inl (Γ.2 2, 14, .inl (aN (upN (wrS (gS ss) tx k0) k0 (97 + k9)))))] H := hP
                have hD : va_D A [(ma, .inr (7, [.ref ms, .int (nI sn0), .ref mk, .int (nI 0), .ref mt, .int (nI (ss 0)), .ref mb, .int (bI il0), .ref me, .ref mr, .int (nI my0), .ref mq, .ref mp, .ref mw, .ref mc])), (ms, .inl (Γ.2 0, 162, .inl (aN ss))), (mt, .inl (Γ.2 2, 14, .inl (aN (upN (wrS (gS ss) tx k0) k0 (97 + k9)))))] := hD
                have hP : va_P Γ.1 vwCl [(ma, .inr (7, [.ref ms, .int (nI sn0), .ref mk, .int (nI 0), .ref mt, .int (nI (ss 0)), .ref mb, .int (bI il0), .ref me, .ref mr, .int (nI my0), .ref mq, .ref mp, .ref mw, .ref mc])), (ms, .inl (Γ.2 0, 162, .inl (aN ss))), (mt, .inl (Γ.2 2, 14, .inl (aN (wrS (gS ss) tx (k0 + 1)))))] H := cp_w hP (by rw [wrS_s hch9])
                have hD : va_D A [(ma, .inr (7, [.ref ms, .int (nI sn0), .ref mk, .int (nI 0), .ref mt, .int (nI (ss 0)), .ref mb, .int (bI il0), .ref me, .ref mr, .int (nI my0), .ref mq, .ref mp, .ref mw, .ref mc])), (ms, .inl (Γ.2 0, 162, .inl (aN ss))), (mt, .inl (Γ.2 2, 14, .inl (aN (wrS (gS ss) tx (k0 + 1)))))] := va_D_fst (by rfl) hD
                refine lv_iinc (v := (nI (k0 + 1))) (lv' := [(1, .int (nI (k0 + 1))), (2, .int (nI k9)), (0, .ref ma)]) hx hb dX7_write_104 hl (k := 1) rfl (nI_1 _) (by decide) rfl (fun ls hl => ?_)
                refine lv_goto (tgt := 58) hx hb dX7_write_107 (by decide) ?_
                exact ih58 (k0 + 1) (by first | omega | assumption) (by omega) _ _ hP hD hS ls (lv_sub hl [0, 2] rfl)
              · skip
                have hn9 : (lsr (gS ss) k0) = none := (oI_neg (lsr_lt hgs (by omega))).mp (by first | exact c_90 | exact Int32.not_le.mp c_90)
                have hch9 : chO (lsr (gS ss) k0) = 46 := by rw [hn9]; rfl
                refine lv_bipush (v := (nI 46)) hx hb dX7_write_93 (by decide) ?_
                refine lv_goto (tgt := 103) hx hb dX7_write_95 (by decide) ?_
                refine cast_N hx hb hK.1 hP hD hS 2 2 rfl rfl (by omega) (by first | decide | assumption) (by omega) dX7_write_103 (fun H locs hP hD hS => ?_)
                have hP : va_P Γ.1 vwCl [(ma, .inr (7, [.ref ms, .int (nI sn0), .ref mk, .int (nI 0), .ref mt, .int (nI (ss 0)), .ref mb, .int (bI il0), .ref me, .ref mr, .int (nI my0), .ref mq, .ref mp, .ref mw, .ref mc])), (ms, .inl (Γ.2 0, 162, .inl (aN ss))), (mt, .inl (Γ.2 2, 14, .inl (aN (upN (wrS (gS ss) tx k0) k0 46))))] H := hP
                have hD : va_D A [(ma, .inr (7, [.ref ms, .int (nI sn0), .ref mk, .int (nI 0), .ref mt, .int (nI (ss 0)), .ref mb, .int (bI il0), .ref me, .ref mr, .int (nI my0), .ref mq, .ref mp, .ref mw, .ref mc])), (ms, .inl (Γ.2 0, 162, .inl (aN ss))), (mt, .inl (Γ.2 2, 14, .inl (aN (upN (wrS (gS ss) tx k0) k0 46))))] := hD
                have hP : va_P Γ.1 vwCl [(ma, .inr (7, [.ref ms, .int (nI sn0), .ref mk, .int (nI 0), .ref mt, .int (nI (ss 0)), .ref mb, .int (bI il0), .ref me, .ref mr, .int (nI my0), .ref mq, .ref mp, .ref mw, .ref mc])), (ms, .inl (Γ.2 0, 162, .inl (aN ss))), (mt, .inl (Γ.2 2, 14, .inl (aN (wrS (gS ss) tx (k0 + 1)))))] H := cp_w hP (by rw [wrS_s hch9])
                have hD : va_D A [(ma, .inr (7, [.ref ms, .int (nI sn0), .ref mk, .int (nI 0), .ref mt, .int (nI (ss 0)), .ref mb, .int (bI il0), .ref me, .ref mr, .int (nI my0), .ref mq, .ref mp, .ref mw, .ref mc])), (ms, .inl (Γ.2 0, 162, .inl (aN ss))), (mt, .inl (Γ.2 2, 14, .inl (aN (wrS (gS ss) tx (k0 + 1)))))] := va_D_fst (by rfl) hD
                refine lv_iinc (v := (nI (k0 + 1))) (lv' := [(1, .int (nI (k0 + 1))), (2, .int (oI (lsr (gS ss) k0))), (0, .ref ma)]) hx hb dX7_write_104 hl (k := 1) rfl (nI_1 _) (by decide) rfl (fun ls hl => ?_)
                refine lv_goto (tgt := 58) hx hb dX7_write_107 (by decide) ?_
                exact ih58 (k0 + 1) (by first | omega | assumption) (by omega) _ _ hP hD hS ls (lv_sub hl [0, 2] rfl)
        exact LP58 ((ss 0 - 0) + 1) 0 (by first | omega | assumption) (Nat.lt_succ_self _) _ _ (cp_w hP (by rw [wrS_0])) (va_D_fst (by rfl) hD) hS ls (lv_sub hl [0, 1] rfl)
      · skip
        refine lv_aload_n hx hb dX7_write_17 rfl (lv_at hl 1 rfl) ?_
        refine va_get (D := Γ.1) (ci := 7) (v := .ref ms) (C := RX7) (T := TX7) (N := 15) hx hb hts hinX7 hown hK.1 hP 0 rfl rfl 0 (by decide) (hts _ mw_400) (fun _ h9 => h9) rfl dX7_write_18 ?_
        refine lv_iconst (v := (nI 4)) hx hb dX7_write_21 (by decide) ?_
        refine lv_iload_n hx hb dX7_write_22 rfl (lv_at hl 0 rfl) ?_
        refine lv_iadd hx hb dX7_write_23 ?_
        refine tp_i (y := (nI (4 + k0))) (nI_add _ _) ?_
        refine iald_N hx hb hK.1 hP 1 0 rfl rfl (by omega) (by first | decide | assumption) dX7_write_24 ?_
        refine lv_iconst (v := (nI 1)) hx hb dX7_write_25 (by decide) ?_
        refine lv_iload_n hx hb dX7_write_26 rfl (lv_at hl 0 rfl) ?_
        refine lv_ishl hx hb dX7_write_27 ?_
        refine tp_i (y := (nI (2 ^ k0))) (ni_shl1 (by omega)) ?_
        refine lv_iconst (v := (nI 1)) hx hb dX7_write_28 (by decide) ?_
        refine lv_isub hx hb dX7_write_29 ?_
        refine tp_i (y := (nI ((2 ^ k0) - 1))) (ni_sub (Nat.one_le_two_pow)) ?_
        refine lv_iand hx hb dX7_write_30 ?_
        refine tp_i (y := (nI ((ss (4 + k0)) &&& ((2 ^ k0) - 1)))) (ni_and _ _) ?_
        refine ro_fin (va_runS (As := [.int (nI ((ss (4 + k0)) &&& ((2 ^ k0) - 1)))]) (rest := []) ⟨hx, hb, hml, hown, hts⟩ (c_X7_bits l Γ _ ((ss (4 + k0)) &&& ((2 ^ k0) - 1)) (Nat.lt_trans (and_lt _ (hgs k0 (by omega))) (by decide))) (kcwS 1 hts kv_X7_bits mw_476 (rm_le hR (Nat.le_of_ble_eq_true rfl) (Nat.le_of_ble_eq_true rfl))) (kPc_S hK) rfl rfl hl.1 rfl (lv_room (Nat.le_of_ble_eq_true rfl)) dX7_write_31 ⟨Nat.zero_le _, Nat.zero_le _⟩) hS (fun locs hS => ?_)
        refine lv_iconst (v := (nI 1)) hx hb dX7_write_34 (by decide) ?_
        refine nb_icmp_le (tgt := 40) hx hb (Nat.lt_of_le_of_lt (pc_le _) (by decide)) (by omega) dX7_write_35 (by decide) (fun c_35 => ?_) (fun c_35 => by exfalso; rw [wrt_no (g := gS ss) (by omega) (show 1 < pc (gS ss k0 &&& (2 ^ k0 - 1)) from c_35)] at hwr; cases hwr)
        refine lv_iinc (v := (nI (k0 + 1))) (lv' := [(1, .int (nI (k0 + 1))), (0, .ref ma)]) hx hb dX7_write_40 hl (k := 0) rfl (nI_1 _) (by decide) rfl (fun ls hl => ?_)
        refine lv_goto (tgt := 7) hx hb dX7_write_43 (by decide) ?_
        exact ih7 (k0 + 1) (by first | omega | assumption) (by rw [wrt, hs0, decide_eq_true (show pc (gS ss k0 &&& (2 ^ k0 - 1)) ≤ 1 from c_35)]; rfl) (by omega) _ _ hP hD hS ls (lv_sub hl [0, 1] rfl)
  exact LP7 ((ss 0 - 0) + 1) 0 (by first | omega | assumption) (rfl) (Nat.lt_succ_self _) _ _ hP hD hS ls (lv_sub hl [0, 1] rfl)
set_option maxHeartbeats 8000000 in
set_option maxRecDepth 100000 in
theorem c_X7_load_x (l : Launch) (Γ : kG) (ma : Nat) (ms : Nat) (sn0 : Nat) (mk : Nat) (tw0 : Nat) (mt : Nat) (ty0 : Nat) (mb : Nat) (il0 : Bool) (me : Nat) (mr : Nat) (my0 : Nat) (mq : Nat) (mp : Nat) (mw : Nat) (mc : Nat) (ss : Nat → Nat) (tx : Nat → Nat) (hty : ty0 ≤ 14) (htx : ∀ i, i < 14 → tx i < 128) (hfw : fst (wrg tx) ty0 < ty0) : WRi l yX7_load (wsq yX7_load cX7_load 2 (some .int)) (rmL 3) Γ [.ref ma] [(ma, .inr (7, [.ref ms, .int (nI sn0), .ref mk, .int (nI tw0), .ref mt, .int (nI ty0), .ref mb, .int (bI il0), .ref me, .ref mr, .int (nI my0), .ref mq, .ref mp, .ref mw, .ref mc])), (ms, .inl (Γ.2 0, 162, .inl (aN ss))), (mt, .inl (Γ.2 2, 14, .inl (aN tx)))] (fun u : Unit => [(ma, .inr (7, [.ref ms, .int (nI sn0), .ref mk, .int (nI 1), .ref mt, .int (nI ty0), .ref mb, .int (bI il0), .ref me, .ref mr, .int (nI my0), .ref mq, .ref mp, .ref mw, .ref mc])), (ms, .inl (Γ.2 0, 162, .inl (aN ss))), (mt, .inl (Γ.2 2, 14, .inl (aN tx)))]) (fun (r : Int32) (u : Unit) => r = (nI 0)) := by
  refine wr_ofi (cc := cX7_load) (maxL := 2) (by decide +kernel) (Nat.le_of_ble_eq_true rfl) rfl ?_
  intro p ev R st mi args below meth cd Q A ls C0 hR hret hP hD hS hl
  obtain ⟨hx, hb, hr, hml, hown, hts, hlk, hK, hnm⟩ := C0
  have hown : st.vm.findClass RX7 = some mi.cls := hown
  refine lv_aload_n hx hb dX7_load_0 rfl (lv_at hl 0 rfl) ?_
  refine lv_aload_n hx hb dX7_load_1 rfl (lv_at hl 0 rfl) ?_
  refine ro_fin (va_runV (As := []) (rest := [.ref ma]) ⟨hx, hb, hml, hown, hts⟩ (c_X7_error l Γ _ ma ms sn0 mk tw0 mt ty0 mb il0 me mr my0 mq mp mw mc tx (hP.sub (ws' := [(ma, .inr (7, [.ref ms, .int (nI sn0), .ref mk, .int (nI tw0), .ref mt, .int (nI ty0), .ref mb, .int (bI il0), .ref me, .ref mr, .int (nI my0), .ref mq, .ref mp, .ref mw, .ref mc])), (mt, .inl (Γ.2 2, 14, .inl (aN tx)))]) [0, 2] rfl) (by first | omega | assumption) (by first | omega | assumption)) (kcwV 0 hts kv_X7_error mw_537 (rm_le hR (Nat.le_of_ble_eq_true rfl) (Nat.le_of_ble_eq_true rfl))) (kPc_V hK (va_recv hK.1 hP (ci := 7) (q0 := 0) rfl rfl)) rfl rfl hl.1 rfl (lv_room (Nat.le_of_ble_eq_true rfl)) dX7_load_2 ⟨Nat.zero_le _, Nat.zero_le _⟩) hS (fun locs hS => ?_)
  refine lv_aload_n hx hb dX7_load_5 rfl (lv_at hl 0 rfl) ?_
  refine va_get (D := Γ.1) (ci := 7) (v := .int (nI ty0)) (C := RX7) (T := TX7) (N := 15) hx hb hts hinX7 hown hK.1 hP 0 rfl rfl 5 (by decide) (hts _ mw_533) (fun _ h9 => h9) rfl dX7_load_6 ?_
  refine nb_icmp_ne (tgt := 16) hx hb (by omega) (by omega) dX7_load_9 (by decide) (fun c_9 => ?_) (fun c_9 => by exfalso; omega)
  refine lv_iconst (v := (nI 0)) hx hb dX7_load_16 (by decide) ?_
  refine lv_iconst (v := (nI 1)) hx hb dX7_load_17 (by decide) ?_
  refine wr_fini (va_runV (As := [.int (nI 0), .int (nI 1)]) (rest := []) ⟨hx, hb, hml, hown, hts⟩ (c_X7_goes l Γ ma ms sn0 mk tw0 mt ty0 mb il0 me mr my0 mq mp mw mc false true ) (kcwV 2 hts kv_X7_goes mw_494 (rm_le hR (Nat.le_of_ble_eq_true rfl) (Nat.le_of_ble_eq_true rfl))) (kPw_V hK (va_recv hK.1 hP (ci := 7) (q0 := 0) rfl rfl) (hP.sub (ws' := [(ma, .inr (7, [.ref ms, .int (nI sn0), .ref mk, .int (nI tw0), .ref mt, .int (nI ty0), .ref mb, .int (bI il0), .ref me, .ref mr, .int (nI my0), .ref mq, .ref mp, .ref mw, .ref mc]))]) [0] rfl) (hD.sub (ws' := [(ma, .inr (7, [.ref ms, .int (nI sn0), .ref mk, .int (nI tw0), .ref mt, .int (nI ty0), .ref mb, .int (bI il0), .ref me, .ref mr, .int (nI my0), .ref mq, .ref mp, .ref mw, .ref mc]))]) [0] (by decide) rfl)) rfl rfl hl.1 rfl (lv_room (Nat.le_of_ble_eq_true rfl)) dX7_load_18 ⟨Nat.zero_le _, Nat.zero_le _⟩) hP hD hS [0] rfl (fun _ => rfl) (fun r _ H locs hw hP hD hS => ?_)
  obtain rfl := hw
  have hP : va_P Γ.1 vwCl [(ma, .inr (7, [.ref ms, .int (nI sn0), .ref mk, .int (nI (gz false true)), .ref mt, .int (nI ty0), .ref mb, .int (bI il0), .ref me, .ref mr, .int (nI my0), .ref mq, .ref mp, .ref mw, .ref mc])), (ms, .inl (Γ.2 0, 162, .inl (aN ss))), (mt, .inl (Γ.2 2, 14, .inl (aN tx)))] H := hP
  have hD : va_D A [(ma, .inr (7, [.ref ms, .int (nI sn0), .ref mk, .int (nI (gz false true)), .ref mt, .int (nI ty0), .ref mb, .int (bI il0), .ref me, .ref mr, .int (nI my0), .ref mq, .ref mp, .ref mw, .ref mc])), (ms, .inl (Γ.2 0, 162, .inl (aN ss))), (mt, .inl (Γ.2 2, 14, .inl (aN tx)))] := hD
  refine tp_i (y := (bI false)) (rfl) ?_
  refine nb_ifb_ne (tgt := 26) hx hb dX7_load_21 (by decide) (fun c_21 => by exfalso; exact absurd c_21 (by decide)) (fun c_21 => ?_)
  refine lv_iconst (v := (nI 0)) hx hb dX7_load_24 (by decide) ?_
  exact hret () hP hS (rfl) dX7_load_25
set_option maxHeartbeats 8000000 in
set_option maxRecDepth 100000 in
theorem c_X7_load_a (l : Launch) (Γ : kG) (ma : Nat) (ms : Nat) (sn0 : Nat) (mk : Nat) (tw0 : Nat) (mt : Nat) (ty0 : Nat) (mb : Nat) (il0 : Bool) (me : Nat) (mr : Nat) (my0 : Nat) (mq : Nat) (mp : Nat) (mw : Nat) (mc : Nat) (ss : Nat → Nat) (tx : Nat → Nat) (hty : ty0 ≤ 14) (htx : ∀ i, i < 14 → tx i < 128) (hfw : ¬ fst (wrg tx) ty0 < ty0) (hsn : sn0 ≤ 6) : WRi l yX7_load (wsq yX7_load cX7_load 2 (some .int)) (rmL 3) Γ [.ref ma] [(ma, .inr (7, [.ref ms, .int (nI sn0), .ref mk, .int (nI tw0), .ref mt, .int (nI ty0), .ref mb, .int (bI il0), .ref me, .ref mr, .int (nI my0), .ref mq, .ref mp, .ref mw, .ref mc])), (ms, .inl (Γ.2 0, 162, .inl (aN ss))), (mt, .inl (Γ.2 2, 14, .inl (aN tx)))] (fun u : Unit => [(ma, .inr (7, [.ref ms, .int (nI (svN sn0)), .ref mk, .int (nI 0), .ref mt, .int (nI 0), .ref mb, .int (bI false), .ref me, .ref mr, .int (nI my0), .ref mq, .ref mp, .ref mw, .ref mc])), (ms, .inl (Γ.2 0, 162, .inl (aN (bgS (ldS tx (clS (upN (svM ss sn0) 0 ty0) 14) ty0))))), (mt, .inl (Γ.2 2, 14, .inl (aN tx)))]) (fun (r : Int32) (u : Unit) => r = (nI ty0)) := by
  refine wr_ofi (cc := cX7_load) (maxL := 2) (by decide +kernel) (Nat.le_of_ble_eq_true rfl) rfl ?_
  intro p ev R st mi args below meth cd Q A ls C0 hR hret hP hD hS hl
  obtain ⟨hx, hb, hr, hml, hown, hts, hlk, hK, hnm⟩ := C0
  have hown : st.vm.findClass RX7 = some mi.cls := hown
  have hfe := fst_le (p := wrg tx) (n := ty0)
  refine lv_aload_n hx hb dX7_load_0 rfl (lv_at hl 0 rfl) ?_
  refine lv_aload_n hx hb dX7_load_1 rfl (lv_at hl 0 rfl) ?_
  refine ro_fin (va_runV (As := []) (rest := [.ref ma]) ⟨hx, hb, hml, hown, hts⟩ (c_X7_error l Γ _ ma ms sn0 mk tw0 mt ty0 mb il0 me mr my0 mq mp mw mc tx (hP.sub (ws' := [(ma, .inr (7, [.ref ms, .int (nI sn0), .ref mk, .int (nI tw0), .ref mt, .int (nI ty0), .ref mb, .int (bI il0), .ref me, .ref mr, .int (nI my0), .ref mq, .ref mp, .ref mw, .ref mc])), (mt, .inl (Γ.2 2, 14, .inl (aN tx)))]) [0, 2] rfl) (by first | omega | assumption) (by first | omega | assumption)) (kcwV 0 hts kv_X7_error mw_537 (rm_le hR (Nat.le_of_ble_eq_true rfl) (Nat.le_of_ble_eq_true rfl))) (kPc_V hK (va_recv hK.1 hP (ci := 7) (q0 := 0) rfl rfl)) rfl rfl hl.1 rfl (lv_room (Nat.le_of_ble_eq_true rfl)) dX7_load_2 ⟨Nat.zero_le _, Nat.zero_le _⟩) hS (fun locs hS => ?_)
  refine lv_aload_n hx hb dX7_load_5 rfl (lv_at hl 0 rfl) ?_
  refine va_get (D := Γ.1) (ci := 7) (v := .int (nI ty0)) (C := RX7) (T := TX7) (N := 15) hx hb hts hinX7 hown hK.1 hP 0 rfl rfl 5 (by decide) (hts _ mw_533) (fun _ h9 => h9) rfl dX7_load_6 ?_
  refine nb_icmp_ne (tgt := 16) hx hb (by omega) (by omega) dX7_load_9 (by decide) (fun c_9 => by exfalso; omega) (fun c_9 => ?_)
  refine lv_iconst (v := (nI 1)) hx hb dX7_load_12 (by decide) ?_
  refine lv_goto (tgt := 17) hx hb dX7_load_13 (by decide) ?_
  refine lv_iconst (v := (nI 1)) hx hb dX7_load_17 (by decide) ?_
  refine wr_fini (va_runV (As := [.int (nI 1), .int (nI 1)]) (rest := []) ⟨hx, hb, hml, hown, hts⟩ (c_X7_goes l Γ ma ms sn0 mk tw0 mt ty0 mb il0 me mr my0 mq mp mw mc true true ) (kcwV 2 hts kv_X7_goes mw_494 (rm_le hR (Nat.le_of_ble_eq_true rfl) (Nat.le_of_ble_eq_true rfl))) (kPw_V hK (va_recv hK.1 hP (ci := 7) (q0 := 0) rfl rfl) (hP.sub (ws' := [(ma, .inr (7, [.ref ms, .int (nI sn0), .ref mk, .int (nI tw0), .ref mt, .int (nI ty0), .ref mb, .int (bI il0), .ref me, .ref mr, .int (nI my0), .ref mq, .ref mp, .ref mw, .ref mc]))]) [0] rfl) (hD.sub (ws' := [(ma, .inr (7, [.ref ms, .int (nI sn0), .ref mk, .int (nI tw0), .ref mt, .int (nI ty0), .ref mb, .int (bI il0), .ref me, .ref mr, .int (nI my0), .ref mq, .ref mp, .ref mw, .ref mc]))]) [0] (by decide) rfl)) rfl rfl hl.1 rfl (lv_room (Nat.le_of_ble_eq_true rfl)) dX7_load_18 ⟨Nat.zero_le _, Nat.zero_le _⟩) hP hD hS [0] rfl (fun _ => rfl) (fun r _ H locs hw hP hD hS => ?_)
  obtain rfl := hw
  have hP : va_P Γ.1 vwCl [(ma, .inr (7, [.ref ms, .int (nI sn0), .ref mk, .int (nI (gz true true)), .ref mt, .int (nI ty0), .ref mb, .int (bI il0), .ref me, .ref mr, .int (nI my0), .ref mq, .ref mp, .ref mw, .ref mc])), (ms, .inl (Γ.2 0, 162, .inl (aN ss))), (mt, .inl (Γ.2 2, 14, .inl (aN tx)))] H := hP
  have hD : va_D A [(ma, .inr (7, [.ref ms, .int (nI sn0), .ref mk, .int (nI (gz true true)), .ref mt, .int (nI ty0), .ref mb, .int (bI il0), .ref me, .ref mr, .int (nI my0), .ref mq, .ref mp, .ref mw, .ref mc])), (ms, .inl (Γ.2 0, 162, .inl (aN ss))), (mt, .inl (Γ.2 2, 14, .inl (aN tx)))] := hD
  refine tp_i (y := (bI true)) (rfl) ?_
  refine nb_ifb_ne (tgt := 26) hx hb dX7_load_21 (by decide) (fun c_21 => ?_) (fun c_21 => by exfalso; exact absurd c_21 (by decide))
  refine lv_aload_n hx hb dX7_load_26 rfl (lv_at hl 0 rfl) ?_
  refine wr_finv (va_runV (As := []) (rest := []) ⟨hx, hb, hml, hown, hts⟩ (c_X7_saves l Γ ma ms sn0 mk (gz true true) mt ty0 mb il0 me mr my0 mq mp mw mc ss (by first | omega | assumption)) (kcwV 0 hts kv_X7_saves mw_497 (rm_le hR (Nat.le_of_ble_eq_true rfl) (Nat.le_of_ble_eq_true rfl))) (kPw_V hK (va_recv hK.1 hP (ci := 7) (q0 := 0) rfl rfl) (hP.sub (ws' := [(ma, .inr (7, [.ref ms, .int (nI sn0), .ref mk, .int (nI (gz true true)), .ref mt, .int (nI ty0), .ref mb, .int (bI il0), .ref me, .ref mr, .int (nI my0), .ref mq, .ref mp, .ref mw, .ref mc])), (ms, .inl (Γ.2 0, 162, .inl (aN ss)))]) [0, 1] rfl) (hD.sub (ws' := [(ma, .inr (7, [.ref ms, .int (nI sn0), .ref mk, .int (nI (gz true true)), .ref mt, .int (nI ty0), .ref mb, .int (bI il0), .ref me, .ref mr, .int (nI my0), .ref mq, .ref mp, .ref mw, .ref mc])), (ms, .inl (Γ.2 0, 162, .inl (aN ss)))]) [0, 1] (by decide) rfl)) rfl rfl hl.1 rfl (lv_room (Nat.le_of_ble_eq_true rfl)) dX7_load_27 ⟨Nat.zero_le _, Nat.zero_le _⟩) hP hD hS [0, 1] rfl (fun _ => rfl) (fun _ H locs hw hP hD hS => ?_)
  have hP : va_P Γ.1 vwCl [(ma, .inr (7, [.ref ms, .int (nI (svN sn0)), .ref mk, .int (nI (gz true true)), .ref mt, .int (nI ty0), .ref mb, .int (bI il0), .ref me, .ref mr, .int (nI my0), .ref mq, .ref mp, .ref mw, .ref mc])), (ms, .inl (Γ.2 0, 162, .inl (aN (svM ss sn0)))), (mt, .inl (Γ.2 2, 14, .inl (aN tx)))] H := hP
  have hD : va_D A [(ma, .inr (7, [.ref ms, .int (nI (svN sn0)), .ref mk, .int (nI (gz true true)), .ref mt, .int (nI ty0), .ref mb, .int (bI il0), .ref me, .ref mr, .int (nI my0), .ref mq, .ref mp, .ref mw, .ref mc])), (ms, .inl (Γ.2 0, 162, .inl (aN (svM ss sn0)))), (mt, .inl (Γ.2 2, 14, .inl (aN tx)))] := hD
  refine lv_aload_n hx hb dX7_load_30 rfl (lv_at hl 0 rfl) ?_
  refine va_get (D := Γ.1) (ci := 7) (v := .ref ms) (C := RX7) (T := TX7) (N := 15) hx hb hts hinX7 hown hK.1 hP 0 rfl rfl 0 (by decide) (hts _ mw_400) (fun _ h9 => h9) rfl dX7_load_31 ?_
  refine lv_iconst (v := (nI 0)) hx hb dX7_load_34 (by decide) ?_
  refine lv_aload_n hx hb dX7_load_35 rfl (lv_at hl 0 rfl) ?_
  refine va_get (D := Γ.1) (ci := 7) (v := .int (nI ty0)) (C := RX7) (T := TX7) (N := 15) hx hb hts hinX7 hown hK.1 hP 0 rfl rfl 5 (by decide) (hts _ mw_533) (fun _ h9 => h9) rfl dX7_load_36 ?_
  refine iast_N hx hb hK.1 hP hD hS 1 0 rfl rfl (by omega) (by first | decide | assumption) dX7_load_39 (fun H locs hP hD hS => ?_)
  have hP : va_P Γ.1 vwCl [(ma, .inr (7, [.ref ms, .int (nI (svN sn0)), .ref mk, .int (nI (gz true true)), .ref mt, .int (nI ty0), .ref mb, .int (bI il0), .ref me, .ref mr, .int (nI my0), .ref mq, .ref mp, .ref mw, .ref mc])), (ms, .inl (Γ.2 0, 162, .inl (aN (upN (svM ss sn0) 0 ty0)))), (mt, .inl (Γ.2 2, 14, .inl (aN tx)))] H := hP
  have hD : va_D A [(ma, .inr (7, [.ref ms, .int (nI (svN sn0)), .ref mk, .int (nI (gz true true)), .ref mt, .int (nI ty0), .ref mb, .int (bI il0), .ref me, .ref mr, .int (nI my0), .ref mq, .ref mp, .ref mw, .ref mc])), (ms, .inl (Γ.2 0, 162, .inl (aN (upN (svM ss sn0) 0 ty0)))), (mt, .inl (Γ.2 2, 14, .inl (aN tx)))] := hD
  refine lv_iconst (v := (nI 0)) hx hb dX7_load_40 (by decide) ?_
  refine lv_istore_n (lv' := [(1, .int (nI 0)), (0, .ref ma)]) hx hb dX7_load_41 rfl hl (by decide) rfl (fun ls hl => ?_)
  have LP42 : ∀ (fu : Nat) (k0 : Nat) (hk0 : k0 ≤ 14), (14 - k0) < fu → ∀ (H : Heap) (locs : List Loc), va_P Γ.1 vwCl [(ma, .inr (7, [.ref ms, .int (nI (svN sn0)), .ref mk, .int (nI (gz true true)), .ref mt, .int (nI ty0), .ref mb, .int (bI il0), .ref me, .ref mr, .int (nI my0), .ref mq, .ref mp, .ref mw, .ref mc])), (ms, .inl (Γ.2 0, 162, .inl (aN (clS (upN (svM ss sn0) 0 ty0) k0)))), (mt, .inl (Γ.2 2, 14, .inl (aN tx)))] H → va_D A [(ma, .inr (7, [.ref ms, .int (nI (svN sn0)), .ref mk, .int (nI (gz true true)), .ref mt, .int (nI ty0), .ref mb, .int (bI il0), .ref me, .ref mr, .int (nI my0), .ref mq, .ref mp, .ref mw, .ref mc])), (ms, .inl (Γ.2 0, 162, .inl (aN (clS (upN (svM ss sn0) 0 ty0) k0)))), (mt, .inl (Γ.2 2, 14, .inl (aN tx)))] → va_S A st.heap H locs → ∀ (ls : Array Slot), lv_has ls 2 [(1, .int (nI k0)), (0, .ref ma)] → W p l ev R st mi args below meth cd H locs 0 0 Q (F0 mi 42 ls []) := by
    intro fu
    induction fu with
    | zero => intro k0 hk0 hfu; exact absurd hfu (Nat.not_lt_zero _)
    | succ fu ih42 =>
      intro k0 hk0 hfu H locs hP hD hS ls hl
      refine lv_iload_n hx hb dX7_load_42 rfl (lv_at hl 0 rfl) ?_
      refine lv_bipush (v := (nI 14)) hx hb dX7_load_43 (by decide) ?_
      refine nb_icmp_ge (tgt := 63) hx hb (by first | omega | assumption) (by first | omega | assumption) dX7_load_45 (by decide) (fun c_45 => ?_) (fun c_45 => ?_)
      · skip
        obtain rfl : k0 = 14 := by omega
        refine lv_iconst (v := (nI 0)) hx hb dX7_load_63 (by decide) ?_
        refine lv_istore_n (lv' := [(1, .int (nI 0)), (0, .ref ma)]) hx hb dX7_load_64 rfl hl (by decide) rfl (fun ls hl => ?_)
        have LP65 : ∀ (fu : Nat) (k0 : Nat) (b8 : Bool) (hk0 : k0 ≤ ty0), (ty0 - k0) < fu → ∀ (H : Heap) (locs : List Loc), va_P Γ.1 vwCl [(ma, .inr (7, [.ref ms, .int (nI (svN sn0)), .ref mk, .int (nI 0), .ref mt, .int (nI ty0), .ref mb, .int (bI b8), .ref me, .ref mr, .int (nI my0), .ref mq, .ref mp, .ref mw, .ref mc])), (ms, .inl (Γ.2 0, 162, .inl (aN (ldS tx (clS (upN (svM ss sn0) 0 ty0) 14) k0)))), (mt, .inl (Γ.2 2, 14, .inl (aN tx)))] H → va_D A [(ma, .inr (7, [.ref ms, .int (nI (svN sn0)), .ref mk, .int (nI 0), .ref mt, .int (nI ty0), .ref mb, .int (bI b8), .ref me, .ref mr, .int (nI my0), .ref mq, .ref mp, .ref mw, .ref mc])), (ms, .inl (Γ.2 0, 162, .inl (aN (ldS tx (clS (upN (svM ss sn0) 0 ty0) 14) k0)))), (mt, .inl (Γ.2 2, 14, .inl (aN tx)))] → va_S A st.heap H locs → ∀ (ls : Array Slot), lv_has ls 2 [(1, .int (nI k0)), (0, .ref ma)] → W p l ev R st mi args below meth cd H locs 0 0 Q (F0 mi 65 ls []) := by
          intro fu
          induction fu with
          | zero => intro k0 b8 hk0 hfu; exact absurd hfu (Nat.not_lt_zero _)
          | succ fu ih65 =>
            intro k0 b8 hk0 hfu H locs hP hD hS ls hl
            refine lv_iload_n hx hb dX7_load_65 rfl (lv_at hl 0 rfl) ?_
            refine lv_aload_n hx hb dX7_load_66 rfl (lv_at hl 1 rfl) ?_
            refine va_get (D := Γ.1) (ci := 7) (v := .int (nI ty0)) (C := RX7) (T := TX7) (N := 15) hx hb hts hinX7 hown hK.1 hP 0 rfl rfl 5 (by decide) (hts _ mw_533) (fun _ h9 => h9) rfl dX7_load_67 ?_
            refine nb_icmp_ge (tgt := 105) hx hb (by first | omega | assumption) (by first | omega | assumption) dX7_load_70 (by decide) (fun c_70 => ?_) (fun c_70 => ?_)
            · skip
              have he9 : ty0 = k0 := by omega
              subst he9
              refine lv_aload_n hx hb dX7_load_105 rfl (lv_at hl 1 rfl) ?_
              refine wr_finv (va_runV (As := []) (rest := []) ⟨hx, hb, hml, hown, hts⟩ (c_X7_begins l Γ ma ms (svN sn0) mk 0 mt ty0 mb b8 me mr my0 mq mp mw mc (ldS tx (clS (upN (svM ss sn0) 0 ty0) 14) ty0) (by rw [ldS_lo (by decide), clS_lo (by decide), upN_s]; exact hty)) (kcwV 0 hts kv_X7_begins mw_529 (rm_le hR (Nat.le_of_ble_eq_true rfl) (Nat.le_of_ble_eq_true rfl))) (kPw_V hK (va_recv hK.1 hP (ci := 7) (q0 := 0) rfl rfl) (hP.sub (ws' := [(ma, .inr (7, [.ref ms, .int (nI (svN sn0)), .ref mk, .int (nI 0), .ref mt, .int (nI ty0), .ref mb, .int (bI b8), .ref me, .ref mr, .int (nI my0), .ref mq, .ref mp, .ref mw, .ref mc])), (ms, .inl (Γ.2 0, 162, .inl (aN (ldS tx (clS (upN (svM ss sn0) 0 ty0) 14) ty0))))]) [0, 1] rfl) (hD.sub (ws' := [(ma, .inr (7, [.ref ms, .int (nI (svN sn0)), .ref mk, .int (nI 0), .ref mt, .int (nI ty0), .ref mb, .int (bI b8), .ref me, .ref mr, .int (nI my0), .ref mq, .ref mp, .ref mw, .ref mc])), (ms, .inl (Γ.2 0, 162, .inl (aN (ldS tx (clS (upN (svM ss sn0) 0 ty0) 14) ty0))))]) [0, 1] (by decide) rfl)) rfl rfl hl.1 rfl (lv_room (Nat.le_of_ble_eq_true rfl)) dX7_load_106 ⟨Nat.zero_le _, Nat.zero_le _⟩) hP hD hS [0, 1] rfl (fun _ => rfl) (fun _ H locs hw hP hD hS => ?_)
              have hP : va_P Γ.1 vwCl [(ma, .inr (7, [.ref ms, .int (nI (svN sn0)), .ref mk, .int (nI 0), .ref mt, .int (nI ty0), .ref mb, .int (bI b8), .ref me, .ref mr, .int (nI my0), .ref mq, .ref mp, .ref mw, .ref mc])), (ms, .inl (Γ.2 0, 162, .inl (aN (bgS (ldS tx (clS (upN (svM ss sn0) 0 ty0) 14) ty0))))), (mt, .inl (Γ.2 2, 14, .inl (aN tx)))] H := hP
              have hD : va_D A [(ma, .inr (7, [.ref ms, .int (nI (svN sn0)), .ref mk, .int (nI 0), .ref mt, .int (nI ty0), .ref mb, .int (bI b8), .ref me, .ref mr, .int (nI my0), .ref mq, .ref mp, .ref mw, .ref mc])), (ms, .inl (Γ.2 0, 162, .inl (aN (bgS (ldS tx (clS (upN (svM ss sn0) 0 ty0) 14) ty0))))), (mt, .inl (Γ.2 2, 14, .inl (aN tx)))] := hD
              refine lv_aload_n hx hb dX7_load_109 rfl (lv_at hl 1 rfl) ?_
              refine lv_iconst (v := (nI 0)) hx hb dX7_load_110 (by decide) ?_
              refine tp_i (y := (bI false)) (rfl) ?_
              refine va_put (D := Γ.1) (ci := 7) (v := .int (bI false)) (ty := .boolean) (C := RX7) (T := TX7) (N := 15) hx hb hts hinX7 tyX7 tyX7_ok nmX7 hown hK.1 hP hD hS 0 rfl rfl 7 (by decide) (hts _ mw_419) (fun _ h9 => h9) rfl (by decide +kernel) (bI_nar _) (bI_fit _) (Nat.le_of_ble_eq_true rfl) dX7_load_111 (fun H locs hP hD hS => ?_)
              have hP : va_P Γ.1 vwCl [(ma, .inr (7, [.ref ms, .int (nI (svN sn0)), .ref mk, .int (nI 0), .ref mt, .int (nI ty0), .ref mb, .int (bI false), .ref me, .ref mr, .int (nI my0), .ref mq, .ref mp, .ref mw, .ref mc])), (ms, .inl (Γ.2 0, 162, .inl (aN (bgS (ldS tx (clS (upN (svM ss sn0) 0 ty0) 14) ty0))))), (mt, .inl (Γ.2 2, 14, .inl (aN tx)))] H := hP
              have hD : va_D A [(ma, .inr (7, [.ref ms, .int (nI (svN sn0)), .ref mk, .int (nI 0), .ref mt, .int (nI ty0), .ref mb, .int (bI false), .ref me, .ref mr, .int (nI my0), .ref mq, .ref mp, .ref mw, .ref mc])), (ms, .inl (Γ.2 0, 162, .inl (aN (bgS (ldS tx (clS (upN (svM ss sn0) 0 ty0) 14) ty0))))), (mt, .inl (Γ.2 2, 14, .inl (aN tx)))] := hD
              refine lv_aload_n hx hb dX7_load_114 rfl (lv_at hl 1 rfl) ?_
              refine lv_iconst (v := (nI 0)) hx hb dX7_load_115 (by decide) ?_
              refine va_put (D := Γ.1) (ci := 7) (v := .int (nI 0)) (ty := .int) (C := RX7) (T := TX7) (N := 15) hx hb hts hinX7 tyX7 tyX7_ok nmX7 hown hK.1 hP hD hS 0 rfl rfl 5 (by decide) (hts _ mw_533) (fun _ h9 => h9) rfl (by decide +kernel) rfl rfl (Nat.le_of_ble_eq_true rfl) dX7_load_116 (fun H locs hP hD hS => ?_)
              have hP : va_P Γ.1 vwCl [(ma, .inr (7, [.ref ms, .int (nI (svN sn0)), .ref mk, .int (nI 0), .ref mt, .int (nI 0), .ref mb, .int (bI false), .ref me, .ref mr, .int (nI my0), .ref mq, .ref mp, .ref mw, .ref mc])), (ms, .inl (Γ.2 0, 162, .inl (aN (bgS (ldS tx (clS (upN (svM ss sn0) 0 ty0) 14) ty0))))), (mt, .inl (Γ.2 2, 14, .inl (aN tx)))] H := hP
              have hD : va_D A [(ma, .inr (7, [.ref ms, .int (nI (svN sn0)), .ref mk, .int (nI 0), .ref mt, .int (nI 0), .ref mb, .int (bI false), .ref me, .ref mr, .int (nI my0), .ref mq, .ref mp, .ref mw, .ref mc])), (ms, .inl (Γ.2 0, 162, .inl (aN (bgS (ldS tx (clS (upN (svM ss sn0) 0 ty0) 14) ty0))))), (mt, .inl (Γ.2 2, 14, .inl (aN tx)))] := hD
              refine lv_aload_n hx hb dX7_load_119 rfl (lv_at hl 1 rfl) ?_
              refine va_get (D := Γ.1) (ci := 7) (v := .ref ms) (C := RX7) (T := TX7) (N := 15) hx hb hts hinX7 hown hK.1 hP 0 rfl rfl 0 (by decide) (hts _ mw_400) (fun _ h9 => h9) rfl dX7_load_120 ?_
              refine lv_iconst (v := (nI 0)) hx hb dX7_load_123 (by decide) ?_
              refine iald_N hx hb hK.1 hP 1 0 rfl rfl (by omega) (by first | decide | assumption) dX7_load_124 ?_
              refine tp_i (y := (nI ty0)) (by rw [bgS_0, ldS_lo (by decide), clS_lo (by decide), upN_s]) ?_
              exact hret () hP hS (rfl) dX7_load_125
            · skip
              have hc9 := htx k0 (by omega)
              have hg9 := fst_none hfw c_70
              refine lv_aload_n hx hb dX7_load_73 rfl (lv_at hl 1 rfl) ?_
              refine va_get (D := Γ.1) (ci := 7) (v := .ref mt) (C := RX7) (T := TX7) (N := 15) hx hb hts hinX7 hown hK.1 hP 0 rfl rfl 4 (by decide) (hts _ mw_403) (fun _ h9 => h9) rfl dX7_load_74 ?_
              refine lv_iload_n hx hb dX7_load_77 rfl (lv_at hl 0 rfl) ?_
              refine cald_N hx hb hK.1 hP 2 2 rfl rfl (by omega) (by first | decide | assumption) dX7_load_78 ?_
              refine lv_bipush (v := (nI 46)) hx hb dX7_load_79 (by decide) ?_
              refine nb_icmp_eq (tgt := 99) hx hb (by omega) (by omega) dX7_load_81 (by decide) (fun c_81 => ?_) (fun c_81 => ?_)
              · skip
                refine lv_iinc (v := (nI (k0 + 1))) (lv' := [(1, .int (nI (k0 + 1))), (0, .ref ma)]) hx hb dX7_load_99 hl (k := 0) rfl (nI_1 _) (by decide) rfl (fun ls hl => ?_)
                refine lv_goto (tgt := 65) hx hb dX7_load_102 (by decide) ?_
                exact ih65 (k0 + 1) b8 (by first | omega | assumption) (by omega) _ _ (cp_w hP (by first | (rw [ldS, if_pos c_81]) | (rw [ldS, if_neg c_81]))) (va_D_fst (by rfl) hD) hS ls (lv_sub hl [0, 1] rfl)
              · skip
                obtain ⟨hz8, hz9⟩ := wrg_ok hg9 c_81
                refine lv_aload_n hx hb dX7_load_84 rfl (lv_at hl 1 rfl) ?_
                refine lv_iload_n hx hb dX7_load_85 rfl (lv_at hl 0 rfl) ?_
                refine lv_aload_n hx hb dX7_load_86 rfl (lv_at hl 1 rfl) ?_
                refine va_get (D := Γ.1) (ci := 7) (v := .ref mt) (C := RX7) (T := TX7) (N := 15) hx hb hts hinX7 hown hK.1 hP 0 rfl rfl 4 (by decide) (hts _ mw_403) (fun _ h9 => h9) rfl dX7_load_87 ?_
                refine lv_iload_n hx hb dX7_load_90 rfl (lv_at hl 0 rfl) ?_
                refine cald_N hx hb hK.1 hP 2 2 rfl rfl (by omega) (by first | decide | assumption) dX7_load_91 ?_
                refine lv_bipush (v := (nI 97)) hx hb dX7_load_92 (by decide) ?_
                refine lv_isub hx hb dX7_load_94 ?_
                refine tp_i (y := (nI ((tx k0) - 97))) (ni_sub hz8) ?_
                refine lv_iconst (v := (nI 1)) hx hb dX7_load_95 (by decide) ?_
                refine wr_finv (va_runV (As := [.int (nI k0), .int (nI ((tx k0) - 97)), .int (nI 1)]) (rest := []) ⟨hx, hb, hml, hown, hts⟩ (c_X7_links l Γ ma ms (svN sn0) mk 0 mt ty0 mb b8 me mr my0 mq mp mw mc (ldS tx (clS (upN (svM ss sn0) 0 ty0) 14) k0) k0 ((tx k0) - 97) true (by omega) (by omega)) (kcwV 3 hts kv_X7_links mw_473 (rm_le hR (Nat.le_of_ble_eq_true rfl) (Nat.le_of_ble_eq_true rfl))) (kPw_V hK (va_recv hK.1 hP (ci := 7) (q0 := 0) rfl rfl) (hP.sub (ws' := [(ma, .inr (7, [.ref ms, .int (nI (svN sn0)), .ref mk, .int (nI 0), .ref mt, .int (nI ty0), .ref mb, .int (bI b8), .ref me, .ref mr, .int (nI my0), .ref mq, .ref mp, .ref mw, .ref mc])), (ms, .inl (Γ.2 0, 162, .inl (aN (ldS tx (clS (upN (svM ss sn0) 0 ty0) 14) k0))))]) [0, 1] rfl) (hD.sub (ws' := [(ma, .inr (7, [.ref ms, .int (nI (svN sn0)), .ref mk, .int (nI 0), .ref mt, .int (nI ty0), .ref mb, .int (bI b8), .ref me, .ref mr, .int (nI my0), .ref mq, .ref mp, .ref mw, .ref mc])), (ms, .inl (Γ.2 0, 162, .inl (aN (ldS tx (clS (upN (svM ss sn0) 0 ty0) 14) k0))))]) [0, 1] (by decide) rfl)) rfl rfl hl.1 rfl (lv_room (Nat.le_of_ble_eq_true rfl)) dX7_load_96 ⟨Nat.zero_le _, Nat.zero_le _⟩) hP hD hS [0, 1] rfl (fun _ => rfl) (fun _ H locs hw hP hD hS => ?_)
                have hP : va_P Γ.1 vwCl [(ma, .inr (7, [.ref ms, .int (nI (svN sn0)), .ref mk, .int (nI 0), .ref mt, .int (nI ty0), .ref mb, .int (bI false), .ref me, .ref mr, .int (nI my0), .ref mq, .ref mp, .ref mw, .ref mc])), (ms, .inl (Γ.2 0, 162, .inl (aN (lkS (ldS tx (clS (upN (svM ss sn0) 0 ty0) 14) k0) k0 ((tx k0) - 97) true)))), (mt, .inl (Γ.2 2, 14, .inl (aN tx)))] H := hP
                have hD : va_D A [(ma, .inr (7, [.ref ms, .int (nI (svN sn0)), .ref mk, .int (nI 0), .ref mt, .int (nI ty0), .ref mb, .int (bI false), .ref me, .ref mr, .int (nI my0), .ref mq, .ref mp, .ref mw, .ref mc])), (ms, .inl (Γ.2 0, 162, .inl (aN (lkS (ldS tx (clS (upN (svM ss sn0) 0 ty0) 14) k0) k0 ((tx k0) - 97) true)))), (mt, .inl (Γ.2 2, 14, .inl (aN tx)))] := hD
                refine lv_iinc (v := (nI (k0 + 1))) (lv' := [(1, .int (nI (k0 + 1))), (0, .ref ma)]) hx hb dX7_load_99 hl (k := 0) rfl (nI_1 _) (by decide) rfl (fun ls hl => ?_)
                refine lv_goto (tgt := 65) hx hb dX7_load_102 (by decide) ?_
                exact ih65 (k0 + 1) false (by first | omega | assumption) (by omega) _ _ (cp_w hP (by first | (rw [ldS, if_pos c_81]) | (rw [ldS, if_neg c_81]))) (va_D_fst (by rfl) hD) hS ls (lv_sub hl [0, 1] rfl)
        exact LP65 ((ty0 - 0) + 1) 0 il0 (by first | omega | assumption) (Nat.lt_succ_self _) _ _ hP hD hS ls (lv_sub hl [0, 1] rfl)
      · skip
        refine lv_aload_n hx hb dX7_load_48 rfl (lv_at hl 1 rfl) ?_
        refine va_get (D := Γ.1) (ci := 7) (v := .ref ms) (C := RX7) (T := TX7) (N := 15) hx hb hts hinX7 hown hK.1 hP 0 rfl rfl 0 (by decide) (hts _ mw_400) (fun _ h9 => h9) rfl dX7_load_49 ?_
        refine lv_iconst (v := (nI 4)) hx hb dX7_load_52 (by decide) ?_
        refine lv_iload_n hx hb dX7_load_53 rfl (lv_at hl 0 rfl) ?_
        refine lv_iadd hx hb dX7_load_54 ?_
        refine tp_i (y := (nI (4 + k0))) (nI_add _ _) ?_
        refine lv_iconst (v := (nI 0)) hx hb dX7_load_55 (by decide) ?_
        refine iast_N hx hb hK.1 hP hD hS 1 0 rfl rfl (by omega) (by first | decide | assumption) dX7_load_56 (fun H locs hP hD hS => ?_)
        have hP : va_P Γ.1 vwCl [(ma, .inr (7, [.ref ms, .int (nI (svN sn0)), .ref mk, .int (nI (gz true true)), .ref mt, .int (nI ty0), .ref mb, .int (bI il0), .ref me, .ref mr, .int (nI my0), .ref mq, .ref mp, .ref mw, .ref mc])), (ms, .inl (Γ.2 0, 162, .inl (aN (upN (clS (upN (svM ss sn0) 0 ty0) k0) (4 + k0) 0)))), (mt, .inl (Γ.2 2, 14, .inl (aN tx)))] H := hP
        have hD : va_D A [(ma, .inr (7, [.ref ms, .int (nI (svN sn0)), .ref mk, .int (nI (gz true true)), .ref mt, .int (nI ty0), .ref mb, .int (bI il0), .ref me, .ref mr, .int (nI my0), .ref mq, .ref mp, .ref mw, .ref mc])), (ms, .inl (Γ.2 0, 162, .inl (aN (upN (clS (upN (svM ss sn0) 0 ty0) k0) (4 + k0) 0)))), (mt, .inl (Γ.2 2, 14, .inl (aN tx)))] := hD
        have hP : va_P Γ.1 vwCl [(ma, .inr (7, [.ref ms, .int (nI (svN sn0)), .ref mk, .int (nI (gz true true)), .ref mt, .int (nI ty0), .ref mb, .int (bI il0), .ref me, .ref mr, .int (nI my0), .ref mq, .ref mp, .ref mw, .ref mc])), (ms, .inl (Γ.2 0, 162, .inl (aN (clS (upN (svM ss sn0) 0 ty0) (k0 + 1))))), (mt, .inl (Γ.2 2, 14, .inl (aN tx)))] H := cp_w hP (by rw [clS_s])
        have hD : va_D A [(ma, .inr (7, [.ref ms, .int (nI (svN sn0)), .ref mk, .int (nI (gz true true)), .ref mt, .int (nI ty0), .ref mb, .int (bI il0), .ref me, .ref mr, .int (nI my0), .ref mq, .ref mp, .ref mw, .ref mc])), (ms, .inl (Γ.2 0, 162, .inl (aN (clS (upN (svM ss sn0) 0 ty0) (k0 + 1))))), (mt, .inl (Γ.2 2, 14, .inl (aN tx)))] := va_D_fst (by rfl) hD
        refine lv_iinc (v := (nI (k0 + 1))) (lv' := [(1, .int (nI (k0 + 1))), (0, .ref ma)]) hx hb dX7_load_57 hl (k := 0) rfl (nI_1 _) (by decide) rfl (fun ls hl => ?_)
        refine lv_goto (tgt := 42) hx hb dX7_load_60 (by decide) ?_
        exact ih42 (k0 + 1) (by first | omega | assumption) (by omega) _ _ hP hD hS ls (lv_sub hl [0, 1] rfl)
  exact LP42 ((14 - 0) + 1) 0 (by first | omega | assumption) (Nat.lt_succ_self _) _ _ (cp_w hP (by rw [clS_0])) (va_D_fst (by rfl) hD) hS ls (lv_sub hl [0, 1] rfl)
