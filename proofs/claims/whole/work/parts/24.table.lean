set_option maxHeartbeats 8000000 in
set_option maxRecDepth 100000 in
theorem c_X7_fills (l : Launch) (Γ : kG) (ma : Nat) (ms : Nat) (sn0 : Nat) (mk : Nat) (tw0 : Nat) (mt : Nat) (ty0 : Nat) (mb : Nat) (il0 : Bool) (me : Nat) (mr : Nat) (my0 : Nat) (mq : Nat) (mp : Nat) (mw : Nat) (mc : Nat) (ss : Nat → Nat) (tb : Nat → Nat) (ed : Nat → Nat) (h0 : ss 0 ≤ 14) (htb : tbLt tb) : WRv l yX7_fills (wsq yX7_fills cX7_fills 2 none) (rmL 3) Γ [.ref ma] [(ma, .inr (7, [.ref ms, .int (nI sn0), .ref mk, .int (nI tw0), .ref mt, .int (nI ty0), .ref mb, .int (bI il0), .ref me, .ref mr, .int (nI my0), .ref mq, .ref mp, .ref mw, .ref mc])), (ms, .inl (Γ.2 0, 162, .inl (aN ss))), (mb, .inl (Γ.2 0, 16384, .inl (aN tb))), (me, .inl (Γ.2 0, 14, .inl (aN ed)))] (fun u : (Nat → Nat) => [(ma, .inr (7, [.ref ms, .int (nI sn0), .ref mk, .int (nI tw0), .ref mt, .int (nI ty0), .ref mb, .int (bI il0), .ref me, .ref mr, .int (nI my0), .ref mq, .ref mp, .ref mw, .ref mc])), (ms, .inl (Γ.2 0, 162, .inl (aN ss))), (mb, .inl (Γ.2 0, 16384, .inl (aN u))), (me, .inl (Γ.2 0, 14, .inl (aN ed)))]) (fun u : (Nat → Nat) => tbOk ed u (2 ^ ss 0) ∧ tbLt u) := by
  refine wr_ofv (cc := cX7_fills) (maxL := 2) (by decide +kernel) (Nat.le_of_ble_eq_true rfl) rfl ?_
  intro p ev R st mi args below meth cd Q A ls C0 hR hret hP hD hS hl
  obtain ⟨hx, hb, hr, hml, hown, hts, hlk, hK, hnm⟩ := C0
  have hown : st.vm.findClass RX7 = some mi.cls := hown
  refine lv_iconst (v := (nI 0)) hx hb dX7_fills_0 (by decide) ?_
  refine lv_istore_n (lv' := [(1, .int (nI 0)), (0, .ref ma)]) hx hb dX7_fills_1 rfl hl (by decide) rfl (fun ls hl => ?_)
  have LP2 : ∀ (fu : Nat) (m0 : Nat) (t8 : Nat → Nat) (hm0 : m0 ≤ 2 ^ ss 0) (hok8 : tbOk ed t8 m0) (hlt8 : tbLt t8), (2 ^ ss 0 - m0) < fu → ∀ (H : Heap) (locs : List Loc), va_P Γ.1 vwCl [(ma, .inr (7, [.ref ms, .int (nI sn0), .ref mk, .int (nI tw0), .ref mt, .int (nI ty0), .ref mb, .int (bI il0), .ref me, .ref mr, .int (nI my0), .ref mq, .ref mp, .ref mw, .ref mc])), (ms, .inl (Γ.2 0, 162, .inl (aN ss))), (mb, .inl (Γ.2 0, 16384, .inl (aN t8))), (me, .inl (Γ.2 0, 14, .inl (aN ed)))] H → va_D A [(ma, .inr (7, [.ref ms, .int (nI sn0), .ref mk, .int (nI tw0), .ref mt, .int (nI ty0), .ref mb, .int (bI il0), .ref me, .ref mr, .int (nI my0), .ref mq, .ref mp, .ref mw, .ref mc])), (ms, .inl (Γ.2 0, 162, .inl (aN ss))), (mb, .inl (Γ.2 0, 16384, .inl (aN t8))), (me, .inl (Γ.2 0, 14, .inl (aN ed)))] → va_S A st.heap H locs → ∀ (ls : Array Slot), lv_has ls 2 [(1, .int (nI m0)), (0, .ref ma)] → W p l ev R st mi args below meth cd H locs 0 0 Q (F0 mi 2 ls []) := by
    intro fu
    induction fu with
    | zero => intro m0 t8 hm0 hok8 hlt8 hfu; exact absurd hfu (Nat.not_lt_zero _)
    | succ fu ih2 =>
      intro m0 t8 hm0 hok8 hlt8 hfu H locs hP hD hS ls hl
      have hp9 := pow_15 h0
      refine lv_iload_n hx hb dX7_fills_2 rfl (lv_at hl 0 rfl) ?_
      refine lv_iconst (v := (nI 1)) hx hb dX7_fills_3 (by decide) ?_
      refine lv_aload_n hx hb dX7_fills_4 rfl (lv_at hl 1 rfl) ?_
      refine va_get (D := Γ.1) (ci := 7) (v := .ref ms) (C := RX7) (T := TX7) (N := 15) hx hb hts hinX7 hown hK.1 hP 0 rfl rfl 0 (by decide) (hts _ mw_400) (fun _ h9 => h9) rfl dX7_fills_5 ?_
      refine lv_iconst (v := (nI 0)) hx hb dX7_fills_8 (by decide) ?_
      refine iald_N hx hb hK.1 hP 1 0 rfl rfl (by omega) (by first | decide | assumption) dX7_fills_9 ?_
      refine lv_ishl hx hb dX7_fills_10 ?_
      refine tp_i (y := (nI (2 ^ (ss 0)))) (ni_shl1 (by omega)) ?_
      refine nb_icmp_ge (tgt := 31) hx hb (by omega) (by omega) dX7_fills_11 (by decide) (fun c_11 => ?_) (fun c_11 => ?_)
      · skip
        obtain rfl : m0 = 2 ^ ss 0 := by omega
        exact hret t8 hP hS (⟨hok8, hlt8⟩) dX7_fills_31
      · skip
        refine lv_aload_n hx hb dX7_fills_14 rfl (lv_at hl 1 rfl) ?_
        refine va_get (D := Γ.1) (ci := 7) (v := .ref mb) (C := RX7) (T := TX7) (N := 15) hx hb hts hinX7 hown hK.1 hP 0 rfl rfl 6 (by decide) (hts _ mw_404) (fun _ h9 => h9) rfl dX7_fills_15 ?_
        refine lv_iload_n hx hb dX7_fills_18 rfl (lv_at hl 0 rfl) ?_
        refine lv_aload_n hx hb dX7_fills_19 rfl (lv_at hl 1 rfl) ?_
        refine lv_iload_n hx hb dX7_fills_20 rfl (lv_at hl 0 rfl) ?_
        refine ro_fin (va_runV (As := [.int (nI m0)]) (rest := [.int (nI m0), .ref mb]) ⟨hx, hb, hml, hown, hts⟩ (c_X7_entry l Γ _ ma ms sn0 mk tw0 mt ty0 mb il0 me mr my0 mq mp mw mc ss t8 ed m0 (hP.sub (ws' := [(ma, .inr (7, [.ref ms, .int (nI sn0), .ref mk, .int (nI tw0), .ref mt, .int (nI ty0), .ref mb, .int (bI il0), .ref me, .ref mr, .int (nI my0), .ref mq, .ref mp, .ref mw, .ref mc])), (ms, .inl (Γ.2 0, 162, .inl (aN ss))), (mb, .inl (Γ.2 0, 16384, .inl (aN t8))), (me, .inl (Γ.2 0, 14, .inl (aN ed)))]) [0, 1, 2, 3] rfl) (by first | omega | assumption) (by omega) (hlt8)) (kcwV 1 hts kv_X7_entry mw_437 (rm_le hR (Nat.le_of_ble_eq_true rfl) (Nat.le_of_ble_eq_true rfl))) (kPc_V hK (va_recv hK.1 hP (ci := 7) (q0 := 0) rfl rfl)) rfl rfl hl.1 rfl (lv_room (Nat.le_of_ble_eq_true rfl)) dX7_fills_21 ⟨Nat.zero_le _, Nat.zero_le _⟩) hS (fun locs hS => ?_)
        refine tp_i (y := (nI (T ed m0))) (by rw [entr_T c_11 h0 hok8]) ?_
        refine iast_N hx hb hK.1 hP hD hS 2 0 rfl rfl (by omega) (by first | decide | assumption) dX7_fills_24 (fun H locs hP hD hS => ?_)
        have hP : va_P Γ.1 vwCl [(ma, .inr (7, [.ref ms, .int (nI sn0), .ref mk, .int (nI tw0), .ref mt, .int (nI ty0), .ref mb, .int (bI il0), .ref me, .ref mr, .int (nI my0), .ref mq, .ref mp, .ref mw, .ref mc])), (ms, .inl (Γ.2 0, 162, .inl (aN ss))), (mb, .inl (Γ.2 0, 16384, .inl (aN (upN t8 m0 (T ed m0))))), (me, .inl (Γ.2 0, 14, .inl (aN ed)))] H := hP
        have hD : va_D A [(ma, .inr (7, [.ref ms, .int (nI sn0), .ref mk, .int (nI tw0), .ref mt, .int (nI ty0), .ref mb, .int (bI il0), .ref me, .ref mr, .int (nI my0), .ref mq, .ref mp, .ref mw, .ref mc])), (ms, .inl (Γ.2 0, 162, .inl (aN ss))), (mb, .inl (Γ.2 0, 16384, .inl (aN (upN t8 m0 (T ed m0))))), (me, .inl (Γ.2 0, 14, .inl (aN ed)))] := hD
        refine lv_iinc (v := (nI (m0 + 1))) (lv' := [(1, .int (nI (m0 + 1))), (0, .ref ma)]) hx hb dX7_fills_25 hl (k := 0) rfl (nI_1 _) (by decide) rfl (fun ls hl => ?_)
        refine lv_goto (tgt := 2) hx hb dX7_fills_28 (by decide) ?_
        exact ih2 (m0 + 1) (upN t8 m0 (T ed m0)) (c_11) (tbOk_s hok8) (tbLt_s hlt8 (by omega)) (by omega) _ _ hP hD hS ls (lv_sub hl [0, 1] rfl)
  exact LP2 ((2 ^ ss 0 - 0) + 1) 0 tb (Nat.zero_le _) (tbOk_0 ed tb) (htb) (Nat.lt_succ_self _) _ _ hP hD hS ls (lv_sub hl [0, 1] rfl)
set_option maxHeartbeats 8000000 in
set_option maxRecDepth 100000 in
theorem c_X7_of (l : Launch) (Γ : kG) (ma : Nat) (ms : Nat) (sn0 : Nat) (mk : Nat) (tw0 : Nat) (mt : Nat) (ty0 : Nat) (mb : Nat) (il0 : Bool) (me : Nat) (mr : Nat) (my0 : Nat) (mq : Nat) (mp : Nat) (mw : Nat) (mc : Nat) (ss : Nat → Nat) (tb : Nat → Nat) (ed : Nat → Nat) (S0 : Nat) (h0 : ss 0 ≤ 14) (hS0 : S0 < 2 ^ ss 0) (htb : tbLt tb) (hil : il0 = true → tbOk (gS ss) tb (2 ^ ss 0)) : WRi l yX7_of (wsq yX7_of cX7_of 3 (some .int)) (rmL 4) Γ [.ref ma, .int (nI S0)] [(ma, .inr (7, [.ref ms, .int (nI sn0), .ref mk, .int (nI tw0), .ref mt, .int (nI ty0), .ref mb, .int (bI il0), .ref me, .ref mr, .int (nI my0), .ref mq, .ref mp, .ref mw, .ref mc])), (ms, .inl (Γ.2 0, 162, .inl (aN ss))), (mb, .inl (Γ.2 0, 16384, .inl (aN tb))), (me, .inl (Γ.2 0, 14, .inl (aN ed)))] (fun u : (Nat → Nat) × (Nat → Nat) => [(ma, .inr (7, [.ref ms, .int (nI sn0), .ref mk, .int (nI tw0), .ref mt, .int (nI ty0), .ref mb, .int (bI true), .ref me, .ref mr, .int (nI my0), .ref mq, .ref mp, .ref mw, .ref mc])), (ms, .inl (Γ.2 0, 162, .inl (aN ss))), (mb, .inl (Γ.2 0, 16384, .inl (aN u.1))), (me, .inl (Γ.2 0, 14, .inl (aN u.2)))]) (fun (r : Int32) (u : (Nat → Nat) × (Nat → Nat)) => r = (nI (T (gS ss) S0)) ∧ tbOk (gS ss) u.1 (2 ^ ss 0) ∧ tbLt u.1) := by
  refine wr_ofi (cc := cX7_of) (maxL := 3) (by decide +kernel) (Nat.le_of_ble_eq_true rfl) rfl ?_
  intro p ev R st mi args below meth cd Q A ls C0 hR hret hP hD hS hl
  obtain ⟨hx, hb, hr, hml, hown, hts, hlk, hK, hnm⟩ := C0
  have hown : st.vm.findClass RX7 = some mi.cls := hown
  refine lv_aload_n hx hb dX7_of_0 rfl (lv_at hl 0 rfl) ?_
  refine va_get (D := Γ.1) (ci := 7) (v := .int (bI il0)) (C := RX7) (T := TX7) (N := 15) hx hb hts hinX7 hown hK.1 hP 0 rfl rfl 7 (by decide) (hts _ mw_419) (fun _ h9 => h9) rfl dX7_of_1 ?_
  refine nb_ifb_ne (tgt := 44) hx hb dX7_of_4 (by decide) (fun c_4 => ?_) (fun c_4 => ?_)
  · skip
    subst c_4
    have hp8 := pow_15 h0
    have hq8 := hil rfl
    refine lv_aload_n hx hb dX7_of_44 rfl (lv_at hl 0 rfl) ?_
    refine va_get (D := Γ.1) (ci := 7) (v := .ref mb) (C := RX7) (T := TX7) (N := 15) hx hb hts hinX7 hown hK.1 hP 0 rfl rfl 6 (by decide) (hts _ mw_404) (fun _ h9 => h9) rfl dX7_of_45 ?_
    refine lv_iload_n hx hb dX7_of_48 rfl (lv_at hl 1 rfl) ?_
    refine iald_N hx hb hK.1 hP 2 0 rfl rfl (by omega) (by first | decide | assumption) dX7_of_49 ?_
    refine tp_i (y := (nI (T (gS ss) S0))) (by rw [hq8 S0 hS0]) ?_
    exact hret (tb, ed) hP hS (⟨rfl, hq8, htb⟩) dX7_of_50
  · skip
    refine lv_iconst (v := (nI 0)) hx hb dX7_of_7 (by decide) ?_
    refine lv_istore_n (lv' := [(2, .int (nI 0)), (0, .ref ma), (1, .int (nI S0))]) hx hb dX7_of_8 rfl hl (by decide) rfl (fun ls hl => ?_)
    have LP9 : ∀ (fu : Nat) (k0 : Nat) (hk0 : k0 ≤ 14), (14 - k0) < fu → ∀ (H : Heap) (locs : List Loc), va_P Γ.1 vwCl [(ma, .inr (7, [.ref ms, .int (nI sn0), .ref mk, .int (nI tw0), .ref mt, .int (nI ty0), .ref mb, .int (bI il0), .ref me, .ref mr, .int (nI my0), .ref mq, .ref mp, .ref mw, .ref mc])), (ms, .inl (Γ.2 0, 162, .inl (aN ss))), (mb, .inl (Γ.2 0, 16384, .inl (aN tb))), (me, .inl (Γ.2 0, 14, .inl (aN (cpS ed (gS ss) k0))))] H → va_D A [(ma, .inr (7, [.ref ms, .int (nI sn0), .ref mk, .int (nI tw0), .ref mt, .int (nI ty0), .ref mb, .int (bI il0), .ref me, .ref mr, .int (nI my0), .ref mq, .ref mp, .ref mw, .ref mc])), (ms, .inl (Γ.2 0, 162, .inl (aN ss))), (mb, .inl (Γ.2 0, 16384, .inl (aN tb))), (me, .inl (Γ.2 0, 14, .inl (aN (cpS ed (gS ss) k0))))] → va_S A st.heap H locs → ∀ (ls : Array Slot), lv_has ls 3 [(2, .int (nI k0)), (0, .ref ma), (1, .int (nI S0))] → W p l ev R st mi args below meth cd H locs 0 0 Q (F0 mi 9 ls []) := by
      intro fu
      induction fu with
      | zero => intro k0 hk0 hfu; exact absurd hfu (Nat.not_lt_zero _)
      | succ fu ih9 =>
        intro k0 hk0 hfu H locs hP hD hS ls hl
        refine lv_iload_n hx hb dX7_of_9 rfl (lv_at hl 0 rfl) ?_
        refine lv_bipush (v := (nI 14)) hx hb dX7_of_10 (by decide) ?_
        refine nb_icmp_ge (tgt := 35) hx hb (by first | omega | assumption) (by first | omega | assumption) dX7_of_12 (by decide) (fun c_12 => ?_) (fun c_12 => ?_)
        · skip
          obtain rfl : k0 = 14 := by omega
          have hp8 := pow_15 h0
          have hP : va_P Γ.1 vwCl [(ma, .inr (7, [.ref ms, .int (nI sn0), .ref mk, .int (nI tw0), .ref mt, .int (nI ty0), .ref mb, .int (bI il0), .ref me, .ref mr, .int (nI my0), .ref mq, .ref mp, .ref mw, .ref mc])), (ms, .inl (Γ.2 0, 162, .inl (aN ss))), (mb, .inl (Γ.2 0, 16384, .inl (aN tb))), (me, .inl (Γ.2 0, 14, .inl (aN (gS ss))))] H := (va_P_arr (k := 3) hP rfl (fun i hi => by simp [aN, cpS, hi]))
          have hD : va_D A [(ma, .inr (7, [.ref ms, .int (nI sn0), .ref mk, .int (nI tw0), .ref mt, .int (nI ty0), .ref mb, .int (bI il0), .ref me, .ref mr, .int (nI my0), .ref mq, .ref mp, .ref mw, .ref mc])), (ms, .inl (Γ.2 0, 162, .inl (aN ss))), (mb, .inl (Γ.2 0, 16384, .inl (aN tb))), (me, .inl (Γ.2 0, 14, .inl (aN (gS ss))))] := (va_D_fst (by rfl) hD)
          refine lv_aload_n hx hb dX7_of_35 rfl (lv_at hl 1 rfl) ?_
          refine wr_finv (va_runV (As := []) (rest := []) ⟨hx, hb, hml, hown, hts⟩ (c_X7_fills l Γ ma ms sn0 mk tw0 mt ty0 mb il0 me mr my0 mq mp mw mc ss tb (gS ss) (by first | omega | assumption) (by first | omega | assumption)) (kcwV 0 hts kv_X7_fills mw_441 (rm_le hR (Nat.le_of_ble_eq_true rfl) (Nat.le_of_ble_eq_true rfl))) (kPw_V hK (va_recv hK.1 hP (ci := 7) (q0 := 0) rfl rfl) (hP.sub (ws' := [(ma, .inr (7, [.ref ms, .int (nI sn0), .ref mk, .int (nI tw0), .ref mt, .int (nI ty0), .ref mb, .int (bI il0), .ref me, .ref mr, .int (nI my0), .ref mq, .ref mp, .ref mw, .ref mc])), (ms, .inl (Γ.2 0, 162, .inl (aN ss))), (mb, .inl (Γ.2 0, 16384, .inl (aN tb))), (me, .inl (Γ.2 0, 14, .inl (aN (gS ss))))]) [0, 1, 2, 3] rfl) (hD.sub (ws' := [(ma, .inr (7, [.ref ms, .int (nI sn0), .ref mk, .int (nI tw0), .ref mt, .int (nI ty0), .ref mb, .int (bI il0), .ref me, .ref mr, .int (nI my0), .ref mq, .ref mp, .ref mw, .ref mc])), (ms, .inl (Γ.2 0, 162, .inl (aN ss))), (mb, .inl (Γ.2 0, 16384, .inl (aN tb))), (me, .inl (Γ.2 0, 14, .inl (aN (gS ss))))]) [0, 1, 2, 3] (by decide) rfl)) rfl rfl hl.1 rfl (lv_room (Nat.le_of_ble_eq_true rfl)) dX7_of_36 ⟨Nat.zero_le _, Nat.zero_le _⟩) hP hD hS [0, 1, 2, 3] rfl (fun _ => rfl) (fun t7 H locs hw hP hD hS => ?_)
          obtain ⟨hq8, hr8⟩ := hw
          have hP : va_P Γ.1 vwCl [(ma, .inr (7, [.ref ms, .int (nI sn0), .ref mk, .int (nI tw0), .ref mt, .int (nI ty0), .ref mb, .int (bI il0), .ref me, .ref mr, .int (nI my0), .ref mq, .ref mp, .ref mw, .ref mc])), (ms, .inl (Γ.2 0, 162, .inl (aN ss))), (mb, .inl (Γ.2 0, 16384, .inl (aN t7))), (me, .inl (Γ.2 0, 14, .inl (aN (gS ss))))] H := hP
          have hD : va_D A [(ma, .inr (7, [.ref ms, .int (nI sn0), .ref mk, .int (nI tw0), .ref mt, .int (nI ty0), .ref mb, .int (bI il0), .ref me, .ref mr, .int (nI my0), .ref mq, .ref mp, .ref mw, .ref mc])), (ms, .inl (Γ.2 0, 162, .inl (aN ss))), (mb, .inl (Γ.2 0, 16384, .inl (aN t7))), (me, .inl (Γ.2 0, 14, .inl (aN (gS ss))))] := hD
          refine lv_aload_n hx hb dX7_of_39 rfl (lv_at hl 1 rfl) ?_
          refine lv_iconst (v := (nI 1)) hx hb dX7_of_40 (by decide) ?_
          refine tp_i (y := (bI true)) (rfl) ?_
          refine va_put (D := Γ.1) (ci := 7) (v := .int (bI true)) (ty := .boolean) (C := RX7) (T := TX7) (N := 15) hx hb hts hinX7 tyX7 tyX7_ok nmX7 hown hK.1 hP hD hS 0 rfl rfl 7 (by decide) (hts _ mw_419) (fun _ h9 => h9) rfl (by decide +kernel) (bI_nar _) (bI_fit _) (Nat.le_of_ble_eq_true rfl) dX7_of_41 (fun H locs hP hD hS => ?_)
          have hP : va_P Γ.1 vwCl [(ma, .inr (7, [.ref ms, .int (nI sn0), .ref mk, .int (nI tw0), .ref mt, .int (nI ty0), .ref mb, .int (bI true), .ref me, .ref mr, .int (nI my0), .ref mq, .ref mp, .ref mw, .ref mc])), (ms, .inl (Γ.2 0, 162, .inl (aN ss))), (mb, .inl (Γ.2 0, 16384, .inl (aN t7))), (me, .inl (Γ.2 0, 14, .inl (aN (gS ss))))] H := hP
          have hD : va_D A [(ma, .inr (7, [.ref ms, .int (nI sn0), .ref mk, .int (nI tw0), .ref mt, .int (nI ty0), .ref mb, .int (bI true), .ref me, .ref mr, .int (nI my0), .ref mq, .ref mp, .ref mw, .ref mc])), (ms, .inl (Γ.2 0, 162, .inl (aN ss))), (mb, .inl (Γ.2 0, 16384, .inl (aN t7))), (me, .inl (Γ.2 0, 14, .inl (aN (gS ss))))] := hD
          refine lv_aload_n hx hb dX7_of_44 rfl (lv_at hl 1 rfl) ?_
          refine va_get (D := Γ.1) (ci := 7) (v := .ref mb) (C := RX7) (T := TX7) (N := 15) hx hb hts hinX7 hown hK.1 hP 0 rfl rfl 6 (by decide) (hts _ mw_404) (fun _ h9 => h9) rfl dX7_of_45 ?_
          refine lv_iload_n hx hb dX7_of_48 rfl (lv_at hl 2 rfl) ?_
          refine iald_N hx hb hK.1 hP 2 0 rfl rfl (by omega) (by first | decide | assumption) dX7_of_49 ?_
          refine tp_i (y := (nI (T (gS ss) S0))) (by rw [hq8 S0 hS0]) ?_
          exact hret (t7, gS ss) hP hS (⟨rfl, hq8, hr8⟩) dX7_of_50
        · skip
          refine lv_aload_n hx hb dX7_of_15 rfl (lv_at hl 1 rfl) ?_
          refine va_get (D := Γ.1) (ci := 7) (v := .ref me) (C := RX7) (T := TX7) (N := 15) hx hb hts hinX7 hown hK.1 hP 0 rfl rfl 8 (by decide) (hts _ mw_405) (fun _ h9 => h9) rfl dX7_of_16 ?_
          refine lv_iload_n hx hb dX7_of_19 rfl (lv_at hl 0 rfl) ?_
          refine lv_aload_n hx hb dX7_of_20 rfl (lv_at hl 1 rfl) ?_
          refine va_get (D := Γ.1) (ci := 7) (v := .ref ms) (C := RX7) (T := TX7) (N := 15) hx hb hts hinX7 hown hK.1 hP 0 rfl rfl 0 (by decide) (hts _ mw_400) (fun _ h9 => h9) rfl dX7_of_21 ?_
          refine lv_iconst (v := (nI 4)) hx hb dX7_of_24 (by decide) ?_
          refine lv_iload_n hx hb dX7_of_25 rfl (lv_at hl 0 rfl) ?_
          refine lv_iadd hx hb dX7_of_26 ?_
          refine tp_i (y := (nI (4 + k0))) (nI_add _ _) ?_
          refine iald_N hx hb hK.1 hP 1 0 rfl rfl (by omega) (by first | decide | assumption) dX7_of_27 ?_
          refine iast_N hx hb hK.1 hP hD hS 3 0 rfl rfl (by omega) (by first | decide | assumption) dX7_of_28 (fun H locs hP hD hS => ?_)
          have hP : va_P Γ.1 vwCl [(ma, .inr (7, [.ref ms, .int (nI sn0), .ref mk, .int (nI tw0), .ref mt, .int (nI ty0), .ref mb, .int (bI il0), .ref me, .ref mr, .int (nI my0), .ref mq, .ref mp, .ref mw, .ref mc])), (ms, .inl (Γ.2 0, 162, .inl (aN ss))), (mb, .inl (Γ.2 0, 16384, .inl (aN tb))), (me, .inl (Γ.2 0, 14, .inl (aN (upN (cpS ed (gS ss) k0) k0 (ss (4 + k0))))))] H := hP
          have hD : va_D A [(ma, .inr (7, [.ref ms, .int (nI sn0), .ref mk, .int (nI tw0), .ref mt, .int (nI ty0), .ref mb, .int (bI il0), .ref me, .ref mr, .int (nI my0), .ref mq, .ref mp, .ref mw, .ref mc])), (ms, .inl (Γ.2 0, 162, .inl (aN ss))), (mb, .inl (Γ.2 0, 16384, .inl (aN tb))), (me, .inl (Γ.2 0, 14, .inl (aN (upN (cpS ed (gS ss) k0) k0 (ss (4 + k0))))))] := hD
          refine lv_iinc (v := (nI (k0 + 1))) (lv' := [(2, .int (nI (k0 + 1))), (0, .ref ma), (1, .int (nI S0))]) hx hb dX7_of_29 hl (k := 0) rfl (nI_1 _) (by decide) rfl (fun ls hl => ?_)
          refine lv_goto (tgt := 9) hx hb dX7_of_32 (by decide) ?_
          exact ih9 (k0 + 1) (by first | omega | assumption) (by omega) _ _ (cp_w hP (by rw [← cpS_s]; rfl)) (va_D_fst (by rfl) hD) hS ls (lv_sub hl [0, 1, 2] rfl)
    exact LP9 ((14 - 0) + 1) 0 (by first | omega | assumption) (Nat.lt_succ_self _) _ _ (cp_w hP (by rw [cpS_0])) (va_D_fst (by rfl) hD) hS ls (lv_sub hl [0, 1, 2] rfl)
set_option maxHeartbeats 8000000 in
set_option maxRecDepth 100000 in
theorem c_X7_valueOf (l : Launch) (Γ : kG) (ma : Nat) (ms : Nat) (sn0 : Nat) (mk : Nat) (tw0 : Nat) (mt : Nat) (ty0 : Nat) (mb : Nat) (il0 : Bool) (me : Nat) (mr : Nat) (my0 : Nat) (mq : Nat) (mp : Nat) (mw : Nat) (mc : Nat) (ss : Nat → Nat) (tb : Nat → Nat) (ed : Nat → Nat) (S0 : Nat) (h0 : ss 0 ≤ 14) (hS0 : S0 < 2 ^ ss 0) (htb : tbLt tb) (hil : il0 = true → tbOk (gS ss) tb (2 ^ ss 0)) : WRi l yX7_valueOf (wsq yX7_valueOf cX7_valueOf 2 (some .int)) (rmL 5) Γ [.ref ma, .int (nI S0)] [(ma, .inr (7, [.ref ms, .int (nI sn0), .ref mk, .int (nI tw0), .ref mt, .int (nI ty0), .ref mb, .int (bI il0), .ref me, .ref mr, .int (nI my0), .ref mq, .ref mp, .ref mw, .ref mc])), (ms, .inl (Γ.2 0, 162, .inl (aN ss))), (mb, .inl (Γ.2 0, 16384, .inl (aN tb))), (me, .inl (Γ.2 0, 14, .inl (aN ed)))] (fun u : (Nat → Nat) × (Nat → Nat) => [(ma, .inr (7, [.ref ms, .int (nI sn0), .ref mk, .int (nI tw0), .ref mt, .int (nI ty0), .ref mb, .int (bI true), .ref me, .ref mr, .int (nI my0), .ref mq, .ref mp, .ref mw, .ref mc])), (ms, .inl (Γ.2 0, 162, .inl (aN ss))), (mb, .inl (Γ.2 0, 16384, .inl (aN u.1))), (me, .inl (Γ.2 0, 14, .inl (aN u.2)))]) (fun (r : Int32) (u : (Nat → Nat) × (Nat → Nat)) => r = (nI (V (gS ss) S0)) ∧ tbOk (gS ss) u.1 (2 ^ ss 0) ∧ tbLt u.1) := by
  refine wr_ofi (cc := cX7_valueOf) (maxL := 2) (by decide +kernel) (Nat.le_of_ble_eq_true rfl) rfl ?_
  intro p ev R st mi args below meth cd Q A ls C0 hR hret hP hD hS hl
  obtain ⟨hx, hb, hr, hml, hown, hts, hlk, hK, hnm⟩ := C0
  have hown : st.vm.findClass RX7 = some mi.cls := hown
  refine lv_aload_n hx hb dX7_valueOf_0 rfl (lv_at hl 0 rfl) ?_
  refine lv_iload_n hx hb dX7_valueOf_1 rfl (lv_at hl 1 rfl) ?_
  refine wr_fini (va_runV (As := [.int (nI S0)]) (rest := []) ⟨hx, hb, hml, hown, hts⟩ (c_X7_of l Γ ma ms sn0 mk tw0 mt ty0 mb il0 me mr my0 mq mp mw mc ss tb ed S0 (by first | omega | assumption) (by first | omega | assumption) (by first | omega | assumption) (by first | omega | assumption)) (kcwV 1 hts kv_X7_of mw_445 (rm_le hR (Nat.le_of_ble_eq_true rfl) (Nat.le_of_ble_eq_true rfl))) (kPw_V hK (va_recv hK.1 hP (ci := 7) (q0 := 0) rfl rfl) (hP.sub (ws' := [(ma, .inr (7, [.ref ms, .int (nI sn0), .ref mk, .int (nI tw0), .ref mt, .int (nI ty0), .ref mb, .int (bI il0), .ref me, .ref mr, .int (nI my0), .ref mq, .ref mp, .ref mw, .ref mc])), (ms, .inl (Γ.2 0, 162, .inl (aN ss))), (mb, .inl (Γ.2 0, 16384, .inl (aN tb))), (me, .inl (Γ.2 0, 14, .inl (aN ed)))]) [0, 1, 2, 3] rfl) (hD.sub (ws' := [(ma, .inr (7, [.ref ms, .int (nI sn0), .ref mk, .int (nI tw0), .ref mt, .int (nI ty0), .ref mb, .int (bI il0), .ref me, .ref mr, .int (nI my0), .ref mq, .ref mp, .ref mw, .ref mc])), (ms, .inl (Γ.2 0, 162, .inl (aN ss))), (mb, .inl (Γ.2 0, 16384, .inl (aN tb))), (me, .inl (Γ.2 0, 14, .inl (aN ed)))]) [0, 1, 2, 3] (by decide) rfl)) rfl rfl hl.1 rfl (lv_room (Nat.le_of_ble_eq_true rfl)) dX7_valueOf_2 ⟨Nat.zero_le _, Nat.zero_le _⟩) hP hD hS [0, 1, 2, 3] rfl (fun _ => rfl) (fun r u H locs hw hP hD hS => ?_)
  obtain ⟨t7, e7⟩ := u
  obtain ⟨rfl, hq8, hr8⟩ := hw
  have hP : va_P Γ.1 vwCl [(ma, .inr (7, [.ref ms, .int (nI sn0), .ref mk, .int (nI tw0), .ref mt, .int (nI ty0), .ref mb, .int (bI true), .ref me, .ref mr, .int (nI my0), .ref mq, .ref mp, .ref mw, .ref mc])), (ms, .inl (Γ.2 0, 162, .inl (aN ss))), (mb, .inl (Γ.2 0, 16384, .inl (aN t7))), (me, .inl (Γ.2 0, 14, .inl (aN e7)))] H := hP
  have hD : va_D A [(ma, .inr (7, [.ref ms, .int (nI sn0), .ref mk, .int (nI tw0), .ref mt, .int (nI ty0), .ref mb, .int (bI true), .ref me, .ref mr, .int (nI my0), .ref mq, .ref mp, .ref mw, .ref mc])), (ms, .inl (Γ.2 0, 162, .inl (aN ss))), (mb, .inl (Γ.2 0, 16384, .inl (aN t7))), (me, .inl (Γ.2 0, 14, .inl (aN e7)))] := hD
  refine lv_bipush (v := (nI 15)) hx hb dX7_valueOf_5 (by decide) ?_
  refine lv_iand hx hb dX7_valueOf_7 ?_
  refine tp_i (y := (nI ((T (gS ss) S0) &&& 15))) (ni_and _ _) ?_
  exact hret (t7, e7) hP hS (⟨rfl, hq8, hr8⟩) dX7_valueOf_8
