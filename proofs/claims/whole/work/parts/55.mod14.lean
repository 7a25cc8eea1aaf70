set_option maxHeartbeats 8000000 in
set_option maxRecDepth 100000 in
theorem c_X7_codeOf (l : Launch) (Γ : kG) (ma : Nat) (ms : Nat) (sn0 : Nat) (mk : Nat) (tw0 : Nat) (mt : Nat) (ty0 : Nat) (mb : Nat) (il0 : Bool) (me : Nat) (mr : Nat) (my0 : Nat) (mq : Nat) (mp : Nat) (mw : Nat) (mc : Nat) (ss : Nat → Nat) (qu : Nat → Nat) (pj : Nat → Int32) (wj : Nat → Int32) (cj : Nat → Int64) (T0 : Nat) (h0 : ss 0 ≤ 14) (hT0 : T0 < 2 ^ ss 0) (hfg : FG (gS ss)) : WRl l yX7_codeOf (wsq yX7_codeOf cX7_codeOf 7 (some .long)) (rmL 3) Γ [.ref ma, .int (nI T0)] [(ma, .inr (7, [.ref ms, .int (nI sn0), .ref mk, .int (nI tw0), .ref mt, .int (nI ty0), .ref mb, .int (bI il0), .ref me, .ref mr, .int (nI my0), .ref mq, .ref mp, .ref mw, .ref mc])), (ms, .inl (Γ.2 0, 162, .inl (aN ss))), (mq, .inl (Γ.2 0, 14, .inl (aN qu))), (mp, .inl (Γ.2 0, 14, .inl pj)), (mw, .inl (Γ.2 0, 14, .inl wj)), (mc, .inl (Γ.2 3, 14, .inr (.inl cj)))] (fun u : (Nat → Nat) × (Nat → Int32) × (Nat → Int32) × (Nat → Int64) => [(ma, .inr (7, [.ref ms, .int (nI sn0), .ref mk, .int (nI tw0), .ref mt, .int (nI ty0), .ref mb, .int (bI il0), .ref me, .ref mr, .int (nI my0), .ref mq, .ref mp, .ref mw, .ref mc])), (ms, .inl (Γ.2 0, 162, .inl (aN ss))), (mq, .inl (Γ.2 0, 14, .inl (aN u.1))), (mp, .inl (Γ.2 0, 14, .inl u.2.1)), (mw, .inl (Γ.2 0, 14, .inl u.2.2.1)), (mc, .inl (Γ.2 3, 14, .inr (.inl u.2.2.2)))]) (fun (r : Int64) (u : (Nat → Nat) × (Nat → Int32) × (Nat → Int32) × (Nat → Int64)) => r = (lN (mxC (gS ss) T0 (ss 0)))) := by
  refine wr_ofl (cc := cX7_codeOf) (maxL := 7) (by decide +kernel) (Nat.le_of_ble_eq_true rfl) rfl ?_
  intro p ev R st mi args below meth cd Q A ls C0 hR hret hP hD hS hl
  obtain ⟨hx, hb, hr, hml, hown, hts, hlk, hK, hnm⟩ := C0
  have hown : st.vm.findClass RX7 = some mi.cls := hown
  have hT9 := w14 hT0 h0
  refine lv_lconst (v := lN 0) hx hb dX7_codeOf_0 rfl ?_
  refine lv_lstore_n (lv' := [(2, .long (lN 0)), (0, .ref ma), (1, .int (nI T0))]) hx hb dX7_codeOf_1 rfl hl (by decide) rfl (fun ls hl => ?_)
  refine lv_iconst (v := (nI 0)) hx hb dX7_codeOf_2 (by decide) ?_
  refine lv_istore (lv' := [(4, .int (nI 0)), (2, .long (lN 0)), (0, .ref ma), (1, .int (nI T0))]) hx hb dX7_codeOf_3 hl (by decide) rfl (fun ls hl => ?_)
  have LP5 : ∀ (fu : Nat) (k1 : Nat) (q8 : Nat → Nat) (p8 : Nat → Int32) (w8 : Nat → Int32) (c8 : Nat → Int64) (hk1 : k1 ≤ ss 0), (ss 0 - k1) < fu → ∀ (H : Heap) (locs : List Loc), va_P Γ.1 vwCl [(ma, .inr (7, [.ref ms, .int (nI sn0), .ref mk, .int (nI tw0), .ref mt, .int (nI ty0), .ref mb, .int (bI il0), .ref me, .ref mr, .int (nI my0), .ref mq, .ref mp, .ref mw, .ref mc])), (ms, .inl (Γ.2 0, 162, .inl (aN ss))), (mq, .inl (Γ.2 0, 14, .inl (aN q8))), (mp, .inl (Γ.2 0, 14, .inl p8)), (mw, .inl (Γ.2 0, 14, .inl w8)), (mc, .inl (Γ.2 3, 14, .inr (.inl c8)))] H → va_D A [(ma, .inr (7, [.ref ms, .int (nI sn0), .ref mk, .int (nI tw0), .ref mt, .int (nI ty0), .ref mb, .int (bI il0), .ref me, .ref mr, .int (nI my0), .ref mq, .ref mp, .ref mw, .ref mc])), (ms, .inl (Γ.2 0, 162, .inl (aN ss))), (mq, .inl (Γ.2 0, 14, .inl (aN q8))), (mp, .inl (Γ.2 0, 14, .inl p8)), (mw, .inl (Γ.2 0, 14, .inl w8)), (mc, .inl (Γ.2 3, 14, .inr (.inl c8)))] → va_S A st.heap H locs → ∀ (ls : Array Slot), lv_has ls 7 [(4, .int (nI k1)), (2, .long (lN (mxC (gS ss) T0 k1))), (0, .ref ma), (1, .int (nI T0))] → W p l ev R st mi args below meth cd H locs 0 0 Q (F0 mi 5 ls []) := by
    intro fu
    induction fu with
    | zero => intro k1 q8 p8 w8 c8 hk1 hfu; exact absurd hfu (Nat.not_lt_zero _)
    | succ fu ih5 =>
      intro k1 q8 p8 w8 c8 hk1 hfu H locs hP hD hS ls hl
      refine lv_iload hx hb dX7_codeOf_5 (lv_at hl 0 rfl) ?_
      refine lv_aload_n hx hb dX7_codeOf_7 rfl (lv_at hl 2 rfl) ?_
      refine va_get (D := Γ.1) (ci := 7) (v := .ref ms) (C := RX7) (T := TX7) (N := 15) hx hb hts hinX7 hown hK.1 hP 0 rfl rfl 0 (by decide) (hts _ mw_400) (fun _ h9 => h9) rfl dX7_codeOf_8 ?_
      refine lv_iconst (v := (nI 0)) hx hb dX7_codeOf_11 (by decide) ?_
      refine iald_N hx hb hK.1 hP 1 0 rfl rfl (by omega) (by first | decide | assumption) dX7_codeOf_12 ?_
      refine nb_icmp_ge (tgt := 55) hx hb (by first | omega | assumption) (by first | omega | assumption) dX7_codeOf_13 (by decide) (fun c_13 => ?_) (fun c_13 => ?_)
      · skip
        have he9 : ss 0 = k1 := by omega
        subst he9
        refine lv_lload_n hx hb dX7_codeOf_55 rfl (lv_at hl 1 rfl) ?_
        exact hret (q8, p8, w8, c8) hP hS (rfl) dX7_codeOf_56
      · skip
        refine lv_iload_n hx hb dX7_codeOf_16 rfl (lv_at hl 3 rfl) ?_
        refine lv_iload hx hb dX7_codeOf_17 (lv_at hl 0 rfl) ?_
        refine lv_ishr hx hb dX7_codeOf_19 ?_
        refine tp_i (y := (nI (T0 >>> k1))) (ni_shr (by omega) (by omega)) ?_
        refine lv_iconst (v := (nI 1)) hx hb dX7_codeOf_20 (by decide) ?_
        refine lv_iand hx hb dX7_codeOf_21 ?_
        refine tp_i (y := (nI ((Nat.testBit T0 k1).toNat))) (ni_bit _ _) ?_
        refine lv_iconst (v := (nI 1)) hx hb dX7_codeOf_22 (by decide) ?_
        refine nb_icmp_ne (tgt := 49) hx hb (tn_lt _) (by omega) dX7_codeOf_23 (by decide) (fun c_23 => ?_) (fun c_23 => ?_)
        · skip
          have hb9 : T0.testBit k1 = false := ts_f (fun q9 => c_23 (tn_1.mpr q9))
          have hl : lv_has ls 7 [(4, .int (nI k1)), (2, .long (lN (mxC (gS ss) T0 (k1 + 1)))), (0, .ref ma), (1, .int (nI T0))] := lv_cast hl (by rw [mxC, if_f hb9])
          refine lv_iinc (v := (nI (k1 + 1))) (lv' := [(4, .int (nI (k1 + 1))), (2, .long (lN (mxC (gS ss) T0 (k1 + 1)))), (0, .ref ma), (1, .int (nI T0))]) hx hb dX7_codeOf_49 hl (k := 0) rfl (nI_1 _) (by decide) rfl (fun ls hl => ?_)
          refine lv_goto (tgt := 5) hx hb dX7_codeOf_52 (by decide) ?_
          exact ih5 (k1 + 1) q8 p8 w8 c8 (by first | omega | assumption) (by omega) _ _ hP hD hS ls (lv_sub hl [0, 1, 2, 3] rfl)
        · skip
          have hb9 : T0.testBit k1 = true := tn_1.mp c_23
          refine lv_aload_n hx hb dX7_codeOf_26 rfl (lv_at hl 2 rfl) ?_
          refine lv_iload hx hb dX7_codeOf_27 (lv_at hl 0 rfl) ?_
          refine lv_iload_n hx hb dX7_codeOf_29 rfl (lv_at hl 3 rfl) ?_
          refine wr_finl (va_runV (As := [.int (nI k1), .int (nI T0)]) (rest := []) ⟨hx, hb, hml, hown, hts⟩ (c_X7_codeFrom l Γ ma ms sn0 mk tw0 mt ty0 mb il0 me mr my0 mq mp mw mc ss q8 p8 w8 c8 k1 T0 (by first | omega | assumption) (by first | omega | assumption) (hb9) (by first | omega | assumption)) (kcwV 2 hts kv_X7_codeFrom mw_462 (rm_le hR (Nat.le_of_ble_eq_true rfl) (Nat.le_of_ble_eq_true rfl))) (kPw_V hK (va_recv hK.1 hP (ci := 7) (q0 := 0) rfl rfl) (hP.sub (ws' := [(ma, .inr (7, [.ref ms, .int (nI sn0), .ref mk, .int (nI tw0), .ref mt, .int (nI ty0), .ref mb, .int (bI il0), .ref me, .ref mr, .int (nI my0), .ref mq, .ref mp, .ref mw, .ref mc])), (ms, .inl (Γ.2 0, 162, .inl (aN ss))), (mq, .inl (Γ.2 0, 14, .inl (aN q8))), (mp, .inl (Γ.2 0, 14, .inl p8)), (mw, .inl (Γ.2 0, 14, .inl w8)), (mc, .inl (Γ.2 3, 14, .inr (.inl c8)))]) [0, 1, 2, 3, 4, 5] rfl) (hD.sub (ws' := [(ma, .inr (7, [.ref ms, .int (nI sn0), .ref mk, .int (nI tw0), .ref mt, .int (nI ty0), .ref mb, .int (bI il0), .ref me, .ref mr, .int (nI my0), .ref mq, .ref mp, .ref mw, .ref mc])), (ms, .inl (Γ.2 0, 162, .inl (aN ss))), (mq, .inl (Γ.2 0, 14, .inl (aN q8))), (mp, .inl (Γ.2 0, 14, .inl p8)), (mw, .inl (Γ.2 0, 14, .inl w8)), (mc, .inl (Γ.2 3, 14, .inr (.inl c8)))]) [0, 1, 2, 3, 4, 5] (by decide) rfl)) rfl rfl hl.1 rfl (lv_room (Nat.le_of_ble_eq_true rfl)) dX7_codeOf_30 ⟨Nat.zero_le _, Nat.zero_le _⟩) hP hD hS [0, 1, 2, 3, 4, 5] rfl (fun _ => rfl) (fun r u H locs hw hP hD hS => ?_)
          obtain ⟨q7, p7, w7, c7⟩ := u
          obtain rfl := hw
          have hP : va_P Γ.1 vwCl [(ma, .inr (7, [.ref ms, .int (nI sn0), .ref mk, .int (nI tw0), .ref mt, .int (nI ty0), .ref mb, .int (bI il0), .ref me, .ref mr, .int (nI my0), .ref mq, .ref mp, .ref mw, .ref mc])), (ms, .inl (Γ.2 0, 162, .inl (aN ss))), (mq, .inl (Γ.2 0, 14, .inl (aN q7))), (mp, .inl (Γ.2 0, 14, .inl p7)), (mw, .inl (Γ.2 0, 14, .inl w7)), (mc, .inl (Γ.2 3, 14, .inr (.inl c7)))] H := hP
          have hD : va_D A [(ma, .inr (7, [.ref ms, .int (nI sn0), .ref mk, .int (nI tw0), .ref mt, .int (nI ty0), .ref mb, .int (bI il0), .ref me, .ref mr, .int (nI my0), .ref mq, .ref mp, .ref mw, .ref mc])), (ms, .inl (Γ.2 0, 162, .inl (aN ss))), (mq, .inl (Γ.2 0, 14, .inl (aN q7))), (mp, .inl (Γ.2 0, 14, .inl p7)), (mw, .inl (Γ.2 0, 14, .inl w7)), (mc, .inl (Γ.2 3, 14, .inr (.inl c7)))] := hD
          refine lv_lstore (lv' := [(5, .long (lN (CD (gS ss) T0 k1))), (4, .int (nI k1)), (2, .long (lN (mxC (gS ss) T0 k1))), (0, .ref ma), (1, .int (nI T0))]) hx hb dX7_codeOf_33 hl (by decide) rfl (fun ls hl => ?_)
          refine lv_lload hx hb dX7_codeOf_35 (lv_at hl 0 rfl) ?_
          refine lv_lload_n hx hb dX7_codeOf_37 rfl (lv_at hl 2 rfl) ?_
          have hl1 := CD_lt hfg hT9 hb9
          have hl2 := mxC_lt hfg hT9 k1
          refine lv_lcmp hx hb dX7_codeOf_38 ?_
          refine tp_i (y := cmpN (CD (gS ss) T0 k1) (mxC (gS ss) T0 k1)) (cmp_N (by omega) (by omega)) ?_
          refine lv_if_le (tgt := 47) hx hb dX7_codeOf_39 (by decide) (fun c_39 => ?_) (fun c_39 => ?_)
          · skip
            refine lv_lload_n hx hb dX7_codeOf_47 rfl (lv_at hl 2 rfl) ?_
            refine tp_l (y := (lN (mxC (gS ss) T0 (k1 + 1)))) (by rw [mxC, if_t hb9, Nat.max_eq_left (cmpN_le.mp c_39)]) ?_
            refine lv_lstore_n (lv' := [(2, .long (lN (mxC (gS ss) T0 (k1 + 1)))), (5, .long (lN (CD (gS ss) T0 k1))), (4, .int (nI k1)), (0, .ref ma), (1, .int (nI T0))]) hx hb dX7_codeOf_48 rfl hl (by decide) rfl (fun ls hl => ?_)
            refine lv_iinc (v := (nI (k1 + 1))) (lv' := [(4, .int (nI (k1 + 1))), (2, .long (lN (mxC (gS ss) T0 (k1 + 1)))), (5, .long (lN (CD (gS ss) T0 k1))), (0, .ref ma), (1, .int (nI T0))]) hx hb dX7_codeOf_49 hl (k := 2) rfl (nI_1 _) (by decide) rfl (fun ls hl => ?_)
            refine lv_goto (tgt := 5) hx hb dX7_codeOf_52 (by decide) ?_
            exact ih5 (k1 + 1) q7 p7 w7 c7 (by first | omega | assumption) (by omega) _ _ hP hD hS ls (lv_sub hl [0, 1, 3, 4] rfl)
          · skip
            refine lv_lload hx hb dX7_codeOf_42 (lv_at hl 0 rfl) ?_
            refine tp_l (y := (lN (mxC (gS ss) T0 (k1 + 1)))) (by rw [mxC, if_t hb9, Nat.max_eq_right (by have h9 : ¬ CD (gS ss) T0 k1 ≤ mxC (gS ss) T0 k1 := fun q9 => c_39 (cmpN_le.mpr q9); omega)]) ?_
            refine lv_goto (tgt := 48) hx hb dX7_codeOf_44 (by decide) ?_
            refine lv_lstore_n (lv' := [(2, .long (lN (mxC (gS ss) T0 (k1 + 1)))), (5, .long (lN (CD (gS ss) T0 k1))), (4, .int (nI k1)), (0, .ref ma), (1, .int (nI T0))]) hx hb dX7_codeOf_48 rfl hl (by decide) rfl (fun ls hl => ?_)
            refine lv_iinc (v := (nI (k1 + 1))) (lv' := [(4, .int (nI (k1 + 1))), (2, .long (lN (mxC (gS ss) T0 (k1 + 1)))), (5, .long (lN (CD (gS ss) T0 k1))), (0, .ref ma), (1, .int (nI T0))]) hx hb dX7_codeOf_49 hl (k := 2) rfl (nI_1 _) (by decide) rfl (fun ls hl => ?_)
            refine lv_goto (tgt := 5) hx hb dX7_codeOf_52 (by decide) ?_
            exact ih5 (k1 + 1) q7 p7 w7 c7 (by first | omega | assumption) (by omega) _ _ hP hD hS ls (lv_sub hl [0, 1, 3, 4] rfl)
  exact LP5 ((ss 0 - 0) + 1) 0 qu pj wj cj (by first | omega | assumption) (Nat.lt_succ_self _) _ _ hP hD hS ls (lv_cast (lv_sub hl [0, 1, 2, 3] rfl) (by rfl))
set_option maxHeartbeats 8000000 in
set_option maxRecDepth 100000 in
theorem c_X7_classOf (l : Launch) (Γ : kG) (ma : Nat) (ms : Nat) (sn0 : Nat) (mk : Nat) (tw0 : Nat) (mt : Nat) (ty0 : Nat) (mb : Nat) (il0 : Bool) (me : Nat) (mr : Nat) (my0 : Nat) (mq : Nat) (mp : Nat) (mw : Nat) (mc : Nat) (ss : Nat → Nat) (tr : Nat → Nat) (qu : Nat → Nat) (pj : Nat → Int32) (wj : Nat → Int32) (cj : Nat → Int64) (t0 : Nat) (h0 : ss 0 ≤ 14) (hfg : FG (gS ss)) (ht0 : t0 < 14) (htr : ∀ i, i ≤ t0 → tr i < 2 ^ ss 0) : WRi l yX7_classOf (wsq yX7_classOf cX7_classOf 6 (some .int)) (rmL 4) Γ [.ref ma, .int (nI t0)] [(ma, .inr (7, [.ref ms, .int (nI sn0), .ref mk, .int (nI tw0), .ref mt, .int (nI ty0), .ref mb, .int (bI il0), .ref me, .ref mr, .int (nI my0), .ref mq, .ref mp, .ref mw, .ref mc])), (ms, .inl (Γ.2 0, 162, .inl (aN ss))), (mr, .inl (Γ.2 0, 14, .inl (aN tr))), (mq, .inl (Γ.2 0, 14, .inl (aN qu))), (mp, .inl (Γ.2 0, 14, .inl pj)), (mw, .inl (Γ.2 0, 14, .inl wj)), (mc, .inl (Γ.2 3, 14, .inr (.inl cj)))] (fun u : (Nat → Nat) × (Nat → Int32) × (Nat → Int32) × (Nat → Int64) => [(ma, .inr (7, [.ref ms, .int (nI sn0), .ref mk, .int (nI tw0), .ref mt, .int (nI ty0), .ref mb, .int (bI il0), .ref me, .ref mr, .int (nI my0), .ref mq, .ref mp, .ref mw, .ref mc])), (ms, .inl (Γ.2 0, 162, .inl (aN ss))), (mr, .inl (Γ.2 0, 14, .inl (aN tr))), (mq, .inl (Γ.2 0, 14, .inl (aN u.1))), (mp, .inl (Γ.2 0, 14, .inl u.2.1)), (mw, .inl (Γ.2 0, 14, .inl u.2.2.1)), (mc, .inl (Γ.2 3, 14, .inr (.inl u.2.2.2)))]) (fun (r : Int32) (u : (Nat → Nat) × (Nat → Int32) × (Nat → Int32) × (Nat → Int64)) => r = (nI (alk (gS ss) tr (ss 0) t0))) := by
  refine wr_ofi (cc := cX7_classOf) (maxL := 6) (by decide +kernel) (Nat.le_of_ble_eq_true rfl) rfl ?_
  intro p ev R st mi args below meth cd Q A ls C0 hR hret hP hD hS hl
  obtain ⟨hx, hb, hr, hml, hown, hts, hlk, hK, hnm⟩ := C0
  have hown : st.vm.findClass RX7 = some mi.cls := hown
  have hp14 := pow_15 h0
  have hq0 : (fun k => decide (mxC (gS ss) (tr k) (ss 0) = mxC (gS ss) (tr t0) (ss 0))) t0 = true := decide_eq_true rfl
  refine lv_aload_n hx hb dX7_classOf_0 rfl (lv_at hl 0 rfl) ?_
  refine lv_aload_n hx hb dX7_classOf_1 rfl (lv_at hl 0 rfl) ?_
  refine va_get (D := Γ.1) (ci := 7) (v := .ref mr) (C := RX7) (T := TX7) (N := 15) hx hb hts hinX7 hown hK.1 hP 0 rfl rfl 9 (by decide) (hts _ mw_406) (fun _ h9 => h9) rfl dX7_classOf_2 ?_
  refine lv_iload_n hx hb dX7_classOf_5 rfl (lv_at hl 1 rfl) ?_
  refine iald_N hx hb hK.1 hP 2 0 rfl rfl (by omega) (by first | decide | assumption) dX7_classOf_6 ?_
  refine wr_finl (va_runV (As := [.int (nI (tr t0))]) (rest := []) ⟨hx, hb, hml, hown, hts⟩ (c_X7_codeOf l Γ ma ms sn0 mk tw0 mt ty0 mb il0 me mr my0 mq mp mw mc ss qu pj wj cj (tr t0) (by first | omega | assumption) (htr t0 (Nat.le_refl _)) (by first | omega | assumption)) (kcwV 1 hts kv_X7_codeOf mw_466 (rm_le hR (Nat.le_of_ble_eq_true rfl) (Nat.le_of_ble_eq_true rfl))) (kPw_V hK (va_recv hK.1 hP (ci := 7) (q0 := 0) rfl rfl) (hP.sub (ws' := [(ma, .inr (7, [.ref ms, .int (nI sn0), .ref mk, .int (nI tw0), .ref mt, .int (nI ty0), .ref mb, .int (bI il0), .ref me, .ref mr, .int (nI my0), .ref mq, .ref mp, .ref mw, .ref mc])), (ms, .inl (Γ.2 0, 162, .inl (aN ss))), (mq, .inl (Γ.2 0, 14, .inl (aN qu))), (mp, .inl (Γ.2 0, 14, .inl pj)), (mw, .inl (Γ.2 0, 14, .inl wj)), (mc, .inl (Γ.2 3, 14, .inr (.inl cj)))]) [0, 1, 3, 4, 5, 6] rfl) (hD.sub (ws' := [(ma, .inr (7, [.ref ms, .int (nI sn0), .ref mk, .int (nI tw0), .ref mt, .int (nI ty0), .ref mb, .int (bI il0), .ref me, .ref mr, .int (nI my0), .ref mq, .ref mp, .ref mw, .ref mc])), (ms, .inl (Γ.2 0, 162, .inl (aN ss))), (mq, .inl (Γ.2 0, 14, .inl (aN qu))), (mp, .inl (Γ.2 0, 14, .inl pj)), (mw, .inl (Γ.2 0, 14, .inl wj)), (mc, .inl (Γ.2 3, 14, .inr (.inl cj)))]) [0, 1, 3, 4, 5, 6] (by decide) rfl)) rfl rfl hl.1 rfl (lv_room (Nat.le_of_ble_eq_true rfl)) dX7_classOf_7 ⟨Nat.zero_le _, Nat.zero_le _⟩) hP hD hS [0, 1, 3, 4, 5, 6] rfl (fun _ => rfl) (fun r u H locs hw hP hD hS => ?_)
  obtain ⟨q6, p6, w6, c6⟩ := u
  obtain rfl := hw
  have hP : va_P Γ.1 vwCl [(ma, .inr (7, [.ref ms, .int (nI sn0), .ref mk, .int (nI tw0), .ref mt, .int (nI ty0), .ref mb, .int (bI il0), .ref me, .ref mr, .int (nI my0), .ref mq, .ref mp, .ref mw, .ref mc])), (ms, .inl (Γ.2 0, 162, .inl (aN ss))), (mr, .inl (Γ.2 0, 14, .inl (aN tr))), (mq, .inl (Γ.2 0, 14, .inl (aN q6))), (mp, .inl (Γ.2 0, 14, .inl p6)), (mw, .inl (Γ.2 0, 14, .inl w6)), (mc, .inl (Γ.2 3, 14, .inr (.inl c6)))] H := hP
  have hD : va_D A [(ma, .inr (7, [.ref ms, .int (nI sn0), .ref mk, .int (nI tw0), .ref mt, .int (nI ty0), .ref mb, .int (bI il0), .ref me, .ref mr, .int (nI my0), .ref mq, .ref mp, .ref mw, .ref mc])), (ms, .inl (Γ.2 0, 162, .inl (aN ss))), (mr, .inl (Γ.2 0, 14, .inl (aN tr))), (mq, .inl (Γ.2 0, 14, .inl (aN q6))), (mp, .inl (Γ.2 0, 14, .inl p6)), (mw, .inl (Γ.2 0, 14, .inl w6)), (mc, .inl (Γ.2 3, 14, .inr (.inl c6)))] := hD
  refine lv_lstore_n (lv' := [(2, .long (lN (mxC (gS ss) (tr t0) (ss 0)))), (0, .ref ma), (1, .int (nI t0))]) hx hb dX7_classOf_10 rfl hl (by decide) rfl (fun ls hl => ?_)
  refine lv_iload_n hx hb dX7_classOf_11 rfl (lv_at hl 2 rfl) ?_
  refine lv_istore (lv' := [(4, .int (nI t0)), (2, .long (lN (mxC (gS ss) (tr t0) (ss 0)))), (0, .ref ma), (1, .int (nI t0))]) hx hb dX7_classOf_12 hl (by decide) rfl (fun ls hl => ?_)
  refine lv_iload_n hx hb dX7_classOf_14 rfl (lv_at hl 3 rfl) ?_
  refine lv_istore (lv' := [(5, .int (nI t0)), (4, .int (nI t0)), (2, .long (lN (mxC (gS ss) (tr t0) (ss 0)))), (0, .ref ma), (1, .int (nI t0))]) hx hb dX7_classOf_15 hl (by decide) rfl (fun ls hl => ?_)
  have LP17 : ∀ (fu : Nat) (d1 : Nat) (q8 : Nat → Nat) (p8 : Nat → Int32) (w8 : Nat → Int32) (c8 : Nat → Int64) (hd1 : d1 ≤ t0 + 1), (t0 + 1 - d1) < fu → ∀ (H : Heap) (locs : List Loc), va_P Γ.1 vwCl [(ma, .inr (7, [.ref ms, .int (nI sn0), .ref mk, .int (nI tw0), .ref mt, .int (nI ty0), .ref mb, .int (bI il0), .ref me, .ref mr, .int (nI my0), .ref mq, .ref mp, .ref mw, .ref mc])), (ms, .inl (Γ.2 0, 162, .inl (aN ss))), (mr, .inl (Γ.2 0, 14, .inl (aN tr))), (mq, .inl (Γ.2 0, 14, .inl (aN q8))), (mp, .inl (Γ.2 0, 14, .inl p8)), (mw, .inl (Γ.2 0, 14, .inl w8)), (mc, .inl (Γ.2 3, 14, .inr (.inl c8)))] H → va_D A [(ma, .inr (7, [.ref ms, .int (nI sn0), .ref mk, .int (nI tw0), .ref mt, .int (nI ty0), .ref mb, .int (bI il0), .ref me, .ref mr, .int (nI my0), .ref mq, .ref mp, .ref mw, .ref mc])), (ms, .inl (Γ.2 0, 162, .inl (aN ss))), (mr, .inl (Γ.2 0, 14, .inl (aN tr))), (mq, .inl (Γ.2 0, 14, .inl (aN q8))), (mp, .inl (Γ.2 0, 14, .inl p8)), (mw, .inl (Γ.2 0, 14, .inl w8)), (mc, .inl (Γ.2 3, 14, .inr (.inl c8)))] → va_S A st.heap H locs → ∀ (ls : Array Slot), lv_has ls 6 [(5, .int (dnn (t0 + 1) d1)), (4, .int (nI (fdC (fun k => decide (mxC (gS ss) (tr k) (ss 0) = mxC (gS ss) (tr t0) (ss 0))) t0 d1))), (2, .long (lN (mxC (gS ss) (tr t0) (ss 0)))), (0, .ref ma), (1, .int (nI t0))] → W p l ev R st mi args below meth cd H locs 0 0 Q (F0 mi 17 ls []) := by
    intro fu
    induction fu with
    | zero => intro d1 q8 p8 w8 c8 hd1 hfu; exact absurd hfu (Nat.not_lt_zero _)
    | succ fu ih17 =>
      intro d1 q8 p8 w8 c8 hd1 hfu H locs hP hD hS ls hl
      refine lv_iload hx hb dX7_classOf_17 (lv_at hl 0 rfl) ?_
      refine lv_if_lt (tgt := 53) hx hb dX7_classOf_19 (by decide) (fun c_19 => ?_) (fun c_19 => ?_)
      · skip
        have he9 : t0 + 1 = d1 := ((dnn_neg (by omega) hd1).mp c_19).symm
        subst he9
        refine lv_iload hx hb dX7_classOf_53 (lv_at hl 1 rfl) ?_
        exact hret (q8, p8, w8, c8) hP hS (by rw [fdC_fst hq0]; rfl) dX7_classOf_55
      · skip
        have hd2 : d1 < t0 + 1 := by
          rcases Nat.lt_or_ge d1 (t0 + 1) with z9 | z9
          · exact z9
          · exact absurd ((dnn_neg (by omega) hd1).mpr (by omega)) c_19
        have hl : lv_has ls 6 [(5, .int (nI (t0 - d1))), (4, .int (nI (fdC (fun k => decide (mxC (gS ss) (tr k) (ss 0) = mxC (gS ss) (tr t0) (ss 0))) t0 d1))), (2, .long (lN (mxC (gS ss) (tr t0) (ss 0)))), (0, .ref ma), (1, .int (nI t0))] := lv_cast hl (by rw [dnn_lt hd2, show t0 + 1 - 1 - d1 = t0 - d1 by omega])
        refine lv_aload_n hx hb dX7_classOf_22 rfl (lv_at hl 3 rfl) ?_
        refine lv_aload_n hx hb dX7_classOf_23 rfl (lv_at hl 3 rfl) ?_
        refine va_get (D := Γ.1) (ci := 7) (v := .ref mr) (C := RX7) (T := TX7) (N := 15) hx hb hts hinX7 hown hK.1 hP 0 rfl rfl 9 (by decide) (hts _ mw_406) (fun _ h9 => h9) rfl dX7_classOf_24 ?_
        refine lv_iload hx hb dX7_classOf_27 (lv_at hl 0 rfl) ?_
        refine iald_N hx hb hK.1 hP 2 0 rfl rfl (by omega) (by first | decide | assumption) dX7_classOf_29 ?_
        refine wr_finl (va_runV (As := [.int (nI (tr (t0 - d1)))]) (rest := []) ⟨hx, hb, hml, hown, hts⟩ (c_X7_codeOf l Γ ma ms sn0 mk tw0 mt ty0 mb il0 me mr my0 mq mp mw mc ss q8 p8 w8 c8 (tr (t0 - d1)) (by first | omega | assumption) (htr _ (by omega)) (by first | omega | assumption)) (kcwV 1 hts kv_X7_codeOf mw_466 (rm_le hR (Nat.le_of_ble_eq_true rfl) (Nat.le_of_ble_eq_true rfl))) (kPw_V hK (va_recv hK.1 hP (ci := 7) (q0 := 0) rfl rfl) (hP.sub (ws' := [(ma, .inr (7, [.ref ms, .int (nI sn0), .ref mk, .int (nI tw0), .ref mt, .int (nI ty0), .ref mb, .int (bI il0), .ref me, .ref mr, .int (nI my0), .ref mq, .ref mp, .ref mw, .ref mc])), (ms, .inl (Γ.2 0, 162, .inl (aN ss))), (mq, .inl (Γ.2 0, 14, .inl (aN q8))), (mp, .inl (Γ.2 0, 14, .inl p8)), (mw, .inl (Γ.2 0, 14, .inl w8)), (mc, .inl (Γ.2 3, 14, .inr (.inl c8)))]) [0, 1, 3, 4, 5, 6] rfl) (hD.sub (ws' := [(ma, .inr (7, [.ref ms, .int (nI sn0), .ref mk, .int (nI tw0), .ref mt, .int (nI ty0), .ref mb, .int (bI il0), .ref me, .ref mr, .int (nI my0), .ref mq, .ref mp, .ref mw, .ref mc])), (ms, .inl (Γ.2 0, 162, .inl (aN ss))), (mq, .inl (Γ.2 0, 14, .inl (aN q8))), (mp, .inl (Γ.2 0, 14, .inl p8)), (mw, .inl (Γ.2 0, 14, .inl w8)), (mc, .inl (Γ.2 3, 14, .inr (.inl c8)))]) [0, 1, 3, 4, 5, 6] (by decide) rfl)) rfl rfl hl.1 rfl (lv_room (Nat.le_of_ble_eq_true rfl)) dX7_classOf_30 ⟨Nat.zero_le _, Nat.zero_le _⟩) hP hD hS [0, 1, 3, 4, 5, 6] rfl (fun _ => rfl) (fun r u H locs hw hP hD hS => ?_)
        obtain ⟨q7, p7, w7, c7⟩ := u
        obtain rfl := hw
        have hP : va_P Γ.1 vwCl [(ma, .inr (7, [.ref ms, .int (nI sn0), .ref mk, .int (nI tw0), .ref mt, .int (nI ty0), .ref mb, .int (bI il0), .ref me, .ref mr, .int (nI my0), .ref mq, .ref mp, .ref mw, .ref mc])), (ms, .inl (Γ.2 0, 162, .inl (aN ss))), (mr, .inl (Γ.2 0, 14, .inl (aN tr))), (mq, .inl (Γ.2 0, 14, .inl (aN q7))), (mp, .inl (Γ.2 0, 14, .inl p7)), (mw, .inl (Γ.2 0, 14, .inl w7)), (mc, .inl (Γ.2 3, 14, .inr (.inl c7)))] H := hP
        have hD : va_D A [(ma, .inr (7, [.ref ms, .int (nI sn0), .ref mk, .int (nI tw0), .ref mt, .int (nI ty0), .ref mb, .int (bI il0), .ref me, .ref mr, .int (nI my0), .ref mq, .ref mp, .ref mw, .ref mc])), (ms, .inl (Γ.2 0, 162, .inl (aN ss))), (mr, .inl (Γ.2 0, 14, .inl (aN tr))), (mq, .inl (Γ.2 0, 14, .inl (aN q7))), (mp, .inl (Γ.2 0, 14, .inl p7)), (mw, .inl (Γ.2 0, 14, .inl w7)), (mc, .inl (Γ.2 3, 14, .inr (.inl c7)))] := hD
        refine lv_lload_n hx hb dX7_classOf_33 rfl (lv_at hl 2 rfl) ?_
        have hl1 := mxC_lt hfg (Nat.lt_of_lt_of_le (htr (t0 - d1) (by omega)) hp14) (ss 0)
        have hl2 := mxC_lt hfg (Nat.lt_of_lt_of_le (htr t0 (Nat.le_refl _)) hp14) (ss 0)
        refine lv_lcmp hx hb dX7_classOf_34 ?_
        refine tp_i (y := cmpN (mxC (gS ss) (tr (t0 - d1)) (ss 0)) (mxC (gS ss) (tr t0) (ss 0))) (cmp_N (by omega) (by omega)) ?_
        refine lv_if_ne (tgt := 43) hx hb dX7_classOf_35 (by decide) (fun c_35 => ?_) (fun c_35 => ?_)
        · skip
          refine lv_iload hx hb dX7_classOf_43 (lv_at hl 1 rfl) ?_
          refine tp_i (y := (nI (fdC (fun k => decide (mxC (gS ss) (tr k) (ss 0) = mxC (gS ss) (tr t0) (ss 0))) t0 (d1 + 1)))) (by rw [fdC, if_neg (fun q9 => c_35 (cmpN_0.mpr (of_decide_eq_true q9)))]) ?_
          refine lv_istore (lv' := [(4, .int (nI (fdC (fun k => decide (mxC (gS ss) (tr k) (ss 0) = mxC (gS ss) (tr t0) (ss 0))) t0 (d1 + 1)))), (5, .int (nI (t0 - d1))), (2, .long (lN (mxC (gS ss) (tr t0) (ss 0)))), (0, .ref ma), (1, .int (nI t0))]) hx hb dX7_classOf_45 hl (by decide) rfl (fun ls hl => ?_)
          refine lv_iinc (v := (dnn (t0 + 1) (d1 + 1))) (lv' := [(5, .int (dnn (t0 + 1) (d1 + 1))), (4, .int (nI (fdC (fun k => decide (mxC (gS ss) (tr k) (ss 0) = mxC (gS ss) (tr t0) (ss 0))) t0 (d1 + 1)))), (2, .long (lN (mxC (gS ss) (tr t0) (ss 0)))), (0, .ref ma), (1, .int (nI t0))]) hx hb dX7_classOf_47 hl (k := 1) rfl (by rw [show t0 - d1 = t0 + 1 - 1 - d1 by omega]; exact dnn_s (by omega) hd2) (by decide) rfl (fun ls hl => ?_)
          refine lv_goto (tgt := 17) hx hb dX7_classOf_50 (by decide) ?_
          exact ih17 (d1 + 1) q7 p7 w7 c7 (by first | omega | assumption) (by omega) _ _ hP hD hS ls (lv_sub hl [0, 1, 2, 3, 4] rfl)
        · skip
          refine lv_iload hx hb dX7_classOf_38 (lv_at hl 0 rfl) ?_
          refine tp_i (y := (nI (fdC (fun k => decide (mxC (gS ss) (tr k) (ss 0) = mxC (gS ss) (tr t0) (ss 0))) t0 (d1 + 1)))) (by rw [fdC, if_pos (decide_eq_true (cmpN_0.mp (by first | exact c_35 | exact Decidable.not_not.mp c_35)))]) ?_
          refine lv_goto (tgt := 45) hx hb dX7_classOf_40 (by decide) ?_
          refine lv_istore (lv' := [(4, .int (nI (fdC (fun k => decide (mxC (gS ss) (tr k) (ss 0) = mxC (gS ss) (tr t0) (ss 0))) t0 (d1 + 1)))), (5, .int (nI (t0 - d1))), (2, .long (lN (mxC (gS ss) (tr t0) (ss 0)))), (0, .ref ma), (1, .int (nI t0))]) hx hb dX7_classOf_45 hl (by decide) rfl (fun ls hl => ?_)
          refine lv_iinc (v := (dnn (t0 + 1) (d1 + 1))) (lv' := [(5, .int (dnn (t0 + 1) (d1 + 1))), (4, .int (nI (fdC (fun k => decide (mxC (gS ss) (tr k) (ss 0) = mxC (gS ss) (tr t0) (ss 0))) t0 (d1 + 1)))), (2, .long (lN (mxC (gS ss) (tr t0) (ss 0)))), (0, .ref ma), (1, .int (nI t0))]) hx hb dX7_classOf_47 hl (k := 1) rfl (by rw [show t0 - d1 = t0 + 1 - 1 - d1 by omega]; exact dnn_s (by omega) hd2) (by decide) rfl (fun ls hl => ?_)
          refine lv_goto (tgt := 17) hx hb dX7_classOf_50 (by decide) ?_
          exact ih17 (d1 + 1) q7 p7 w7 c7 (by first | omega | assumption) (by omega) _ _ hP hD hS ls (lv_sub hl [0, 1, 2, 3, 4] rfl)
  exact LP17 ((t0 + 1 - 0) + 1) 0 q6 p6 w6 c6 (by first | omega | assumption) (Nat.lt_succ_self _) _ _ hP hD hS ls (lv_cast (lv_sub hl [0, 1, 2, 3, 4] rfl) (by rw [fdC, dnn_lt (by omega), show t0 + 1 - 1 - 0 = t0 by omega]; rfl))
set_option maxHeartbeats 8000000 in
set_option maxRecDepth 100000 in
theorem c_X7_isMirror (l : Launch) (Γ : kG) (ma : Nat) (ms : Nat) (sn0 : Nat) (mk : Nat) (tw0 : Nat) (mt : Nat) (ty0 : Nat) (mb : Nat) (il0 : Bool) (me : Nat) (mr : Nat) (my0 : Nat) (mq : Nat) (mp : Nat) (mw : Nat) (mc : Nat) (ss : Nat → Nat) (qu : Nat → Nat) (pj : Nat → Int32) (wj : Nat → Int32) (cj : Nat → Int64) (i0 : Nat) (j0 : Nat) (h0 : ss 0 ≤ 14) (h1 : ss 1 < 2 ^ ss 0) (hfg : FG (gS ss)) (hei : (ss 1).testBit i0 = true) (hej : (ss 1).testBit j0 = true) (hee : (gS ss i0).testBit j0 = true) : WRi l yX7_isMirror (wsq yX7_isMirror cX7_isMirror 6 (some .boolean)) (rmL 4) Γ [.ref ma, .int (nI i0), .int (nI j0)] [(ma, .inr (7, [.ref ms, .int (nI sn0), .ref mk, .int (nI tw0), .ref mt, .int (nI ty0), .ref mb, .int (bI il0), .ref me, .ref mr, .int (nI my0), .ref mq, .ref mp, .ref mw, .ref mc])), (ms, .inl (Γ.2 0, 162, .inl (aN ss))), (mq, .inl (Γ.2 0, 14, .inl (aN qu))), (mp, .inl (Γ.2 0, 14, .inl pj)), (mw, .inl (Γ.2 0, 14, .inl wj)), (mc, .inl (Γ.2 3, 14, .inr (.inl cj)))] (fun u : (Nat → Nat) × (Nat → Int32) × (Nat → Int32) × (Nat → Int64) => [(ma, .inr (7, [.ref ms, .int (nI sn0), .ref mk, .int (nI tw0), .ref mt, .int (nI ty0), .ref mb, .int (bI false), .ref me, .ref mr, .int (nI my0), .ref mq, .ref mp, .ref mw, .ref mc])), (ms, .inl (Γ.2 0, 162, .inl (aN ss))), (mq, .inl (Γ.2 0, 14, .inl (aN u.1))), (mp, .inl (Γ.2 0, 14, .inl u.2.1)), (mw, .inl (Γ.2 0, 14, .inl u.2.2.1)), (mc, .inl (Γ.2 3, 14, .inr (.inl u.2.2.2)))]) (fun (r : Int32) (u : (Nat → Nat) × (Nat → Int32) × (Nat → Int32) × (Nat → Int64)) => r = (bI (mrB (gS ss) (ss 1) (ss 0) i0 j0))) := by
  refine wr_ofz (cc := cX7_isMirror) (maxL := 6) (by decide +kernel) (Nat.le_of_ble_eq_true rfl) rfl ?_
  intro p ev R st mi args below meth cd Q A ls C0 hR hret hP hD hS hl
  obtain ⟨hx, hb, hr, hml, hown, hts, hlk, hK, hnm⟩ := C0
  have hown : st.vm.findClass RX7 = some mi.cls := hown
  have hwn := w14 h1 h0
  have hi14 := bit_in hwn hei
  have hj14 := bit_in hwn hej
  have hin := lt_n h1 hei
  have hjn := lt_n h1 hej
  have hne := FG_ne hfg hi14 hee
  have hee2 : (gS ss j0).testBit i0 = true := by rw [← hfg.2.1 i0 hi14 j0 hj14]; exact hee
  obtain ⟨hA1, hA2⟩ := half_comp hfg hwn hei hee
  obtain ⟨hB1, hB2⟩ := half_comp hfg hwn hej hee2
  have hfc := FG_cut hfg hne hi14 hj14
  have hAn : (comp (gS ss) (sd (ss 1) (2 ^ j0)) i0) < 2 ^ ss 0 := sub_lt2 h1 (fun x h => (sd_sub.mp (comp_in (sd_sub.mpr ⟨hei, hne⟩) h)).1)
  have hBn : (comp (gS ss) (sd (ss 1) (2 ^ i0)) j0) < 2 ^ ss 0 := sub_lt2 h1 (fun x h => (sd_sub.mp (comp_in (sd_sub.mpr ⟨hej, fun q => hne q.symm⟩) h)).1)
  have hl1 := mxC_lt hfg (w14 hAn h0) (ss 0)
  have hl2 := mxC_lt hfg (w14 hBn h0) (ss 0)
  refine lv_aload_n hx hb dX7_isMirror_0 rfl (lv_at hl 0 rfl) ?_
  refine lv_iload_n hx hb dX7_isMirror_1 rfl (lv_at hl 1 rfl) ?_
  refine lv_iload_n hx hb dX7_isMirror_2 rfl (lv_at hl 2 rfl) ?_
  refine lv_iconst (v := (nI 0)) hx hb dX7_isMirror_3 (by decide) ?_
  refine wr_finv (va_runV (As := [.int (nI i0), .int (nI j0), .int (nI 0)]) (rest := []) ⟨hx, hb, hml, hown, hts⟩ (c_X7_links l Γ ma ms sn0 mk tw0 mt ty0 mb il0 me mr my0 mq mp mw mc ss i0 j0 false (by first | omega | assumption) (by first | omega | assumption)) (kcwV 3 hts kv_X7_links mw_473 (rm_le hR (Nat.le_of_ble_eq_true rfl) (Nat.le_of_ble_eq_true rfl))) (kPw_V hK (va_recv hK.1 hP (ci := 7) (q0 := 0) rfl rfl) (hP.sub (ws' := [(ma, .inr (7, [.ref ms, .int (nI sn0), .ref mk, .int (nI tw0), .ref mt, .int (nI ty0), .ref mb, .int (bI il0), .ref me, .ref mr, .int (nI my0), .ref mq, .ref mp, .ref mw, .ref mc])), (ms, .inl (Γ.2 0, 162, .inl (aN ss)))]) [0, 1] rfl) (hD.sub (ws' := [(ma, .inr (7, [.ref ms, .int (nI sn0), .ref mk, .int (nI tw0), .ref mt, .int (nI ty0), .ref mb, .int (bI il0), .ref me, .ref mr, .int (nI my0), .ref mq, .ref mp, .ref mw, .ref mc])), (ms, .inl (Γ.2 0, 162, .inl (aN ss)))]) [0, 1] (by decide) rfl)) rfl rfl hl.1 rfl (lv_room (Nat.le_of_ble_eq_true rfl)) dX7_isMirror_4 ⟨Nat.zero_le _, Nat.zero_le _⟩) hP hD hS [0, 1] rfl (fun _ => rfl) (fun _ H locs hw hP hD hS => ?_)
  have hP : va_P Γ.1 vwCl [(ma, .inr (7, [.ref ms, .int (nI sn0), .ref mk, .int (nI tw0), .ref mt, .int (nI ty0), .ref mb, .int (bI false), .ref me, .ref mr, .int (nI my0), .ref mq, .ref mp, .ref mw, .ref mc])), (ms, .inl (Γ.2 0, 162, .inl (aN (lkS ss i0 j0 false)))), (mq, .inl (Γ.2 0, 14, .inl (aN qu))), (mp, .inl (Γ.2 0, 14, .inl pj)), (mw, .inl (Γ.2 0, 14, .inl wj)), (mc, .inl (Γ.2 3, 14, .inr (.inl cj)))] H := hP
  have hD : va_D A [(ma, .inr (7, [.ref ms, .int (nI sn0), .ref mk, .int (nI tw0), .ref mt, .int (nI ty0), .ref mb, .int (bI false), .ref me, .ref mr, .int (nI my0), .ref mq, .ref mp, .ref mw, .ref mc])), (ms, .inl (Γ.2 0, 162, .inl (aN (lkS ss i0 j0 false)))), (mq, .inl (Γ.2 0, 14, .inl (aN qu))), (mp, .inl (Γ.2 0, 14, .inl pj)), (mw, .inl (Γ.2 0, 14, .inl wj)), (mc, .inl (Γ.2 3, 14, .inr (.inl cj)))] := hD
  refine lv_aload_n hx hb dX7_isMirror_7 rfl (lv_at hl 0 rfl) ?_
  refine lv_iload_n hx hb dX7_isMirror_8 rfl (lv_at hl 1 rfl) ?_
  refine lv_aload_n hx hb dX7_isMirror_9 rfl (lv_at hl 0 rfl) ?_
  refine va_get (D := Γ.1) (ci := 7) (v := .ref ms) (C := RX7) (T := TX7) (N := 15) hx hb hts hinX7 hown hK.1 hP 0 rfl rfl 0 (by decide) (hts _ mw_400) (fun _ h9 => h9) rfl dX7_isMirror_10 ?_
  refine lv_iconst (v := (nI 1)) hx hb dX7_isMirror_13 (by decide) ?_
  refine iald_N hx hb hK.1 hP 1 0 rfl rfl (by omega) (by first | decide | assumption) dX7_isMirror_14 ?_
  refine tp_i (y := (nI (ss 1))) (by rw [lkS_lo (by decide)]) ?_
  refine ro_fin (va_runV (As := [.int (nI i0), .int (nI (ss 1))]) (rest := []) ⟨hx, hb, hml, hown, hts⟩ (c_X7_reached l Γ _ ma ms sn0 mk tw0 mt ty0 mb false me mr my0 mq mp mw mc (lkS ss i0 j0 false) i0 (ss 1) (hP.sub (ws' := [(ma, .inr (7, [.ref ms, .int (nI sn0), .ref mk, .int (nI tw0), .ref mt, .int (nI ty0), .ref mb, .int (bI false), .ref me, .ref mr, .int (nI my0), .ref mq, .ref mp, .ref mw, .ref mc])), (ms, .inl (Γ.2 0, 162, .inl (aN (lkS ss i0 j0 false))))]) [0, 1] rfl) (by rw [lkS_lo (by decide)]; exact h0) (by rw [lkS_lo (by decide)]; exact hin) (by rw [lkS_lo (by decide)]; exact h1)) (kcwV 2 hts kv_X7_reached mw_453 (rm_le hR (Nat.le_of_ble_eq_true rfl) (Nat.le_of_ble_eq_true rfl))) (kPc_V hK (va_recv hK.1 hP (ci := 7) (q0 := 0) rfl rfl)) rfl rfl hl.1 rfl (lv_room (Nat.le_of_ble_eq_true rfl)) dX7_isMirror_15 ⟨Nat.zero_le _, Nat.zero_le _⟩) hS (fun locs hS => ?_)
  refine tp_i (y := (nI (comp (gS ss) (sd (ss 1) (2 ^ j0)) i0))) (by rw [gS_lk, hA1]) ?_
  refine lv_istore_n (lv' := [(3, .int (nI (comp (gS ss) (sd (ss 1) (2 ^ j0)) i0))), (0, .ref ma), (1, .int (nI i0)), (2, .int (nI j0))]) hx hb dX7_isMirror_18 rfl hl (by decide) rfl (fun ls hl => ?_)
  refine lv_aload_n hx hb dX7_isMirror_19 rfl (lv_at hl 1 rfl) ?_
  refine lv_iload_n hx hb dX7_isMirror_20 rfl (lv_at hl 3 rfl) ?_
  refine lv_aload_n hx hb dX7_isMirror_21 rfl (lv_at hl 1 rfl) ?_
  refine va_get (D := Γ.1) (ci := 7) (v := .ref ms) (C := RX7) (T := TX7) (N := 15) hx hb hts hinX7 hown hK.1 hP 0 rfl rfl 0 (by decide) (hts _ mw_400) (fun _ h9 => h9) rfl dX7_isMirror_22 ?_
  refine lv_iconst (v := (nI 1)) hx hb dX7_isMirror_25 (by decide) ?_
  refine iald_N hx hb hK.1 hP 1 0 rfl rfl (by omega) (by first | decide | assumption) dX7_isMirror_26 ?_
  refine tp_i (y := (nI (ss 1))) (by rw [lkS_lo (by decide)]) ?_
  refine ro_fin (va_runV (As := [.int (nI j0), .int (nI (ss 1))]) (rest := []) ⟨hx, hb, hml, hown, hts⟩ (c_X7_reached l Γ _ ma ms sn0 mk tw0 mt ty0 mb false me mr my0 mq mp mw mc (lkS ss i0 j0 false) j0 (ss 1) (hP.sub (ws' := [(ma, .inr (7, [.ref ms, .int (nI sn0), .ref mk, .int (nI tw0), .ref mt, .int (nI ty0), .ref mb, .int (bI false), .ref me, .ref mr, .int (nI my0), .ref mq, .ref mp, .ref mw, .ref mc])), (ms, .inl (Γ.2 0, 162, .inl (aN (lkS ss i0 j0 false))))]) [0, 1] rfl) (by rw [lkS_lo (by decide)]; exact h0) (by rw [lkS_lo (by decide)]; exact hjn) (by rw [lkS_lo (by decide)]; exact h1)) (kcwV 2 hts kv_X7_reached mw_453 (rm_le hR (Nat.le_of_ble_eq_true rfl) (Nat.le_of_ble_eq_true rfl))) (kPc_V hK (va_recv hK.1 hP (ci := 7) (q0 := 0) rfl rfl)) rfl rfl hl.1 rfl (lv_room (Nat.le_of_ble_eq_true rfl)) dX7_isMirror_27 ⟨Nat.zero_le _, Nat.zero_le _⟩) hS (fun locs hS => ?_)
  refine tp_i (y := (nI (comp (gS ss) (sd (ss 1) (2 ^ i0)) j0))) (by rw [gS_lk, lk2_swap hne, hB1]) ?_
  refine lv_istore (lv' := [(4, .int (nI (comp (gS ss) (sd (ss 1) (2 ^ i0)) j0))), (3, .int (nI (comp (gS ss) (sd (ss 1) (2 ^ j0)) i0))), (0, .ref ma), (1, .int (nI i0)), (2, .int (nI j0))]) hx hb dX7_isMirror_30 hl (by decide) rfl (fun ls hl => ?_)
  refine lv_iload_n hx hb dX7_isMirror_32 rfl (lv_at hl 1 rfl) ?_
  refine ro_fin (va_runS (As := [.int (nI (comp (gS ss) (sd (ss 1) (2 ^ j0)) i0))]) (rest := []) ⟨hx, hb, hml, hown, hts⟩ (c_X7_bits l Γ _ (comp (gS ss) (sd (ss 1) (2 ^ j0)) i0) (Nat.lt_trans (comp_lt _ _ _) (by decide))) (kcwS 1 hts kv_X7_bits mw_476 (rm_le hR (Nat.le_of_ble_eq_true rfl) (Nat.le_of_ble_eq_true rfl))) (kPc_S hK) rfl rfl hl.1 rfl (lv_room (Nat.le_of_ble_eq_true rfl)) dX7_isMirror_33 ⟨Nat.zero_le _, Nat.zero_le _⟩) hS (fun locs hS => ?_)
  refine lv_iload hx hb dX7_isMirror_36 (lv_at hl 0 rfl) ?_
  refine ro_fin (va_runS (As := [.int (nI (comp (gS ss) (sd (ss 1) (2 ^ i0)) j0))]) (rest := [.int (nI (pc (comp (gS ss) (sd (ss 1) (2 ^ j0)) i0)))]) ⟨hx, hb, hml, hown, hts⟩ (c_X7_bits l Γ _ (comp (gS ss) (sd (ss 1) (2 ^ i0)) j0) (Nat.lt_trans (comp_lt _ _ _) (by decide))) (kcwS 1 hts kv_X7_bits mw_476 (rm_le hR (Nat.le_of_ble_eq_true rfl) (Nat.le_of_ble_eq_true rfl))) (kPc_S hK) rfl rfl hl.1 rfl (lv_room (Nat.le_of_ble_eq_true rfl)) dX7_isMirror_38 ⟨Nat.zero_le _, Nat.zero_le _⟩) hS (fun locs hS => ?_)
  refine nb_icmp_ne (tgt := 63) hx hb (Nat.lt_of_le_of_lt (pc_le _) (by decide)) (Nat.lt_of_le_of_lt (pc_le _) (by decide)) dX7_isMirror_41 (by decide) (fun c_41 => ?_) (fun c_41 => ?_)
  · skip
    refine lv_iconst (v := (nI 0)) hx hb dX7_isMirror_63 (by decide) ?_
    refine tp_i (y := (bI (mrB (gS ss) (ss 1) (ss 0) i0 j0))) (by first | (rw [mrB, decide_eq_false (fun q9 => c_56 (cmpN_0.mpr q9)), Bool.and_false]; rfl) | (rw [mrB, decide_eq_false c_41, Bool.false_and]; rfl)) ?_
    refine lv_istore (lv' := [(5, .int (bI (mrB (gS ss) (ss 1) (ss 0) i0 j0))), (4, .int (nI (comp (gS ss) (sd (ss 1) (2 ^ i0)) j0))), (3, .int (nI (comp (gS ss) (sd (ss 1) (2 ^ j0)) i0))), (0, .ref ma), (1, .int (nI i0)), (2, .int (nI j0))]) hx hb dX7_isMirror_64 hl (by decide) rfl (fun ls hl => ?_)
    refine lv_aload_n hx hb dX7_isMirror_66 rfl (lv_at hl 3 rfl) ?_
    refine lv_iload_n hx hb dX7_isMirror_67 rfl (lv_at hl 4 rfl) ?_
    refine lv_iload_n hx hb dX7_isMirror_68 rfl (lv_at hl 5 rfl) ?_
    refine lv_iconst (v := (nI 1)) hx hb dX7_isMirror_69 (by decide) ?_
    refine wr_finv (va_runV (As := [.int (nI i0), .int (nI j0), .int (nI 1)]) (rest := []) ⟨hx, hb, hml, hown, hts⟩ (c_X7_links l Γ ma ms sn0 mk tw0 mt ty0 mb false me mr my0 mq mp mw mc (lkS ss i0 j0 false) i0 j0 true (by first | omega | assumption) (by first | omega | assumption)) (kcwV 3 hts kv_X7_links mw_473 (rm_le hR (Nat.le_of_ble_eq_true rfl) (Nat.le_of_ble_eq_true rfl))) (kPw_V hK (va_recv hK.1 hP (ci := 7) (q0 := 0) rfl rfl) (hP.sub (ws' := [(ma, .inr (7, [.ref ms, .int (nI sn0), .ref mk, .int (nI tw0), .ref mt, .int (nI ty0), .ref mb, .int (bI false), .ref me, .ref mr, .int (nI my0), .ref mq, .ref mp, .ref mw, .ref mc])), (ms, .inl (Γ.2 0, 162, .inl (aN (lkS ss i0 j0 false))))]) [0, 1] rfl) (hD.sub (ws' := [(ma, .inr (7, [.ref ms, .int (nI sn0), .ref mk, .int (nI tw0), .ref mt, .int (nI ty0), .ref mb, .int (bI false), .ref me, .ref mr, .int (nI my0), .ref mq, .ref mp, .ref mw, .ref mc])), (ms, .inl (Γ.2 0, 162, .inl (aN (lkS ss i0 j0 false))))]) [0, 1] (by decide) rfl)) rfl rfl hl.1 rfl (lv_room (Nat.le_of_ble_eq_true rfl)) dX7_isMirror_70 ⟨Nat.zero_le _, Nat.zero_le _⟩) hP hD hS [0, 1] rfl (fun _ => rfl) (fun _ H locs hw hP hD hS => ?_)
    have hP : va_P Γ.1 vwCl [(ma, .inr (7, [.ref ms, .int (nI sn0), .ref mk, .int (nI tw0), .ref mt, .int (nI ty0), .ref mb, .int (bI false), .ref me, .ref mr, .int (nI my0), .ref mq, .ref mp, .ref mw, .ref mc])), (ms, .inl (Γ.2 0, 162, .inl (aN (lkS (lkS ss i0 j0 false) i0 j0 true)))), (mq, .inl (Γ.2 0, 14, .inl (aN qu))), (mp, .inl (Γ.2 0, 14, .inl pj)), (mw, .inl (Γ.2 0, 14, .inl wj)), (mc, .inl (Γ.2 3, 14, .inr (.inl cj)))] H := hP
    have hD : va_D A [(ma, .inr (7, [.ref ms, .int (nI sn0), .ref mk, .int (nI tw0), .ref mt, .int (nI ty0), .ref mb, .int (bI false), .ref me, .ref mr, .int (nI my0), .ref mq, .ref mp, .ref mw, .ref mc])), (ms, .inl (Γ.2 0, 162, .inl (aN (lkS (lkS ss i0 j0 false) i0 j0 true)))), (mq, .inl (Γ.2 0, 14, .inl (aN qu))), (mp, .inl (Γ.2 0, 14, .inl pj)), (mw, .inl (Γ.2 0, 14, .inl wj)), (mc, .inl (Γ.2 3, 14, .inr (.inl cj)))] := hD
    have hP : va_P Γ.1 vwCl [(ma, .inr (7, [.ref ms, .int (nI sn0), .ref mk, .int (nI tw0), .ref mt, .int (nI ty0), .ref mb, .int (bI false), .ref me, .ref mr, .int (nI my0), .ref mq, .ref mp, .ref mw, .ref mc])), (ms, .inl (Γ.2 0, 162, .inl (aN ss))), (mq, .inl (Γ.2 0, 14, .inl (aN qu))), (mp, .inl (Γ.2 0, 14, .inl pj)), (mw, .inl (Γ.2 0, 14, .inl wj)), (mc, .inl (Γ.2 3, 14, .inr (.inl cj)))] H := cp_w hP (by rw [lkS_back' hne hee hee2])
    have hD : va_D A [(ma, .inr (7, [.ref ms, .int (nI sn0), .ref mk, .int (nI tw0), .ref mt, .int (nI ty0), .ref mb, .int (bI false), .ref me, .ref mr, .int (nI my0), .ref mq, .ref mp, .ref mw, .ref mc])), (ms, .inl (Γ.2 0, 162, .inl (aN ss))), (mq, .inl (Γ.2 0, 14, .inl (aN qu))), (mp, .inl (Γ.2 0, 14, .inl pj)), (mw, .inl (Γ.2 0, 14, .inl wj)), (mc, .inl (Γ.2 3, 14, .inr (.inl cj)))] := va_D_fst (by rfl) hD
    refine lv_iload hx hb dX7_isMirror_73 (lv_at hl 0 rfl) ?_
    exact hret (qu, pj, wj, cj) hP hS (rfl) ⟨_, rfl⟩ dX7_isMirror_75
  · skip
    refine lv_aload_n hx hb dX7_isMirror_44 rfl (lv_at hl 2 rfl) ?_
    refine lv_iload_n hx hb dX7_isMirror_45 rfl (lv_at hl 1 rfl) ?_
    refine wr_finl (va_runV (As := [.int (nI (comp (gS ss) (sd (ss 1) (2 ^ j0)) i0))]) (rest := []) ⟨hx, hb, hml, hown, hts⟩ (c_X7_codeOf l Γ ma ms sn0 mk tw0 mt ty0 mb false me mr my0 mq mp mw mc (lkS ss i0 j0 false) qu pj wj cj (comp (gS ss) (sd (ss 1) (2 ^ j0)) i0) (by rw [lkS_lo (by decide)]; exact h0) (by rw [lkS_lo (by decide)]; exact hAn) (by rw [gS_lk]; exact hfc)) (kcwV 1 hts kv_X7_codeOf mw_466 (rm_le hR (Nat.le_of_ble_eq_true rfl) (Nat.le_of_ble_eq_true rfl))) (kPw_V hK (va_recv hK.1 hP (ci := 7) (q0 := 0) rfl rfl) (hP.sub (ws' := [(ma, .inr (7, [.ref ms, .int (nI sn0), .ref mk, .int (nI tw0), .ref mt, .int (nI ty0), .ref mb, .int (bI false), .ref me, .ref mr, .int (nI my0), .ref mq, .ref mp, .ref mw, .ref mc])), (ms, .inl (Γ.2 0, 162, .inl (aN (lkS ss i0 j0 false)))), (mq, .inl (Γ.2 0, 14, .inl (aN qu))), (mp, .inl (Γ.2 0, 14, .inl pj)), (mw, .inl (Γ.2 0, 14, .inl wj)), (mc, .inl (Γ.2 3, 14, .inr (.inl cj)))]) [0, 1, 2, 3, 4, 5] rfl) (hD.sub (ws' := [(ma, .inr (7, [.ref ms, .int (nI sn0), .ref mk, .int (nI tw0), .ref mt, .int (nI ty0), .ref mb, .int (bI false), .ref me, .ref mr, .int (nI my0), .ref mq, .ref mp, .ref mw, .ref mc])), (ms, .inl (Γ.2 0, 162, .inl (aN (lkS ss i0 j0 false)))), (mq, .inl (Γ.2 0, 14, .inl (aN qu))), (mp, .inl (Γ.2 0, 14, .inl pj)), (mw, .inl (Γ.2 0, 14, .inl wj)), (mc, .inl (Γ.2 3, 14, .inr (.inl cj)))]) [0, 1, 2, 3, 4, 5] (by decide) rfl)) rfl rfl hl.1 rfl (lv_room (Nat.le_of_ble_eq_true rfl)) dX7_isMirror_46 ⟨Nat.zero_le _, Nat.zero_le _⟩) hP hD hS [0, 1, 2, 3, 4, 5] rfl (fun _ => rfl) (fun r u H locs hw hP hD hS => ?_)
    obtain ⟨q6, p6, w6, c6⟩ := u
    obtain rfl := hw
    have hP : va_P Γ.1 vwCl [(ma, .inr (7, [.ref ms, .int (nI sn0), .ref mk, .int (nI tw0), .ref mt, .int (nI ty0), .ref mb, .int (bI false), .ref me, .ref mr, .int (nI my0), .ref mq, .ref mp, .ref mw, .ref mc])), (ms, .inl (Γ.2 0, 162, .inl (aN (lkS ss i0 j0 false)))), (mq, .inl (Γ.2 0, 14, .inl (aN q6))), (mp, .inl (Γ.2 0, 14, .inl p6)), (mw, .inl (Γ.2 0, 14, .inl w6)), (mc, .inl (Γ.2 3, 14, .inr (.inl c6)))] H := hP
    have hD : va_D A [(ma, .inr (7, [.ref ms, .int (nI sn0), .ref mk, .int (nI tw0), .ref mt, .int (nI ty0), .ref mb, .int (bI false), .ref me, .ref mr, .int (nI my0), .ref mq, .ref mp, .ref mw, .ref mc])), (ms, .inl (Γ.2 0, 162, .inl (aN (lkS ss i0 j0 false)))), (mq, .inl (Γ.2 0, 14, .inl (aN q6))), (mp, .inl (Γ.2 0, 14, .inl p6)), (mw, .inl (Γ.2 0, 14, .inl w6)), (mc, .inl (Γ.2 3, 14, .inr (.inl c6)))] := hD
    refine tp_l (y := (lN (mxC (gS ss) (comp (gS ss) (sd (ss 1) (2 ^ j0)) i0) (ss 0)))) (by rw [gS_lk, lkS_lo (by decide), half_mx (comp_lt _ _ _) hne (Or.inr hA2)]) ?_
    refine lv_aload_n hx hb dX7_isMirror_49 rfl (lv_at hl 2 rfl) ?_
    refine lv_iload hx hb dX7_isMirror_50 (lv_at hl 0 rfl) ?_
    refine wr_finl (va_runV (As := [.int (nI (comp (gS ss) (sd (ss 1) (2 ^ i0)) j0))]) (rest := [.long (lN (mxC (gS ss) (comp (gS ss) (sd (ss 1) (2 ^ j0)) i0) (ss 0)))]) ⟨hx, hb, hml, hown, hts⟩ (c_X7_codeOf l Γ ma ms sn0 mk tw0 mt ty0 mb false me mr my0 mq mp mw mc (lkS ss i0 j0 false) q6 p6 w6 c6 (comp (gS ss) (sd (ss 1) (2 ^ i0)) j0) (by rw [lkS_lo (by decide)]; exact h0) (by rw [lkS_lo (by decide)]; exact hBn) (by rw [gS_lk]; exact hfc)) (kcwV 1 hts kv_X7_codeOf mw_466 (rm_le hR (Nat.le_of_ble_eq_true rfl) (Nat.le_of_ble_eq_true rfl))) (kPw_V hK (va_recv hK.1 hP (ci := 7) (q0 := 0) rfl rfl) (hP.sub (ws' := [(ma, .inr (7, [.ref ms, .int (nI sn0), .ref mk, .int (nI tw0), .ref mt, .int (nI ty0), .ref mb, .int (bI false), .ref me, .ref mr, .int (nI my0), .ref mq, .ref mp, .ref mw, .ref mc])), (ms, .inl (Γ.2 0, 162, .inl (aN (lkS ss i0 j0 false)))), (mq, .inl (Γ.2 0, 14, .inl (aN q6))), (mp, .inl (Γ.2 0, 14, .inl p6)), (mw, .inl (Γ.2 0, 14, .inl w6)), (mc, .inl (Γ.2 3, 14, .inr (.inl c6)))]) [0, 1, 2, 3, 4, 5] rfl) (hD.sub (ws' := [(ma, .inr (7, [.ref ms, .int (nI sn0), .ref mk, .int (nI tw0), .ref mt, .int (nI ty0), .ref mb, .int (bI false), .ref me, .ref mr, .int (nI my0), .ref mq, .ref mp, .ref mw, .ref mc])), (ms, .inl (Γ.2 0, 162, .inl (aN (lkS ss i0 j0 false)))), (mq, .inl (Γ.2 0, 14, .inl (aN q6))), (mp, .inl (Γ.2 0, 14, .inl p6)), (mw, .inl (Γ.2 0, 14, .inl w6)), (mc, .inl (Γ.2 3, 14, .inr (.inl c6)))]) [0, 1, 2, 3, 4, 5] (by decide) rfl)) rfl rfl hl.1 rfl (lv_room (Nat.le_of_ble_eq_true rfl)) dX7_isMirror_52 ⟨Nat.zero_le _, Nat.zero_le _⟩) hP hD hS [0, 1, 2, 3, 4, 5] rfl (fun _ => rfl) (fun r u H locs hw hP hD hS => ?_)
    obtain ⟨q7, p7, w7, c7⟩ := u
    obtain rfl := hw
    have hP : va_P Γ.1 vwCl [(ma, .inr (7, [.ref ms, .int (nI sn0), .ref mk, .int (nI tw0), .ref mt, .int (nI ty0), .ref mb, .int (bI false), .ref me, .ref mr, .int (nI my0), .ref mq, .ref mp, .ref mw, .ref mc])), (ms, .inl (Γ.2 0, 162, .inl (aN (lkS ss i0 j0 false)))), (mq, .inl (Γ.2 0, 14, .inl (aN q7))), (mp, .inl (Γ.2 0, 14, .inl p7)), (mw, .inl (Γ.2 0, 14, .inl w7)), (mc, .inl (Γ.2 3, 14, .inr (.inl c7)))] H := hP
    have hD : va_D A [(ma, .inr (7, [.ref ms, .int (nI sn0), .ref mk, .int (nI tw0), .ref mt, .int (nI ty0), .ref mb, .int (bI false), .ref me, .ref mr, .int (nI my0), .ref mq, .ref mp, .ref mw, .ref mc])), (ms, .inl (Γ.2 0, 162, .inl (aN (lkS ss i0 j0 false)))), (mq, .inl (Γ.2 0, 14, .inl (aN q7))), (mp, .inl (Γ.2 0, 14, .inl p7)), (mw, .inl (Γ.2 0, 14, .inl w7)), (mc, .inl (Γ.2 3, 14, .inr (.inl c7)))] := hD
    refine tp_l (y := (lN (mxC (gS ss) (comp (gS ss) (sd (ss 1) (2 ^ i0)) j0) (ss 0)))) (by rw [gS_lk, lkS_lo (by decide), half_mx (comp_lt _ _ _) hne (Or.inl hB2)]) ?_
    refine lv_lcmp hx hb dX7_isMirror_55 ?_
    refine tp_i (y := cmpN (mxC (gS ss) (comp (gS ss) (sd (ss 1) (2 ^ j0)) i0) (ss 0)) (mxC (gS ss) (comp (gS ss) (sd (ss 1) (2 ^ i0)) j0) (ss 0))) (cmp_N (by omega) (by omega)) ?_
    refine lv_if_ne (tgt := 63) hx hb dX7_isMirror_56 (by decide) (fun c_56 => ?_) (fun c_56 => ?_)
    · skip
      refine lv_iconst (v := (nI 0)) hx hb dX7_isMirror_63 (by decide) ?_
      refine tp_i (y := (bI (mrB (gS ss) (ss 1) (ss 0) i0 j0))) (by first | (rw [mrB, decide_eq_false (fun q9 => c_56 (cmpN_0.mpr q9)), Bool.and_false]; rfl) | (rw [mrB, decide_eq_false c_41, Bool.false_and]; rfl)) ?_
      refine lv_istore (lv' := [(5, .int (bI (mrB (gS ss) (ss 1) (ss 0) i0 j0))), (4, .int (nI (comp (gS ss) (sd (ss 1) (2 ^ i0)) j0))), (3, .int (nI (comp (gS ss) (sd (ss 1) (2 ^ j0)) i0))), (0, .ref ma), (1, .int (nI i0)), (2, .int (nI j0))]) hx hb dX7_isMirror_64 hl (by decide) rfl (fun ls hl => ?_)
      refine lv_aload_n hx hb dX7_isMirror_66 rfl (lv_at hl 3 rfl) ?_
      refine lv_iload_n hx hb dX7_isMirror_67 rfl (lv_at hl 4 rfl) ?_
      refine lv_iload_n hx hb dX7_isMirror_68 rfl (lv_at hl 5 rfl) ?_
      refine lv_iconst (v := (nI 1)) hx hb dX7_isMirror_69 (by decide) ?_
      refine wr_finv (va_runV (As := [.int (nI i0), .int (nI j0), .int (nI 1)]) (rest := []) ⟨hx, hb, hml, hown, hts⟩ (c_X7_links l Γ ma ms sn0 mk tw0 mt ty0 mb false me mr my0 mq mp mw mc (lkS ss i0 j0 false) i0 j0 true (by first | omega | assumption) (by first | omega | assumption)) (kcwV 3 hts kv_X7_links mw_473 (rm_le hR (Nat.le_of_ble_eq_true rfl) (Nat.le_of_ble_eq_true rfl))) (kPw_V hK (va_recv hK.1 hP (ci := 7) (q0 := 0) rfl rfl) (hP.sub (ws' := [(ma, .inr (7, [.ref ms, .int (nI sn0), .ref mk, .int (nI tw0), .ref mt, .int (nI ty0), .ref mb, .int (bI false), .ref me, .ref mr, .int (nI my0), .ref mq, .ref mp, .ref mw, .ref mc])), (ms, .inl (Γ.2 0, 162, .inl (aN (lkS ss i0 j0 false))))]) [0, 1] rfl) (hD.sub (ws' := [(ma, .inr (7, [.ref ms, .int (nI sn0), .ref mk, .int (nI tw0), .ref mt, .int (nI ty0), .ref mb, .int (bI false), .ref me, .ref mr, .int (nI my0), .ref mq, .ref mp, .ref mw, .ref mc])), (ms, .inl (Γ.2 0, 162, .inl (aN (lkS ss i0 j0 false))))]) [0, 1] (by decide) rfl)) rfl rfl hl.1 rfl (lv_room (Nat.le_of_ble_eq_true rfl)) dX7_isMirror_70 ⟨Nat.zero_le _, Nat.zero_le _⟩) hP hD hS [0, 1] rfl (fun _ => rfl) (fun _ H locs hw hP hD hS => ?_)
      have hP : va_P Γ.1 vwCl [(ma, .inr (7, [.ref ms, .int (nI sn0), .ref mk, .int (nI tw0), .ref mt, .int (nI ty0), .ref mb, .int (bI false), .ref me, .ref mr, .int (nI my0), .ref mq, .ref mp, .ref mw, .ref mc])), (ms, .inl (Γ.2 0, 162, .inl (aN (lkS (lkS ss i0 j0 false) i0 j0 true)))), (mq, .inl (Γ.2 0, 14, .inl (aN q7))), (mp, .inl (Γ.2 0, 14, .inl p7)), (mw, .inl (Γ.2 0, 14, .inl w7)), (mc, .inl (Γ.2 3, 14, .inr (.inl c7)))] H := hP
      have hD : va_D A [(ma, .inr (7, [.ref ms, .int (nI sn0), .ref mk, .int (nI tw0), .ref mt, .int (nI ty0), .ref mb, .int (bI false), .ref me, .ref mr, .int (nI my0), .ref mq, .ref mp, .ref mw, .ref mc])), (ms, .inl (Γ.2 0, 162, .inl (aN (lkS (lkS ss i0 j0 false) i0 j0 true)))), (mq, .inl (Γ.2 0, 14, .inl (aN q7))), (mp, .inl (Γ.2 0, 14, .inl p7)), (mw, .inl (Γ.2 0, 14, .inl w7)), (mc, .inl (Γ.2 3, 14, .inr (.inl c7)))] := hD
      have hP : va_P Γ.1 vwCl [(ma, .inr (7, [.ref ms, .int (nI sn0), .ref mk, .int (nI tw0), .ref mt, .int (nI ty0), .ref mb, .int (bI false), .ref me, .ref mr, .int (nI my0), .ref mq, .ref mp, .ref mw, .ref mc])), (ms, .inl (Γ.2 0, 162, .inl (aN ss))), (mq, .inl (Γ.2 0, 14, .inl (aN q7))), (mp, .inl (Γ.2 0, 14, .inl p7)), (mw, .inl (Γ.2 0, 14, .inl w7)), (mc, .inl (Γ.2 3, 14, .inr (.inl c7)))] H := cp_w hP (by rw [lkS_back' hne hee hee2])
      have hD : va_D A [(ma, .inr (7, [.ref ms, .int (nI sn0), .ref mk, .int (nI tw0), .ref mt, .int (nI ty0), .ref mb, .int (bI false), .ref me, .ref mr, .int (nI my0), .ref mq, .ref mp, .ref mw, .ref mc])), (ms, .inl (Γ.2 0, 162, .inl (aN ss))), (mq, .inl (Γ.2 0, 14, .inl (aN q7))), (mp, .inl (Γ.2 0, 14, .inl p7)), (mw, .inl (Γ.2 0, 14, .inl w7)), (mc, .inl (Γ.2 3, 14, .inr (.inl c7)))] := va_D_fst (by rfl) hD
      refine lv_iload hx hb dX7_isMirror_73 (lv_at hl 0 rfl) ?_
      exact hret (q7, p7, w7, c7) hP hS (rfl) ⟨_, rfl⟩ dX7_isMirror_75
    · skip
      refine lv_iconst (v := (nI 1)) hx hb dX7_isMirror_59 (by decide) ?_
      refine tp_i (y := (bI (mrB (gS ss) (ss 1) (ss 0) i0 j0))) (by rw [mrB, decide_eq_true (show pc (comp (gS ss) (sd (ss 1) (2 ^ j0)) i0) = pc (comp (gS ss) (sd (ss 1) (2 ^ i0)) j0) by first | exact c_41 | exact Decidable.not_not.mp c_41), decide_eq_true (cmpN_0.mp (by first | exact c_56 | exact Decidable.not_not.mp c_56))]; rfl) ?_
      refine lv_goto (tgt := 64) hx hb dX7_isMirror_60 (by decide) ?_
      refine lv_istore (lv' := [(5, .int (bI (mrB (gS ss) (ss 1) (ss 0) i0 j0))), (4, .int (nI (comp (gS ss) (sd (ss 1) (2 ^ i0)) j0))), (3, .int (nI (comp (gS ss) (sd (ss 1) (2 ^ j0)) i0))), (0, .ref ma), (1, .int (nI i0)), (2, .int (nI j0))]) hx hb dX7_isMirror_64 hl (by decide) rfl (fun ls hl => ?_)
      refine lv_aload_n hx hb dX7_isMirror_66 rfl (lv_at hl 3 rfl) ?_
      refine lv_iload_n hx hb dX7_isMirror_67 rfl (lv_at hl 4 rfl) ?_
      refine lv_iload_n hx hb dX7_isMirror_68 rfl (lv_at hl 5 rfl) ?_
      refine lv_iconst (v := (nI 1)) hx hb dX7_isMirror_69 (by decide) ?_
      refine wr_finv (va_runV (As := [.int (nI i0), .int (nI j0), .int (nI 1)]) (rest := []) ⟨hx, hb, hml, hown, hts⟩ (c_X7_links l Γ ma ms sn0 mk tw0 mt ty0 mb false me mr my0 mq mp mw mc (lkS ss i0 j0 false) i0 j0 true (by first | omega | assumption) (by first | omega | assumption)) (kcwV 3 hts kv_X7_links mw_473 (rm_le hR (Nat.le_of_ble_eq_true rfl) (Nat.le_of_ble_eq_true rfl))) (kPw_V hK (va_recv hK.1 hP (ci := 7) (q0 := 0) rfl rfl) (hP.sub (ws' := [(ma, .inr (7, [.ref ms, .int (nI sn0), .ref mk, .int (nI tw0), .ref mt, .int (nI ty0), .ref mb, .int (bI false), .ref me, .ref mr, .int (nI my0), .ref mq, .ref mp, .ref mw, .ref mc])), (ms, .inl (Γ.2 0, 162, .inl (aN (lkS ss i0 j0 false))))]) [0, 1] rfl) (hD.sub (ws' := [(ma, .inr (7, [.ref ms, .int (nI sn0), .ref mk, .int (nI tw0), .ref mt, .int (nI ty0), .ref mb, .int (bI false), .ref me, .ref mr, .int (nI my0), .ref mq, .ref mp, .ref mw, .ref mc])), (ms, .inl (Γ.2 0, 162, .inl (aN (lkS ss i0 j0 false))))]) [0, 1] (by decide) rfl)) rfl rfl hl.1 rfl (lv_room (Nat.le_of_ble_eq_true rfl)) dX7_isMirror_70 ⟨Nat.zero_le _, Nat.zero_le _⟩) hP hD hS [0, 1] rfl (fun _ => rfl) (fun _ H locs hw hP hD hS => ?_)
      have hP : va_P Γ.1 vwCl [(ma, .inr (7, [.ref ms, .int (nI sn0), .ref mk, .int (nI tw0), .ref mt, .int (nI ty0), .ref mb, .int (bI false), .ref me, .ref mr, .int (nI my0), .ref mq, .ref mp, .ref mw, .ref mc])), (ms, .inl (Γ.2 0, 162, .inl (aN (lkS (lkS ss i0 j0 false) i0 j0 true)))), (mq, .inl (Γ.2 0, 14, .inl (aN q7))), (mp, .inl (Γ.2 0, 14, .inl p7)), (mw, .inl (Γ.2 0, 14, .inl w7)), (mc, .inl (Γ.2 3, 14, .inr (.inl c7)))] H := hP
      have hD : va_D A [(ma, .inr (7, [.ref ms, .int (nI sn0), .ref mk, .int (nI tw0), .ref mt, .int (nI ty0), .ref mb, .int (bI false), .ref me, .ref mr, .int (nI my0), .ref mq, .ref mp, .ref mw, .ref mc])), (ms, .inl (Γ.2 0, 162, .inl (aN (lkS (lkS ss i0 j0 false) i0 j0 true)))), (mq, .inl (Γ.2 0, 14, .inl (aN q7))), (mp, .inl (Γ.2 0, 14, .inl p7)), (mw, .inl (Γ.2 0, 14, .inl w7)), (mc, .inl (Γ.2 3, 14, .inr (.inl c7)))] := hD
      have hP : va_P Γ.1 vwCl [(ma, .inr (7, [.ref ms, .int (nI sn0), .ref mk, .int (nI tw0), .ref mt, .int (nI ty0), .ref mb, .int (bI false), .ref me, .ref mr, .int (nI my0), .ref mq, .ref mp, .ref mw, .ref mc])), (ms, .inl (Γ.2 0, 162, .inl (aN ss))), (mq, .inl (Γ.2 0, 14, .inl (aN q7))), (mp, .inl (Γ.2 0, 14, .inl p7)), (mw, .inl (Γ.2 0, 14, .inl w7)), (mc, .inl (Γ.2 3, 14, .inr (.inl c7)))] H := cp_w hP (by rw [lkS_back' hne hee hee2])
      have hD : va_D A [(ma, .inr (7, [.ref ms, .int (nI sn0), .ref mk, .int (nI tw0), .ref mt, .int (nI ty0), .ref mb, .int (bI false), .ref me, .ref mr, .int (nI my0), .ref mq, .ref mp, .ref mw, .ref mc])), (ms, .inl (Γ.2 0, 162, .inl (aN ss))), (mq, .inl (Γ.2 0, 14, .inl (aN q7))), (mp, .inl (Γ.2 0, 14, .inl p7)), (mw, .inl (Γ.2 0, 14, .inl w7)), (mc, .inl (Γ.2 3, 14, .inr (.inl c7)))] := va_D_fst (by rfl) hD
      refine lv_iload hx hb dX7_isMirror_73 (lv_at hl 0 rfl) ?_
      exact hret (q7, p7, w7, c7) hP hS (rfl) ⟨_, rfl⟩ dX7_isMirror_75
set_option maxHeartbeats 8000000 in
set_option maxRecDepth 100000 in
theorem c_X7_mirrors (l : Launch) (Γ : kG) (ma : Nat) (ms : Nat) (sn0 : Nat) (mk : Nat) (tw0 : Nat) (mt : Nat) (ty0 : Nat) (mb : Nat) (il0 : Bool) (me : Nat) (mr : Nat) (my0 : Nat) (mq : Nat) (mp : Nat) (mw : Nat) (mc : Nat) (ss : Nat → Nat) (qu : Nat → Nat) (pj : Nat → Int32) (wj : Nat → Int32) (cj : Nat → Int64) (S0 : Nat) (R0 : Int32) (h0 : ss 0 ≤ 14) (h1 : ss 1 < 2 ^ ss 0) (hfg : FG (gS ss)) (hS0 : S0 < 16384) : WRi l yX7_mirrors (wsq yX7_mirrors cX7_mirrors 8 (some .int)) (rmL 5) Γ [.ref ma, .int (nI S0), .int R0] [(ma, .inr (7, [.ref ms, .int (nI sn0), .ref mk, .int (nI tw0), .ref mt, .int (nI ty0), .ref mb, .int (bI il0), .ref me, .ref mr, .int (nI my0), .ref mq, .ref mp, .ref mw, .ref mc])), (ms, .inl (Γ.2 0, 162, .inl (aN ss))), (mq, .inl (Γ.2 0, 14, .inl (aN qu))), (mp, .inl (Γ.2 0, 14, .inl pj)), (mw, .inl (Γ.2 0, 14, .inl wj)), (mc, .inl (Γ.2 3, 14, .inr (.inl cj)))] (fun u : (Nat → Nat) × (Nat → Int32) × (Nat → Int32) × (Nat → Int64) => [(ma, .inr (7, [.ref ms, .int (nI sn0), .ref mk, .int (nI tw0), .ref mt, .int (nI ty0), .ref mb, .int (bI il0), .ref me, .ref mr, .int (nI my0), .ref mq, .ref mp, .ref mw, .ref mc])), (ms, .inl (Γ.2 0, 162, .inl (aN ss))), (mq, .inl (Γ.2 0, 14, .inl (aN u.1))), (mp, .inl (Γ.2 0, 14, .inl u.2.1)), (mw, .inl (Γ.2 0, 14, .inl u.2.2.1)), (mc, .inl (Γ.2 3, 14, .inr (.inl u.2.2.2)))]) (fun (r : Int32) (u : (Nat → Nat) × (Nat → Int32) × (Nat → Int32) × (Nat → Int64)) => r = (mrR (miQ (gS ss) (ss 1) (ss 0) S0) (ss 0) R0)) := by
  refine wr_ofi (cc := cX7_mirrors) (maxL := 8) (by decide +kernel) (Nat.le_of_ble_eq_true rfl) rfl ?_
  intro p ev R st mi args below meth cd Q A ls C0 hR hret hP hD hS hl
  obtain ⟨hx, hb, hr, hml, hown, hts, hlk, hK, hnm⟩ := C0
  have hown : st.vm.findClass RX7 = some mi.cls := hown
  have hwn := w14 h1 h0
  refine lv_aload_n hx hb dX7_mirrors_0 rfl (lv_at hl 0 rfl) ?_
  refine va_get (D := Γ.1) (ci := 7) (v := .int (bI il0)) (C := RX7) (T := TX7) (N := 15) hx hb hts hinX7 hown hK.1 hP 0 rfl rfl 7 (by decide) (hts _ mw_419) (fun _ h9 => h9) rfl dX7_mirrors_1 ?_
  refine lv_istore_n (lv' := [(3, .int (bI il0)), (0, .ref ma), (1, .int (nI S0)), (2, .int R0)]) hx hb dX7_mirrors_4 rfl hl (by decide) rfl (fun ls hl => ?_)
  refine lv_iconst (v := (nI 0)) hx hb dX7_mirrors_5 (by decide) ?_
  refine lv_istore (lv' := [(4, .int (nI 0)), (3, .int (bI il0)), (0, .ref ma), (1, .int (nI S0)), (2, .int R0)]) hx hb dX7_mirrors_6 hl (by decide) rfl (fun ls hl => ?_)
  refine lv_iconst (v := (-1)) hx hb dX7_mirrors_8 (by decide) ?_
  refine lv_istore (lv' := [(5, .int (-1)), (4, .int (nI 0)), (3, .int (bI il0)), (0, .ref ma), (1, .int (nI S0)), (2, .int R0)]) hx hb dX7_mirrors_9 hl (by decide) rfl (fun ls hl => ?_)
  refine lv_iconst (v := (nI 0)) hx hb dX7_mirrors_11 (by decide) ?_
  refine lv_istore (lv' := [(6, .int (nI 0)), (5, .int (-1)), (4, .int (nI 0)), (3, .int (bI il0)), (0, .ref ma), (1, .int (nI S0)), (2, .int R0)]) hx hb dX7_mirrors_12 hl (by decide) rfl (fun ls hl => ?_)
  have LP14 : ∀ (fu : Nat) (i1 : Nat) (b8 : Bool) (q8 : Nat → Nat) (p8 : Nat → Int32) (w8 : Nat → Int32) (c8 : Nat → Int64) (hi1 : i1 ≤ ss 0), (ss 0 - i1) < fu → ∀ (H : Heap) (locs : List Loc), va_P Γ.1 vwCl [(ma, .inr (7, [.ref ms, .int (nI sn0), .ref mk, .int (nI tw0), .ref mt, .int (nI ty0), .ref mb, .int (bI b8), .ref me, .ref mr, .int (nI my0), .ref mq, .ref mp, .ref mw, .ref mc])), (ms, .inl (Γ.2 0, 162, .inl (aN ss))), (mq, .inl (Γ.2 0, 14, .inl (aN q8))), (mp, .inl (Γ.2 0, 14, .inl p8)), (mw, .inl (Γ.2 0, 14, .inl w8)), (mc, .inl (Γ.2 3, 14, .inr (.inl c8)))] H → va_D A [(ma, .inr (7, [.ref ms, .int (nI sn0), .ref mk, .int (nI tw0), .ref mt, .int (nI ty0), .ref mb, .int (bI b8), .ref me, .ref mr, .int (nI my0), .ref mq, .ref mp, .ref mw, .ref mc])), (ms, .inl (Γ.2 0, 162, .inl (aN ss))), (mq, .inl (Γ.2 0, 14, .inl (aN q8))), (mp, .inl (Γ.2 0, 14, .inl p8)), (mw, .inl (Γ.2 0, 14, .inl w8)), (mc, .inl (Γ.2 3, 14, .inr (.inl c8)))] → va_S A st.heap H locs → ∀ (ls : Array Slot), lv_has ls 8 [(6, .int (nI i1)), (5, .int ((outM (miQ (gS ss) (ss 1) (ss 0) S0) (ss 0) R0 i1).2)), (4, .int (nI ((outM (miQ (gS ss) (ss 1) (ss 0) S0) (ss 0) R0 i1).1))), (3, .int (bI il0)), (0, .ref ma), (1, .int (nI S0)), (2, .int R0)] → W p l ev R st mi args below meth cd H locs 0 0 Q (F0 mi 14 ls []) := by
    intro fu
    induction fu with
    | zero => intro i1 b8 q8 p8 w8 c8 hi1 hfu; exact absurd hfu (Nat.not_lt_zero _)
    | succ fu ih14 =>
      intro i1 b8 q8 p8 w8 c8 hi1 hfu H locs hP hD hS ls hl
      refine lv_iload hx hb dX7_mirrors_14 (lv_at hl 0 rfl) ?_
      refine lv_aload_n hx hb dX7_mirrors_16 rfl (lv_at hl 4 rfl) ?_
      refine va_get (D := Γ.1) (ci := 7) (v := .ref ms) (C := RX7) (T := TX7) (N := 15) hx hb hts hinX7 hown hK.1 hP 0 rfl rfl 0 (by decide) (hts _ mw_400) (fun _ h9 => h9) rfl dX7_mirrors_17 ?_
      refine lv_iconst (v := (nI 0)) hx hb dX7_mirrors_20 (by decide) ?_
      refine iald_N hx hb hK.1 hP 1 0 rfl rfl (by omega) (by first | decide | assumption) dX7_mirrors_21 ?_
      refine nb_icmp_ge (tgt := 110) hx hb (by first | omega | assumption) (by first | omega | assumption) dX7_mirrors_22 (by decide) (fun c_22 => ?_) (fun c_22 => ?_)
      · skip
        have he9 : ss 0 = i1 := by omega
        subst he9
        refine lv_aload_n hx hb dX7_mirrors_110 rfl (lv_at hl 4 rfl) ?_
        refine lv_iload_n hx hb dX7_mirrors_111 rfl (lv_at hl 3 rfl) ?_
        refine va_put (D := Γ.1) (ci := 7) (v := .int (bI il0)) (ty := .boolean) (C := RX7) (T := TX7) (N := 15) hx hb hts hinX7 tyX7 tyX7_ok nmX7 hown hK.1 hP hD hS 0 rfl rfl 7 (by decide) (hts _ mw_419) (fun _ h9 => h9) rfl (by decide +kernel) (bI_nar _) (bI_fit _) (Nat.le_of_ble_eq_true rfl) dX7_mirrors_112 (fun H locs hP hD hS => ?_)
        have hP : va_P Γ.1 vwCl [(ma, .inr (7, [.ref ms, .int (nI sn0), .ref mk, .int (nI tw0), .ref mt, .int (nI ty0), .ref mb, .int (bI il0), .ref me, .ref mr, .int (nI my0), .ref mq, .ref mp, .ref mw, .ref mc])), (ms, .inl (Γ.2 0, 162, .inl (aN ss))), (mq, .inl (Γ.2 0, 14, .inl (aN q8))), (mp, .inl (Γ.2 0, 14, .inl p8)), (mw, .inl (Γ.2 0, 14, .inl w8)), (mc, .inl (Γ.2 3, 14, .inr (.inl c8)))] H := hP
        have hD : va_D A [(ma, .inr (7, [.ref ms, .int (nI sn0), .ref mk, .int (nI tw0), .ref mt, .int (nI ty0), .ref mb, .int (bI il0), .ref me, .ref mr, .int (nI my0), .ref mq, .ref mp, .ref mw, .ref mc])), (ms, .inl (Γ.2 0, 162, .inl (aN ss))), (mq, .inl (Γ.2 0, 14, .inl (aN q8))), (mp, .inl (Γ.2 0, 14, .inl p8)), (mw, .inl (Γ.2 0, 14, .inl w8)), (mc, .inl (Γ.2 3, 14, .inr (.inl c8)))] := hD
        refine lv_iload_n hx hb dX7_mirrors_115 rfl (lv_at hl 6 rfl) ?_
        refine lv_if_ge (tgt := 124) hx hb dX7_mirrors_116 (by decide) (fun c_116 => ?_) (fun c_116 => ?_)
        · skip
          refine lv_iload hx hb dX7_mirrors_124 (lv_at hl 1 rfl) ?_
          exact hret (q8, p8, w8, c8) hP hS (by first | (rw [mrR, if_neg (by first | exact c_116 | exact Int32.not_lt.mpr c_116)]) | (rw [mrR, if_pos (by first | exact c_116 | exact Int32.not_le.mp c_116)])) dX7_mirrors_126
        · skip
          refine lv_iload hx hb dX7_mirrors_119 (lv_at hl 2 rfl) ?_
          refine lv_goto (tgt := 126) hx hb dX7_mirrors_121 (by decide) ?_
          exact hret (q8, p8, w8, c8) hP hS (by first | (rw [mrR, if_neg (by first | exact c_116 | exact Int32.not_lt.mpr c_116)]) | (rw [mrR, if_pos (by first | exact c_116 | exact Int32.not_le.mp c_116)])) dX7_mirrors_126
      · skip
        refine lv_iload hx hb dX7_mirrors_25 (lv_at hl 0 rfl) ?_
        refine lv_iconst (v := (nI 1)) hx hb dX7_mirrors_27 (by decide) ?_
        refine lv_iadd hx hb dX7_mirrors_28 ?_
        refine tp_i (y := (nI (i1 + 1))) (nI_add _ _) ?_
        refine lv_istore (lv' := [(7, .int (nI (i1 + 1))), (6, .int (nI i1)), (5, .int ((outM (miQ (gS ss) (ss 1) (ss 0) S0) (ss 0) R0 i1).2)), (4, .int (nI ((outM (miQ (gS ss) (ss 1) (ss 0) S0) (ss 0) R0 i1).1))), (3, .int (bI il0)), (0, .ref ma), (1, .int (nI S0)), (2, .int R0)]) hx hb dX7_mirrors_29 hl (by decide) rfl (fun ls hl => ?_)
        have LP31 : ∀ (fu : Nat) (j1 : Nat) (b7 : Bool) (q7 : Nat → Nat) (p7 : Nat → Int32) (w7 : Nat → Int32) (c7 : Nat → Int64) (hj1 : i1 < j1) (hj2 : j1 ≤ ss 0), (ss 0 - j1) < fu → ∀ (H : Heap) (locs : List Loc), va_P Γ.1 vwCl [(ma, .inr (7, [.ref ms, .int (nI sn0), .ref mk, .int (nI tw0), .ref mt, .int (nI ty0), .ref mb, .int (bI b7), .ref me, .ref mr, .int (nI my0), .ref mq, .ref mp, .ref mw, .ref mc])), (ms, .inl (Γ.2 0, 162, .inl (aN ss))), (mq, .inl (Γ.2 0, 14, .inl (aN q7))), (mp, .inl (Γ.2 0, 14, .inl p7)), (mw, .inl (Γ.2 0, 14, .inl w7)), (mc, .inl (Γ.2 3, 14, .inr (.inl c7)))] H → va_D A [(ma, .inr (7, [.ref ms, .int (nI sn0), .ref mk, .int (nI tw0), .ref mt, .int (nI ty0), .ref mb, .int (bI b7), .ref me, .ref mr, .int (nI my0), .ref mq, .ref mp, .ref mw, .ref mc])), (ms, .inl (Γ.2 0, 162, .inl (aN ss))), (mq, .inl (Γ.2 0, 14, .inl (aN q7))), (mp, .inl (Γ.2 0, 14, .inl p7)), (mw, .inl (Γ.2 0, 14, .inl w7)), (mc, .inl (Γ.2 3, 14, .inr (.inl c7)))] → va_S A st.heap H locs → ∀ (ls : Array Slot), lv_has ls 8 [(7, .int (nI j1)), (6, .int (nI i1)), (5, .int ((innM (miQ (gS ss) (ss 1) (ss 0) S0) i1 R0 (outM (miQ (gS ss) (ss 1) (ss 0) S0) (ss 0) R0 i1) j1).2)), (4, .int (nI ((innM (miQ (gS ss) (ss 1) (ss 0) S0) i1 R0 (outM (miQ (gS ss) (ss 1) (ss 0) S0) (ss 0) R0 i1) j1).1))), (3, .int (bI il0)), (0, .ref ma), (1, .int (nI S0)), (2, .int R0)] → W p l ev R st mi args below meth cd H locs 0 0 Q (F0 mi 31 ls []) := by
          intro fu
          induction fu with
          | zero => intro j1 b7 q7 p7 w7 c7 hj1 hj2 hfu; exact absurd hfu (Nat.not_lt_zero _)
          | succ fu ih31 =>
            intro j1 b7 q7 p7 w7 c7 hj1 hj2 hfu H locs hP hD hS ls hl
            refine lv_iload hx hb dX7_mirrors_31 (lv_at hl 0 rfl) ?_
            refine lv_aload_n hx hb dX7_mirrors_33 rfl (lv_at hl 5 rfl) ?_
            refine va_get (D := Γ.1) (ci := 7) (v := .ref ms) (C := RX7) (T := TX7) (N := 15) hx hb hts hinX7 hown hK.1 hP 0 rfl rfl 0 (by decide) (hts _ mw_400) (fun _ h9 => h9) rfl dX7_mirrors_34 ?_
            refine lv_iconst (v := (nI 0)) hx hb dX7_mirrors_37 (by decide) ?_
            refine iald_N hx hb hK.1 hP 1 0 rfl rfl (by omega) (by first | decide | assumption) dX7_mirrors_38 ?_
            refine nb_icmp_ge (tgt := 104) hx hb (by first | omega | assumption) (by first | omega | assumption) dX7_mirrors_39 (by decide) (fun c_39 => ?_) (fun c_39 => ?_)
            · skip
              have he9 : ss 0 = j1 := by omega
              subst he9
              refine lv_iinc (v := (nI (i1 + 1))) (lv' := [(6, .int (nI (i1 + 1))), (7, .int (nI (ss 0))), (5, .int ((innM (miQ (gS ss) (ss 1) (ss 0) S0) i1 R0 (outM (miQ (gS ss) (ss 1) (ss 0) S0) (ss 0) R0 i1) (ss 0)).2)), (4, .int (nI ((innM (miQ (gS ss) (ss 1) (ss 0) S0) i1 R0 (outM (miQ (gS ss) (ss 1) (ss 0) S0) (ss 0) R0 i1) (ss 0)).1))), (3, .int (bI il0)), (0, .ref ma), (1, .int (nI S0)), (2, .int R0)]) hx hb dX7_mirrors_104 hl (k := 1) rfl (nI_1 _) (by decide) rfl (fun ls hl => ?_)
              refine lv_goto (tgt := 14) hx hb dX7_mirrors_107 (by decide) ?_
              exact ih14 (i1 + 1) b7 q7 p7 w7 c7 (by first | omega | assumption) (by omega) _ _ hP hD hS ls (lv_cast (lv_sub hl [0, 2, 3, 4, 5, 6, 7] rfl) (by rfl))
            · skip
              refine lv_iload_n hx hb dX7_mirrors_42 rfl (lv_at hl 6 rfl) ?_
              refine lv_iload hx hb dX7_mirrors_43 (lv_at hl 1 rfl) ?_
              refine lv_ishr hx hb dX7_mirrors_45 ?_
              refine tp_i (y := (nI (S0 >>> i1))) (ni_shr (by omega) (by omega)) ?_
              refine lv_iconst (v := (nI 1)) hx hb dX7_mirrors_46 (by decide) ?_
              refine lv_iand hx hb dX7_mirrors_47 ?_
              refine tp_i (y := (nI ((Nat.testBit S0 i1).toNat))) (ni_bit _ _) ?_
              refine lv_iconst (v := (nI 1)) hx hb dX7_mirrors_48 (by decide) ?_
              refine nb_icmp_ne (tgt := 98) hx hb (tn_lt _) (by omega) dX7_mirrors_49 (by decide) (fun c_49 => ?_) (fun c_49 => ?_)
              · skip
                have hb9 : S0.testBit i1 = false := ts_f (fun q9 => c_49 (tn_1.mpr q9))
                have hq9 : (miQ (gS ss) (ss 1) (ss 0) S0) i1 j1 = false := by rw [miQ, hb9]; rfl
                refine lv_iinc (v := (nI (j1 + 1))) (lv' := [(7, .int (nI (j1 + 1))), (6, .int (nI i1)), (5, .int ((innM (miQ (gS ss) (ss 1) (ss 0) S0) i1 R0 (outM (miQ (gS ss) (ss 1) (ss 0) S0) (ss 0) R0 i1) j1).2)), (4, .int (nI ((innM (miQ (gS ss) (ss 1) (ss 0) S0) i1 R0 (outM (miQ (gS ss) (ss 1) (ss 0) S0) (ss 0) R0 i1) j1).1))), (3, .int (bI il0)), (0, .ref ma), (1, .int (nI S0)), (2, .int R0)]) hx hb dX7_mirrors_98 hl (k := 0) rfl (nI_1 _) (by decide) rfl (fun ls hl => ?_)
                refine lv_goto (tgt := 31) hx hb dX7_mirrors_101 (by decide) ?_
                exact ih31 (j1 + 1) b7 q7 p7 w7 c7 (by first | omega | assumption) (by first | omega | assumption) (by omega) _ _ hP hD hS ls (lv_cast (lv_sub hl [0, 1, 2, 3, 4, 5, 6, 7] rfl) (by first | (rw [innM_f hq9]; rfl) | (rw [innM_t hj1 hq9, if_pos c_77]; rfl) | (rw [innM_t hj1 hq9, if_neg c_77]; rfl)))
              · skip
                have hb9 : S0.testBit i1 = true := tn_1.mp c_49
                refine lv_aload_n hx hb dX7_mirrors_52 rfl (lv_at hl 5 rfl) ?_
                refine lv_iload hx hb dX7_mirrors_53 (lv_at hl 1 rfl) ?_
                refine lv_iload hx hb dX7_mirrors_55 (lv_at hl 0 rfl) ?_
                refine ro_fin (va_runV (As := [.int (nI i1), .int (nI j1)]) (rest := []) ⟨hx, hb, hml, hown, hts⟩ (c_X7_isEdge l Γ _ ma ms sn0 mk tw0 mt ty0 mb b7 me mr my0 mq mp mw mc ss i1 j1 (hP.sub (ws' := [(ma, .inr (7, [.ref ms, .int (nI sn0), .ref mk, .int (nI tw0), .ref mt, .int (nI ty0), .ref mb, .int (bI b7), .ref me, .ref mr, .int (nI my0), .ref mq, .ref mp, .ref mw, .ref mc])), (ms, .inl (Γ.2 0, 162, .inl (aN ss)))]) [0, 1] rfl) (hwn) (hfg.1) (by first | omega | assumption) (by first | omega | assumption)) (kcwV 2 hts kv_X7_isEdge mw_479 (rm_le hR (Nat.le_of_ble_eq_true rfl) (Nat.le_of_ble_eq_true rfl))) (kPc_V hK (va_recv hK.1 hP (ci := 7) (q0 := 0) rfl rfl)) rfl rfl hl.1 rfl (lv_room (Nat.le_of_ble_eq_true rfl)) dX7_mirrors_57 ⟨Nat.zero_le _, Nat.zero_le _⟩) hS (fun locs hS => ?_)
                refine tp_i (y := (bI (edB (gS ss) (ss 1) i1 j1))) (rfl) ?_
                refine nb_ifb_eq (tgt := 98) hx hb dX7_mirrors_60 (by decide) (fun c_60 => ?_) (fun c_60 => ?_)
                · skip
                  have hq9 : (miQ (gS ss) (ss 1) (ss 0) S0) i1 j1 = false := by rw [miQ, hb9, miB, c_60]; rfl
                  refine lv_iinc (v := (nI (j1 + 1))) (lv' := [(7, .int (nI (j1 + 1))), (6, .int (nI i1)), (5, .int ((innM (miQ (gS ss) (ss 1) (ss 0) S0) i1 R0 (outM (miQ (gS ss) (ss 1) (ss 0) S0) (ss 0) R0 i1) j1).2)), (4, .int (nI ((innM (miQ (gS ss) (ss 1) (ss 0) S0) i1 R0 (outM (miQ (gS ss) (ss 1) (ss 0) S0) (ss 0) R0 i1) j1).1))), (3, .int (bI il0)), (0, .ref ma), (1, .int (nI S0)), (2, .int R0)]) hx hb dX7_mirrors_98 hl (k := 0) rfl (nI_1 _) (by decide) rfl (fun ls hl => ?_)
                  refine lv_goto (tgt := 31) hx hb dX7_mirrors_101 (by decide) ?_
                  exact ih31 (j1 + 1) b7 q7 p7 w7 c7 (by first | omega | assumption) (by first | omega | assumption) (by omega) _ _ hP hD hS ls (lv_cast (lv_sub hl [0, 1, 2, 3, 4, 5, 6, 7] rfl) (by first | (rw [innM_f hq9]; rfl) | (rw [innM_t hj1 hq9, if_pos c_77]; rfl) | (rw [innM_t hj1 hq9, if_neg c_77]; rfl)))
                · skip
                  have hed := c_60
                  rw [edB, Bool.and_eq_true, Bool.and_eq_true] at hed
                  refine lv_aload_n hx hb dX7_mirrors_63 rfl (lv_at hl 5 rfl) ?_
                  refine lv_iload hx hb dX7_mirrors_64 (lv_at hl 1 rfl) ?_
                  refine lv_iload hx hb dX7_mirrors_66 (lv_at hl 0 rfl) ?_
                  refine wr_fini (va_runV (As := [.int (nI i1), .int (nI j1)]) (rest := []) ⟨hx, hb, hml, hown, hts⟩ (c_X7_isMirror l Γ ma ms sn0 mk tw0 mt ty0 mb b7 me mr my0 mq mp mw mc ss q7 p7 w7 c7 i1 j1 (by first | omega | assumption) (by first | omega | assumption) (by first | omega | assumption) (hed.1.1) (hed.1.2) (hed.2)) (kcwV 2 hts kv_X7_isMirror mw_482 (rm_le hR (Nat.le_of_ble_eq_true rfl) (Nat.le_of_ble_eq_true rfl))) (kPw_V hK (va_recv hK.1 hP (ci := 7) (q0 := 0) rfl rfl) (hP.sub (ws' := [(ma, .inr (7, [.ref ms, .int (nI sn0), .ref mk, .int (nI tw0), .ref mt, .int (nI ty0), .ref mb, .int (bI b7), .ref me, .ref mr, .int (nI my0), .ref mq, .ref mp, .ref mw, .ref mc])), (ms, .inl (Γ.2 0, 162, .inl (aN ss))), (mq, .inl (Γ.2 0, 14, .inl (aN q7))), (mp, .inl (Γ.2 0, 14, .inl p7)), (mw, .inl (Γ.2 0, 14, .inl w7)), (mc, .inl (Γ.2 3, 14, .inr (.inl c7)))]) [0, 1, 2, 3, 4, 5] rfl) (hD.sub (ws' := [(ma, .inr (7, [.ref ms, .int (nI sn0), .ref mk, .int (nI tw0), .ref mt, .int (nI ty0), .ref mb, .int (bI b7), .ref me, .ref mr, .int (nI my0), .ref mq, .ref mp, .ref mw, .ref mc])), (ms, .inl (Γ.2 0, 162, .inl (aN ss))), (mq, .inl (Γ.2 0, 14, .inl (aN q7))), (mp, .inl (Γ.2 0, 14, .inl p7)), (mw, .inl (Γ.2 0, 14, .inl w7)), (mc, .inl (Γ.2 3, 14, .inr (.inl c7)))]) [0, 1, 2, 3, 4, 5] (by decide) rfl)) rfl rfl hl.1 rfl (lv_room (Nat.le_of_ble_eq_true rfl)) dX7_mirrors_68 ⟨Nat.zero_le _, Nat.zero_le _⟩) hP hD hS [0, 1, 2, 3, 4, 5] rfl (fun _ => rfl) (fun r u H locs hw hP hD hS => ?_)
                  obtain ⟨q6, p6, w6, c6⟩ := u
                  obtain rfl := hw
                  have hP : va_P Γ.1 vwCl [(ma, .inr (7, [.ref ms, .int (nI sn0), .ref mk, .int (nI tw0), .ref mt, .int (nI ty0), .ref mb, .int (bI false), .ref me, .ref mr, .int (nI my0), .ref mq, .ref mp, .ref mw, .ref mc])), (ms, .inl (Γ.2 0, 162, .inl (aN ss))), (mq, .inl (Γ.2 0, 14, .inl (aN q6))), (mp, .inl (Γ.2 0, 14, .inl p6)), (mw, .inl (Γ.2 0, 14, .inl w6)), (mc, .inl (Γ.2 3, 14, .inr (.inl c6)))] H := hP
                  have hD : va_D A [(ma, .inr (7, [.ref ms, .int (nI sn0), .ref mk, .int (nI tw0), .ref mt, .int (nI ty0), .ref mb, .int (bI false), .ref me, .ref mr, .int (nI my0), .ref mq, .ref mp, .ref mw, .ref mc])), (ms, .inl (Γ.2 0, 162, .inl (aN ss))), (mq, .inl (Γ.2 0, 14, .inl (aN q6))), (mp, .inl (Γ.2 0, 14, .inl p6)), (mw, .inl (Γ.2 0, 14, .inl w6)), (mc, .inl (Γ.2 3, 14, .inr (.inl c6)))] := hD
                  refine nb_ifb_eq (tgt := 98) hx hb dX7_mirrors_71 (by decide) (fun c_71 => ?_) (fun c_71 => ?_)
                  · skip
                    have hq9 : (miQ (gS ss) (ss 1) (ss 0) S0) i1 j1 = false := by rw [miQ, hb9, miB, c_60, c_71]; rfl
                    refine lv_iinc (v := (nI (j1 + 1))) (lv' := [(7, .int (nI (j1 + 1))), (6, .int (nI i1)), (5, .int ((innM (miQ (gS ss) (ss 1) (ss 0) S0) i1 R0 (outM (miQ (gS ss) (ss 1) (ss 0) S0) (ss 0) R0 i1) j1).2)), (4, .int (nI ((innM (miQ (gS ss) (ss 1) (ss 0) S0) i1 R0 (outM (miQ (gS ss) (ss 1) (ss 0) S0) (ss 0) R0 i1) j1).1))), (3, .int (bI il0)), (0, .ref ma), (1, .int (nI S0)), (2, .int R0)]) hx hb dX7_mirrors_98 hl (k := 0) rfl (nI_1 _) (by decide) rfl (fun ls hl => ?_)
                    refine lv_goto (tgt := 31) hx hb dX7_mirrors_101 (by decide) ?_
                    exact ih31 (j1 + 1) false q6 p6 w6 c6 (by first | omega | assumption) (by first | omega | assumption) (by omega) _ _ hP hD hS ls (lv_cast (lv_sub hl [0, 1, 2, 3, 4, 5, 6, 7] rfl) (by first | (rw [innM_f hq9]; rfl) | (rw [innM_t hj1 hq9, if_pos c_77]; rfl) | (rw [innM_t hj1 hq9, if_neg c_77]; rfl)))
                  · skip
                    have hq9 : (miQ (gS ss) (ss 1) (ss 0) S0) i1 j1 = true := by rw [miQ, hb9, miB, c_60, c_71]; rfl
                    refine lv_iload hx hb dX7_mirrors_74 (lv_at hl 3 rfl) ?_
                    refine lv_iload_n hx hb dX7_mirrors_76 rfl (lv_at hl 7 rfl) ?_
                    refine lv_icmp_ne (tgt := 91) hx hb dX7_mirrors_77 (by decide) (fun c_77 => ?_) (fun c_77 => ?_)
                    · skip
                      refine lv_iload hx hb dX7_mirrors_91 (lv_at hl 2 rfl) ?_
                      refine lv_istore (lv' := [(5, .int ((innM (miQ (gS ss) (ss 1) (ss 0) S0) i1 R0 (outM (miQ (gS ss) (ss 1) (ss 0) S0) (ss 0) R0 i1) j1).2)), (7, .int (nI j1)), (6, .int (nI i1)), (4, .int (nI ((innM (miQ (gS ss) (ss 1) (ss 0) S0) i1 R0 (outM (miQ (gS ss) (ss 1) (ss 0) S0) (ss 0) R0 i1) j1).1))), (3, .int (bI il0)), (0, .ref ma), (1, .int (nI S0)), (2, .int R0)]) hx hb dX7_mirrors_93 hl (by decide) rfl (fun ls hl => ?_)
                      refine lv_iinc (v := (nI ((innM (miQ (gS ss) (ss 1) (ss 0) S0) i1 R0 (outM (miQ (gS ss) (ss 1) (ss 0) S0) (ss 0) R0 i1) j1).1 + 1))) (lv' := [(4, .int (nI ((innM (miQ (gS ss) (ss 1) (ss 0) S0) i1 R0 (outM (miQ (gS ss) (ss 1) (ss 0) S0) (ss 0) R0 i1) j1).1 + 1))), (5, .int ((innM (miQ (gS ss) (ss 1) (ss 0) S0) i1 R0 (outM (miQ (gS ss) (ss 1) (ss 0) S0) (ss 0) R0 i1) j1).2)), (7, .int (nI j1)), (6, .int (nI i1)), (3, .int (bI il0)), (0, .ref ma), (1, .int (nI S0)), (2, .int R0)]) hx hb dX7_mirrors_95 hl (k := 3) rfl (nI_1 _) (by decide) rfl (fun ls hl => ?_)
                      refine lv_iinc (v := (nI (j1 + 1))) (lv' := [(7, .int (nI (j1 + 1))), (4, .int (nI ((innM (miQ (gS ss) (ss 1) (ss 0) S0) i1 R0 (outM (miQ (gS ss) (ss 1) (ss 0) S0) (ss 0) R0 i1) j1).1 + 1))), (5, .int ((innM (miQ (gS ss) (ss 1) (ss 0) S0) i1 R0 (outM (miQ (gS ss) (ss 1) (ss 0) S0) (ss 0) R0 i1) j1).2)), (6, .int (nI i1)), (3, .int (bI il0)), (0, .ref ma), (1, .int (nI S0)), (2, .int R0)]) hx hb dX7_mirrors_98 hl (k := 2) rfl (nI_1 _) (by decide) rfl (fun ls hl => ?_)
                      refine lv_goto (tgt := 31) hx hb dX7_mirrors_101 (by decide) ?_
                      exact ih31 (j1 + 1) false q6 p6 w6 c6 (by first | omega | assumption) (by first | omega | assumption) (by omega) _ _ hP hD hS ls (lv_cast (lv_sub hl [0, 3, 2, 1, 4, 5, 6, 7] rfl) (by first | (rw [innM_f hq9]; rfl) | (rw [innM_t hj1 hq9, if_pos c_77]; rfl) | (rw [innM_t hj1 hq9, if_neg c_77]; rfl)))
                    · skip
                      refine lv_bipush (v := (nI 100)) hx hb dX7_mirrors_80 (by decide) ?_
                      refine lv_iload hx hb dX7_mirrors_82 (lv_at hl 1 rfl) ?_
                      refine lv_imul hx hb dX7_mirrors_84 ?_
                      refine tp_i (y := (nI (100 * i1))) (pk_mul _ _) ?_
                      refine lv_iload hx hb dX7_mirrors_85 (lv_at hl 0 rfl) ?_
                      refine lv_iadd hx hb dX7_mirrors_87 ?_
                      refine tp_i (y := (nI ((100 * i1) + j1))) (nI_add _ _) ?_
                      refine lv_goto (tgt := 93) hx hb dX7_mirrors_88 (by decide) ?_
                      refine lv_istore (lv' := [(5, .int (nI ((100 * i1) + j1))), (7, .int (nI j1)), (6, .int (nI i1)), (4, .int (nI ((innM (miQ (gS ss) (ss 1) (ss 0) S0) i1 R0 (outM (miQ (gS ss) (ss 1) (ss 0) S0) (ss 0) R0 i1) j1).1))), (3, .int (bI il0)), (0, .ref ma), (1, .int (nI S0)), (2, .int R0)]) hx hb dX7_mirrors_93 hl (by decide) rfl (fun ls hl => ?_)
                      refine lv_iinc (v := (nI ((innM (miQ (gS ss) (ss 1) (ss 0) S0) i1 R0 (outM (miQ (gS ss) (ss 1) (ss 0) S0) (ss 0) R0 i1) j1).1 + 1))) (lv' := [(4, .int (nI ((innM (miQ (gS ss) (ss 1) (ss 0) S0) i1 R0 (outM (miQ (gS ss) (ss 1) (ss 0) S0) (ss 0) R0 i1) j1).1 + 1))), (5, .int (nI ((100 * i1) + j1))), (7, .int (nI j1)), (6, .int (nI i1)), (3, .int (bI il0)), (0, .ref ma), (1, .int (nI S0)), (2, .int R0)]) hx hb dX7_mirrors_95 hl (k := 3) rfl (nI_1 _) (by decide) rfl (fun ls hl => ?_)
                      refine lv_iinc (v := (nI (j1 + 1))) (lv' := [(7, .int (nI (j1 + 1))), (4, .int (nI ((innM (miQ (gS ss) (ss 1) (ss 0) S0) i1 R0 (outM (miQ (gS ss) (ss 1) (ss 0) S0) (ss 0) R0 i1) j1).1 + 1))), (5, .int (nI ((100 * i1) + j1))), (6, .int (nI i1)), (3, .int (bI il0)), (0, .ref ma), (1, .int (nI S0)), (2, .int R0)]) hx hb dX7_mirrors_98 hl (k := 2) rfl (nI_1 _) (by decide) rfl (fun ls hl => ?_)
                      refine lv_goto (tgt := 31) hx hb dX7_mirrors_101 (by decide) ?_
                      exact ih31 (j1 + 1) false q6 p6 w6 c6 (by first | omega | assumption) (by first | omega | assumption) (by omega) _ _ hP hD hS ls (lv_cast (lv_sub hl [0, 3, 2, 1, 4, 5, 6, 7] rfl) (by first | (rw [innM_f hq9]; rfl) | (rw [innM_t hj1 hq9, if_pos c_77]; rfl) | (rw [innM_t hj1 hq9, if_neg c_77]; rfl)))
        exact LP31 ((ss 0 - (i1 + 1)) + 1) (i1 + 1) b8 q8 p8 w8 c8 (by first | omega | assumption) (by first | omega | assumption) (Nat.lt_succ_self _) _ _ hP hD hS ls (lv_cast (lv_sub hl [0, 1, 2, 3, 4, 5, 6, 7] rfl) (by rw [innM_lo (i1 + 1) (Nat.le_refl _)]; rfl))
  exact LP14 ((ss 0 - 0) + 1) 0 il0 qu pj wj cj (by first | omega | assumption) (Nat.lt_succ_self _) _ _ hP hD hS ls (lv_cast (lv_sub hl [0, 1, 2, 3, 4, 5, 6] rfl) (by rfl))
set_option maxHeartbeats 8000000 in
set_option maxRecDepth 100000 in
theorem c_X7_classes (l : Launch) (Γ : kG) (ma : Nat) (ms : Nat) (sn0 : Nat) (mk : Nat) (tw0 : Nat) (mt : Nat) (ty0 : Nat) (mb : Nat) (il0 : Bool) (me : Nat) (mr : Nat) (my0 : Nat) (mq : Nat) (mp : Nat) (mw : Nat) (mc : Nat) (ss : Nat → Nat) (tr : Nat → Nat) (qu : Nat → Nat) (pj : Nat → Int32) (wj : Nat → Int32) (cj : Nat → Int64) (h0 : ss 0 ≤ 14) (h1 : ss 1 < 2 ^ ss 0) (hfg : FG (gS ss)) : WRi l yX7_classes (wsq yX7_classes cX7_classes 3 (some .int)) (rmL 5) Γ [.ref ma] [(ma, .inr (7, [.ref ms, .int (nI sn0), .ref mk, .int (nI tw0), .ref mt, .int (nI ty0), .ref mb, .int (bI il0), .ref me, .ref mr, .int (nI my0), .ref mq, .ref mp, .ref mw, .ref mc])), (ms, .inl (Γ.2 0, 162, .inl (aN ss))), (mr, .inl (Γ.2 0, 14, .inl (aN tr))), (mq, .inl (Γ.2 0, 14, .inl (aN qu))), (mp, .inl (Γ.2 0, 14, .inl pj)), (mw, .inl (Γ.2 0, 14, .inl wj)), (mc, .inl (Γ.2 3, 14, .inr (.inl cj)))] (fun u : (Nat → Nat) × (Nat → Int32) × (Nat → Int32) × (Nat → Int64) => [(ma, .inr (7, [.ref ms, .int (nI sn0), .ref mk, .int (nI tw0), .ref mt, .int (nI ty0), .ref mb, .int (bI il0), .ref me, .ref mr, .int (nI (trC (gS ss) (ss 1))), .ref mq, .ref mp, .ref mw, .ref mc])), (ms, .inl (Γ.2 0, 162, .inl (aN ss))), (mr, .inl (Γ.2 0, 14, .inl (aN (trS tr (gS ss) (ss 1) (trC (gS ss) (ss 1)))))), (mq, .inl (Γ.2 0, 14, .inl (aN u.1))), (mp, .inl (Γ.2 0, 14, .inl u.2.1)), (mw, .inl (Γ.2 0, 14, .inl u.2.2.1)), (mc, .inl (Γ.2 3, 14, .inr (.inl u.2.2.2)))]) (fun (r : Int32) (u : (Nat → Nat) × (Nat → Int32) × (Nat → Int32) × (Nat → Int64)) => r = (nI (clN (gS ss) (trA (gS ss) (ss 1)) (ss 0) (trC (gS ss) (ss 1))))) := by
  refine wr_ofi (cc := cX7_classes) (maxL := 3) (by decide +kernel) (Nat.le_of_ble_eq_true rfl) rfl ?_
  intro p ev R st mi args below meth cd Q A ls C0 hR hret hP hD hS hl
  obtain ⟨hx, hb, hr, hml, hown, hts, hlk, hK, hnm⟩ := C0
  have hown : st.vm.findClass RX7 = some mi.cls := hown
  have hwn := w14 h1 h0
  have hc := (trC_spec (gS ss) hwn).1
  refine lv_aload_n hx hb dX7_classes_0 rfl (lv_at hl 0 rfl) ?_
  refine wr_finv (va_runV (As := []) (rest := []) ⟨hx, hb, hml, hown, hts⟩ (c_X7_finds l Γ ma ms sn0 mk tw0 mt ty0 mb il0 me mr my0 mq mp mw mc ss tr (by first | omega | assumption) (by first | omega | assumption)) (kcwV 0 hts kv_X7_finds mw_505 (rm_le hR (Nat.le_of_ble_eq_true rfl) (Nat.le_of_ble_eq_true rfl))) (kPw_V hK (va_recv hK.1 hP (ci := 7) (q0 := 0) rfl rfl) (hP.sub (ws' := [(ma, .inr (7, [.ref ms, .int (nI sn0), .ref mk, .int (nI tw0), .ref mt, .int (nI ty0), .ref mb, .int (bI il0), .ref me, .ref mr, .int (nI my0), .ref mq, .ref mp, .ref mw, .ref mc])), (ms, .inl (Γ.2 0, 162, .inl (aN ss))), (mr, .inl (Γ.2 0, 14, .inl (aN tr)))]) [0, 1, 2] rfl) (hD.sub (ws' := [(ma, .inr (7, [.ref ms, .int (nI sn0), .ref mk, .int (nI tw0), .ref mt, .int (nI ty0), .ref mb, .int (bI il0), .ref me, .ref mr, .int (nI my0), .ref mq, .ref mp, .ref mw, .ref mc])), (ms, .inl (Γ.2 0, 162, .inl (aN ss))), (mr, .inl (Γ.2 0, 14, .inl (aN tr)))]) [0, 1, 2] (by decide) rfl)) rfl rfl hl.1 rfl (lv_room (Nat.le_of_ble_eq_true rfl)) dX7_classes_1 ⟨Nat.zero_le _, Nat.zero_le _⟩) hP hD hS [0, 1, 2] rfl (fun _ => rfl) (fun _ H locs hw hP hD hS => ?_)
  have hP : va_P Γ.1 vwCl [(ma, .inr (7, [.ref ms, .int (nI sn0), .ref mk, .int (nI tw0), .ref mt, .int (nI ty0), .ref mb, .int (bI il0), .ref me, .ref mr, .int (nI (trC (gS ss) (ss 1))), .ref mq, .ref mp, .ref mw, .ref mc])), (ms, .inl (Γ.2 0, 162, .inl (aN ss))), (mr, .inl (Γ.2 0, 14, .inl (aN (trS tr (gS ss) (ss 1) (trC (gS ss) (ss 1)))))), (mq, .inl (Γ.2 0, 14, .inl (aN qu))), (mp, .inl (Γ.2 0, 14, .inl pj)), (mw, .inl (Γ.2 0, 14, .inl wj)), (mc, .inl (Γ.2 3, 14, .inr (.inl cj)))] H := hP
  have hD : va_D A [(ma, .inr (7, [.ref ms, .int (nI sn0), .ref mk, .int (nI tw0), .ref mt, .int (nI ty0), .ref mb, .int (bI il0), .ref me, .ref mr, .int (nI (trC (gS ss) (ss 1))), .ref mq, .ref mp, .ref mw, .ref mc])), (ms, .inl (Γ.2 0, 162, .inl (aN ss))), (mr, .inl (Γ.2 0, 14, .inl (aN (trS tr (gS ss) (ss 1) (trC (gS ss) (ss 1)))))), (mq, .inl (Γ.2 0, 14, .inl (aN qu))), (mp, .inl (Γ.2 0, 14, .inl pj)), (mw, .inl (Γ.2 0, 14, .inl wj)), (mc, .inl (Γ.2 3, 14, .inr (.inl cj)))] := hD
  refine lv_iconst (v := (nI 0)) hx hb dX7_classes_4 (by decide) ?_
  refine lv_istore_n (lv' := [(1, .int (nI 0)), (0, .ref ma)]) hx hb dX7_classes_5 rfl hl (by decide) rfl (fun ls hl => ?_)
  refine lv_iconst (v := (nI 0)) hx hb dX7_classes_6 (by decide) ?_
  refine lv_istore_n (lv' := [(2, .int (nI 0)), (1, .int (nI 0)), (0, .ref ma)]) hx hb dX7_classes_7 rfl hl (by decide) rfl (fun ls hl => ?_)
  have LP8 : ∀ (fu : Nat) (k1 : Nat) (q8 : Nat → Nat) (p8 : Nat → Int32) (w8 : Nat → Int32) (c8 : Nat → Int64) (hk1 : k1 ≤ (trC (gS ss) (ss 1))), ((trC (gS ss) (ss 1)) - k1) < fu → ∀ (H : Heap) (locs : List Loc), va_P Γ.1 vwCl [(ma, .inr (7, [.ref ms, .int (nI sn0), .ref mk, .int (nI tw0), .ref mt, .int (nI ty0), .ref mb, .int (bI il0), .ref me, .ref mr, .int (nI (trC (gS ss) (ss 1))), .ref mq, .ref mp, .ref mw, .ref mc])), (ms, .inl (Γ.2 0, 162, .inl (aN ss))), (mr, .inl (Γ.2 0, 14, .inl (aN (trS tr (gS ss) (ss 1) (trC (gS ss) (ss 1)))))), (mq, .inl (Γ.2 0, 14, .inl (aN q8))), (mp, .inl (Γ.2 0, 14, .inl p8)), (mw, .inl (Γ.2 0, 14, .inl w8)), (mc, .inl (Γ.2 3, 14, .inr (.inl c8)))] H → va_D A [(ma, .inr (7, [.ref ms, .int (nI sn0), .ref mk, .int (nI tw0), .ref mt, .int (nI ty0), .ref mb, .int (bI il0), .ref me, .ref mr, .int (nI (trC (gS ss) (ss 1))), .ref mq, .ref mp, .ref mw, .ref mc])), (ms, .inl (Γ.2 0, 162, .inl (aN ss))), (mr, .inl (Γ.2 0, 14, .inl (aN (trS tr (gS ss) (ss 1) (trC (gS ss) (ss 1)))))), (mq, .inl (Γ.2 0, 14, .inl (aN q8))), (mp, .inl (Γ.2 0, 14, .inl p8)), (mw, .inl (Γ.2 0, 14, .inl w8)), (mc, .inl (Γ.2 3, 14, .inr (.inl c8)))] → va_S A st.heap H locs → ∀ (ls : Array Slot), lv_has ls 3 [(2, .int (nI k1)), (1, .int (nI (clN (gS ss) (trA (gS ss) (ss 1)) (ss 0) k1))), (0, .ref ma)] → W p l ev R st mi args below meth cd H locs 0 0 Q (F0 mi 8 ls []) := by
    intro fu
    induction fu with
    | zero => intro k1 q8 p8 w8 c8 hk1 hfu; exact absurd hfu (Nat.not_lt_zero _)
    | succ fu ih8 =>
      intro k1 q8 p8 w8 c8 hk1 hfu H locs hP hD hS ls hl
      refine lv_iload_n hx hb dX7_classes_8 rfl (lv_at hl 0 rfl) ?_
      refine lv_aload_n hx hb dX7_classes_9 rfl (lv_at hl 2 rfl) ?_
      refine va_get (D := Γ.1) (ci := 7) (v := .int (nI (trC (gS ss) (ss 1)))) (C := RX7) (T := TX7) (N := 15) hx hb hts hinX7 hown hK.1 hP 0 rfl rfl 10 (by decide) (hts _ mw_450) (fun _ h9 => h9) rfl dX7_classes_10 ?_
      refine nb_icmp_ge (tgt := 39) hx hb (by first | omega | assumption) (by first | omega | assumption) dX7_classes_13 (by decide) (fun c_13 => ?_) (fun c_13 => ?_)
      · skip
        have he9 : (trC (gS ss) (ss 1)) = k1 := by omega
        subst he9
        refine lv_iload_n hx hb dX7_classes_39 rfl (lv_at hl 1 rfl) ?_
        exact hret (q8, p8, w8, c8) hP hS (rfl) dX7_classes_40
      · skip
        refine lv_iload_n hx hb dX7_classes_16 rfl (lv_at hl 1 rfl) ?_
        refine lv_aload_n hx hb dX7_classes_17 rfl (lv_at hl 2 rfl) ?_
        refine lv_iload_n hx hb dX7_classes_18 rfl (lv_at hl 0 rfl) ?_
        refine wr_fini (va_runV (As := [.int (nI k1)]) (rest := [.int (nI (clN (gS ss) (trA (gS ss) (ss 1)) (ss 0) k1))]) ⟨hx, hb, hml, hown, hts⟩ (c_X7_classOf l Γ ma ms sn0 mk tw0 mt ty0 mb il0 me mr (trC (gS ss) (ss 1)) mq mp mw mc ss (trS tr (gS ss) (ss 1) (trC (gS ss) (ss 1))) q8 p8 w8 c8 k1 (by first | omega | assumption) (by first | omega | assumption) (by first | omega | assumption) (fun i9 h9 => by rw [trS_at (by omega)]; exact trA_n h1 hwn i9)) (kcwV 1 hts kv_X7_classOf mw_554 (rm_le hR (Nat.le_of_ble_eq_true rfl) (Nat.le_of_ble_eq_true rfl))) (kPw_V hK (va_recv hK.1 hP (ci := 7) (q0 := 0) rfl rfl) (hP.sub (ws' := [(ma, .inr (7, [.ref ms, .int (nI sn0), .ref mk, .int (nI tw0), .ref mt, .int (nI ty0), .ref mb, .int (bI il0), .ref me, .ref mr, .int (nI (trC (gS ss) (ss 1))), .ref mq, .ref mp, .ref mw, .ref mc])), (ms, .inl (Γ.2 0, 162, .inl (aN ss))), (mr, .inl (Γ.2 0, 14, .inl (aN (trS tr (gS ss) (ss 1) (trC (gS ss) (ss 1)))))), (mq, .inl (Γ.2 0, 14, .inl (aN q8))), (mp, .inl (Γ.2 0, 14, .inl p8)), (mw, .inl (Γ.2 0, 14, .inl w8)), (mc, .inl (Γ.2 3, 14, .inr (.inl c8)))]) [0, 1, 2, 3, 4, 5, 6] rfl) (hD.sub (ws' := [(ma, .inr (7, [.ref ms, .int (nI sn0), .ref mk, .int (nI tw0), .ref mt, .int (nI ty0), .ref mb, .int (bI il0), .ref me, .ref mr, .int (nI (trC (gS ss) (ss 1))), .ref mq, .ref mp, .ref mw, .ref mc])), (ms, .inl (Γ.2 0, 162, .inl (aN ss))), (mr, .inl (Γ.2 0, 14, .inl (aN (trS tr (gS ss) (ss 1) (trC (gS ss) (ss 1)))))), (mq, .inl (Γ.2 0, 14, .inl (aN q8))), (mp, .inl (Γ.2 0, 14, .inl p8)), (mw, .inl (Γ.2 0, 14, .inl w8)), (mc, .inl (Γ.2 3, 14, .inr (.inl c8)))]) [0, 1, 2, 3, 4, 5, 6] (by decide) rfl)) rfl rfl hl.1 rfl (lv_room (Nat.le_of_ble_eq_true rfl)) dX7_classes_19 ⟨Nat.zero_le _, Nat.zero_le _⟩) hP hD hS [0, 1, 2, 3, 4, 5, 6] rfl (fun _ => rfl) (fun r u H locs hw hP hD hS => ?_)
        obtain ⟨q7, p7, w7, c7⟩ := u
        obtain rfl := hw
        have hP : va_P Γ.1 vwCl [(ma, .inr (7, [.ref ms, .int (nI sn0), .ref mk, .int (nI tw0), .ref mt, .int (nI ty0), .ref mb, .int (bI il0), .ref me, .ref mr, .int (nI (trC (gS ss) (ss 1))), .ref mq, .ref mp, .ref mw, .ref mc])), (ms, .inl (Γ.2 0, 162, .inl (aN ss))), (mr, .inl (Γ.2 0, 14, .inl (aN (trS tr (gS ss) (ss 1) (trC (gS ss) (ss 1)))))), (mq, .inl (Γ.2 0, 14, .inl (aN q7))), (mp, .inl (Γ.2 0, 14, .inl p7)), (mw, .inl (Γ.2 0, 14, .inl w7)), (mc, .inl (Γ.2 3, 14, .inr (.inl c7)))] H := hP
        have hD : va_D A [(ma, .inr (7, [.ref ms, .int (nI sn0), .ref mk, .int (nI tw0), .ref mt, .int (nI ty0), .ref mb, .int (bI il0), .ref me, .ref mr, .int (nI (trC (gS ss) (ss 1))), .ref mq, .ref mp, .ref mw, .ref mc])), (ms, .inl (Γ.2 0, 162, .inl (aN ss))), (mr, .inl (Γ.2 0, 14, .inl (aN (trS tr (gS ss) (ss 1) (trC (gS ss) (ss 1)))))), (mq, .inl (Γ.2 0, 14, .inl (aN q7))), (mp, .inl (Γ.2 0, 14, .inl p7)), (mw, .inl (Γ.2 0, 14, .inl w7)), (mc, .inl (Γ.2 3, 14, .inr (.inl c7)))] := hD
        refine tp_i (y := (nI (alk (gS ss) (trA (gS ss) (ss 1)) (ss 0) k1))) (by rw [alk_tr (fun i9 h9 => trS_at (by omega))]) ?_
        refine lv_iload_n hx hb dX7_classes_22 rfl (lv_at hl 0 rfl) ?_
        have hle9 := alk_le (gS ss) (trA (gS ss) (ss 1)) (ss 0) k1
        refine nb_icmp_ne (tgt := 30) hx hb (by omega) (by omega) dX7_classes_23 (by decide) (fun c_23 => ?_) (fun c_23 => ?_)
        · skip
          refine lv_iconst (v := (nI 0)) hx hb dX7_classes_30 (by decide) ?_
          refine lv_iadd hx hb dX7_classes_31 ?_
          refine tp_i (y := (nI ((clN (gS ss) (trA (gS ss) (ss 1)) (ss 0) k1) + 0))) (nI_add _ _) ?_
          refine tp_i (y := (nI (clN (gS ss) (trA (gS ss) (ss 1)) (ss 0) (k1 + 1)))) (by first | (rw [clN, if_pos c_23]) | (rw [clN, if_neg c_23]; rfl) | (rw [clN, if_neg c_23])) ?_
          refine lv_istore_n (lv' := [(1, .int (nI (clN (gS ss) (trA (gS ss) (ss 1)) (ss 0) (k1 + 1)))), (2, .int (nI k1)), (0, .ref ma)]) hx hb dX7_classes_32 rfl hl (by decide) rfl (fun ls hl => ?_)
          refine lv_iinc (v := (nI (k1 + 1))) (lv' := [(2, .int (nI (k1 + 1))), (1, .int (nI (clN (gS ss) (trA (gS ss) (ss 1)) (ss 0) (k1 + 1)))), (0, .ref ma)]) hx hb dX7_classes_33 hl (k := 1) rfl (nI_1 _) (by decide) rfl (fun ls hl => ?_)
          refine lv_goto (tgt := 8) hx hb dX7_classes_36 (by decide) ?_
          exact ih8 (k1 + 1) q7 p7 w7 c7 (by first | omega | assumption) (by omega) _ _ hP hD hS ls (lv_sub hl [0, 1, 2] rfl)
        · skip
          refine lv_iconst (v := (nI 1)) hx hb dX7_classes_26 (by decide) ?_
          refine lv_goto (tgt := 31) hx hb dX7_classes_27 (by decide) ?_
          refine lv_iadd hx hb dX7_classes_31 ?_
          refine tp_i (y := (nI ((clN (gS ss) (trA (gS ss) (ss 1)) (ss 0) k1) + 1))) (nI_add _ _) ?_
          refine tp_i (y := (nI (clN (gS ss) (trA (gS ss) (ss 1)) (ss 0) (k1 + 1)))) (by first | (rw [clN, if_pos c_23]) | (rw [clN, if_neg c_23]; rfl) | (rw [clN, if_neg c_23])) ?_
          refine lv_istore_n (lv' := [(1, .int (nI (clN (gS ss) (trA (gS ss) (ss 1)) (ss 0) (k1 + 1)))), (2, .int (nI k1)), (0, .ref ma)]) hx hb dX7_classes_32 rfl hl (by decide) rfl (fun ls hl => ?_)
          refine lv_iinc (v := (nI (k1 + 1))) (lv' := [(2, .int (nI (k1 + 1))), (1, .int (nI (clN (gS ss) (trA (gS ss) (ss 1)) (ss 0) (k1 + 1)))), (0, .ref ma)]) hx hb dX7_classes_33 hl (k := 1) rfl (nI_1 _) (by decide) rfl (fun ls hl => ?_)
          refine lv_goto (tgt := 8) hx hb dX7_classes_36 (by decide) ?_
          exact ih8 (k1 + 1) q7 p7 w7 c7 (by first | omega | assumption) (by omega) _ _ hP hD hS ls (lv_sub hl [0, 1, 2] rfl)
  exact LP8 (((trC (gS ss) (ss 1)) - 0) + 1) 0 qu pj wj cj (by first | omega | assumption) (Nat.lt_succ_self _) _ _ hP hD hS ls (lv_cast (lv_sub hl [0, 1, 2] rfl) (by rfl))
