set_option maxHeartbeats 8000000 in
set_option maxRecDepth 100000 in
theorem c_X7_lasts (l : Launch) (Γ : kG) (ma : Nat) (ms : Nat) (sn0 : Nat) (mk : Nat) (tw0 : Nat) (mt : Nat) (ty0 : Nat) (mb : Nat) (il0 : Bool) (me : Nat) (mr : Nat) (my0 : Nat) (mq : Nat) (mp : Nat) (mw : Nat) (mc : Nat) (ss : Nat → Nat) (tb : Nat → Nat) (ed : Nat → Nat) (b1 : Bool) (h0 : ss 0 ≤ 14) (h1 : ss 1 < 2 ^ ss 0) (htb : tbLt tb) (hil : il0 = true → tbOk (gS ss) tb (2 ^ ss 0)) : WRi l yX7_lasts (wsq yX7_lasts cX7_lasts 2 (some .int)) (rmL 5) Γ [.ref ma, .int (bI b1)] [(ma, .inr (7, [.ref ms, .int (nI sn0), .ref mk, .int (nI tw0), .ref mt, .int (nI ty0), .ref mb, .int (bI il0), .ref me, .ref mr, .int (nI my0), .ref mq, .ref mp, .ref mw, .ref mc])), (ms, .inl (Γ.2 0, 162, .inl (aN ss))), (mb, .inl (Γ.2 0, 16384, .inl (aN tb))), (me, .inl (Γ.2 0, 14, .inl (aN ed)))] (fun u : (Nat → Nat) × (Nat → Nat) => [(ma, .inr (7, [.ref ms, .int (nI sn0), .ref mk, .int (nI tw0), .ref mt, .int (nI ty0), .ref mb, .int (bI true), .ref me, .ref mr, .int (nI my0), .ref mq, .ref mp, .ref mw, .ref mc])), (ms, .inl (Γ.2 0, 162, .inl (aN ss))), (mb, .inl (Γ.2 0, 16384, .inl (aN u.1))), (me, .inl (Γ.2 0, 14, .inl (aN u.2)))]) (fun (r : Int32) (u : (Nat → Nat) × (Nat → Nat)) => r = (nI (laS b1 (gS ss) (ss 1))) ∧ tbOk (gS ss) u.1 (2 ^ ss 0) ∧ tbLt u.1) := by
  refine wr_ofi (cc := cX7_lasts) (maxL := 2) (by decide +kernel) (Nat.le_of_ble_eq_true rfl) rfl ?_
  intro p ev R st mi args below meth cd Q A ls C0 hR hret hP hD hS hl
  obtain ⟨hx, hb, hr, hml, hown, hts, hlk, hK, hnm⟩ := C0
  have hown : st.vm.findClass RX7 = some mi.cls := hown
  have hw := w14 h1 h0
  refine lv_aload_n hx hb dX7_lasts_0 rfl (lv_at hl 0 rfl) ?_
  refine lv_aload_n hx hb dX7_lasts_1 rfl (lv_at hl 0 rfl) ?_
  refine va_get (D := Γ.1) (ci := 7) (v := .ref ms) (C := RX7) (T := TX7) (N := 15) hx hb hts hinX7 hown hK.1 hP 0 rfl rfl 0 (by decide) (hts _ mw_400) (fun _ h9 => h9) rfl dX7_lasts_2 ?_
  refine lv_iconst (v := (nI 1)) hx hb dX7_lasts_5 (by decide) ?_
  refine iald_N hx hb hK.1 hP 1 0 rfl rfl (by omega) (by first | decide | assumption) dX7_lasts_6 ?_
  refine wr_fini (va_runV (As := [.int (nI (ss 1))]) (rest := []) ⟨hx, hb, hml, hown, hts⟩ (c_X7_of l Γ ma ms sn0 mk tw0 mt ty0 mb il0 me mr my0 mq mp mw mc ss tb ed (ss 1) (by first | omega | assumption) (by first | omega | assumption) (by first | omega | assumption) (by first | omega | assumption)) (kcwV 1 hts kv_X7_of mw_445 (rm_le hR (Nat.le_of_ble_eq_true rfl) (Nat.le_of_ble_eq_true rfl))) (kPw_V hK (va_recv hK.1 hP (ci := 7) (q0 := 0) rfl rfl) (hP.sub (ws' := [(ma, .inr (7, [.ref ms, .int (nI sn0), .ref mk, .int (nI tw0), .ref mt, .int (nI ty0), .ref mb, .int (bI il0), .ref me, .ref mr, .int (nI my0), .ref mq, .ref mp, .ref mw, .ref mc])), (ms, .inl (Γ.2 0, 162, .inl (aN ss))), (mb, .inl (Γ.2 0, 16384, .inl (aN tb))), (me, .inl (Γ.2 0, 14, .inl (aN ed)))]) [0, 1, 2, 3] rfl) (hD.sub (ws' := [(ma, .inr (7, [.ref ms, .int (nI sn0), .ref mk, .int (nI tw0), .ref mt, .int (nI ty0), .ref mb, .int (bI il0), .ref me, .ref mr, .int (nI my0), .ref mq, .ref mp, .ref mw, .ref mc])), (ms, .inl (Γ.2 0, 162, .inl (aN ss))), (mb, .inl (Γ.2 0, 16384, .inl (aN tb))), (me, .inl (Γ.2 0, 14, .inl (aN ed)))]) [0, 1, 2, 3] (by decide) rfl)) rfl rfl hl.1 rfl (lv_room (Nat.le_of_ble_eq_true rfl)) dX7_lasts_7 ⟨Nat.zero_le _, Nat.zero_le _⟩) hP hD hS [0, 1, 2, 3] rfl (fun _ => rfl) (fun r u H locs hw hP hD hS => ?_)
  obtain ⟨t7, e7⟩ := u
  obtain ⟨rfl, hq8, hr8⟩ := hw
  have hP : va_P Γ.1 vwCl [(ma, .inr (7, [.ref ms, .int (nI sn0), .ref mk, .int (nI tw0), .ref mt, .int (nI ty0), .ref mb, .int (bI true), .ref me, .ref mr, .int (nI my0), .ref mq, .ref mp, .ref mw, .ref mc])), (ms, .inl (Γ.2 0, 162, .inl (aN ss))), (mb, .inl (Γ.2 0, 16384, .inl (aN t7))), (me, .inl (Γ.2 0, 14, .inl (aN e7)))] H := hP
  have hD : va_D A [(ma, .inr (7, [.ref ms, .int (nI sn0), .ref mk, .int (nI tw0), .ref mt, .int (nI ty0), .ref mb, .int (bI true), .ref me, .ref mr, .int (nI my0), .ref mq, .ref mp, .ref mw, .ref mc])), (ms, .inl (Γ.2 0, 162, .inl (aN ss))), (mb, .inl (Γ.2 0, 16384, .inl (aN t7))), (me, .inl (Γ.2 0, 14, .inl (aN e7)))] := hD
  refine lv_iload_n hx hb dX7_lasts_10 rfl (lv_at hl 1 rfl) ?_
  refine nb_ifb_eq (tgt := 18) hx hb dX7_lasts_11 (by decide) (fun c_11 => ?_) (fun c_11 => ?_)
  · skip
    refine lv_bipush (v := (nI 8)) hx hb dX7_lasts_18 (by decide) ?_
    refine lv_ishr hx hb dX7_lasts_20 ?_
    refine tp_i (y := (nI ((T (gS ss) (ss 1)) >>> 8))) (ni_shr (by omega) (Nat.lt_trans (T_lt _ hw) (by decide))) ?_
    refine lv_bipush (v := (nI 15)) hx hb dX7_lasts_21 (by decide) ?_
    refine lv_iand hx hb dX7_lasts_23 ?_
    refine tp_i (y := (nI (((T (gS ss) (ss 1)) >>> 8) &&& 15))) (ni_and _ _) ?_
    refine tp_i (y := (nI (laS b1 (gS ss) (ss 1)))) (by first | (rw [laS, if_t c_11]; rfl) | (rw [laS, if_f c_11]; rfl)) ?_
    exact hret (t7, e7) hP hS (⟨rfl, hq8, hr8⟩) dX7_lasts_24
  · skip
    refine lv_iconst (v := (nI 4)) hx hb dX7_lasts_14 (by decide) ?_
    refine lv_goto (tgt := 20) hx hb dX7_lasts_15 (by decide) ?_
    refine lv_ishr hx hb dX7_lasts_20 ?_
    refine tp_i (y := (nI ((T (gS ss) (ss 1)) >>> 4))) (ni_shr (by omega) (Nat.lt_trans (T_lt _ hw) (by decide))) ?_
    refine lv_bipush (v := (nI 15)) hx hb dX7_lasts_21 (by decide) ?_
    refine lv_iand hx hb dX7_lasts_23 ?_
    refine tp_i (y := (nI (((T (gS ss) (ss 1)) >>> 4) &&& 15))) (ni_and _ _) ?_
    refine tp_i (y := (nI (laS b1 (gS ss) (ss 1)))) (by first | (rw [laS, if_t c_11]; rfl) | (rw [laS, if_f c_11]; rfl)) ?_
    exact hret (t7, e7) hP hS (⟨rfl, hq8, hr8⟩) dX7_lasts_24
set_option maxHeartbeats 8000000 in
set_option maxRecDepth 100000 in
theorem c_X7_treeOf (l : Launch) (Γ : kG) (ma : Nat) (ms : Nat) (sn0 : Nat) (mk : Nat) (tw0 : Nat) (mt : Nat) (ty0 : Nat) (mb : Nat) (il0 : Bool) (me : Nat) (mr : Nat) (my0 : Nat) (mq : Nat) (mp : Nat) (mw : Nat) (mc : Nat) (ss : Nat → Nat) (tr : Nat → Nat) (v0 : Nat) (h0 : ss 0 ≤ 14) (h1 : ss 1 < 2 ^ ss 0) (hv0 : v0 < 14) : WRi l yX7_treeOf (wsq yX7_treeOf cX7_treeOf 4 (some .int)) (rmL 4) Γ [.ref ma, .int (nI v0)] [(ma, .inr (7, [.ref ms, .int (nI sn0), .ref mk, .int (nI tw0), .ref mt, .int (nI ty0), .ref mb, .int (bI il0), .ref me, .ref mr, .int (nI my0), .ref mq, .ref mp, .ref mw, .ref mc])), (ms, .inl (Γ.2 0, 162, .inl (aN ss))), (mr, .inl (Γ.2 0, 14, .inl (aN tr)))] (fun u : Unit => [(ma, .inr (7, [.ref ms, .int (nI sn0), .ref mk, .int (nI tw0), .ref mt, .int (nI ty0), .ref mb, .int (bI il0), .ref me, .ref mr, .int (nI (trC (gS ss) (ss 1))), .ref mq, .ref mp, .ref mw, .ref mc])), (ms, .inl (Γ.2 0, 162, .inl (aN ss))), (mr, .inl (Γ.2 0, 14, .inl (aN (trS tr (gS ss) (ss 1) (trC (gS ss) (ss 1))))))]) (fun (r : Int32) (u : Unit) => r = (tfS (gS ss) (ss 1) v0 (trC (gS ss) (ss 1)))) := by
  refine wr_ofi (cc := cX7_treeOf) (maxL := 4) (by decide +kernel) (Nat.le_of_ble_eq_true rfl) rfl ?_
  intro p ev R st mi args below meth cd Q A ls C0 hR hret hP hD hS hl
  obtain ⟨hx, hb, hr, hml, hown, hts, hlk, hK, hnm⟩ := C0
  have hown : st.vm.findClass RX7 = some mi.cls := hown
  have hw := w14 h1 h0
  have hc := (trC_spec (gS ss) hw).1
  refine lv_aload_n hx hb dX7_treeOf_0 rfl (lv_at hl 0 rfl) ?_
  refine wr_finv (va_runV (As := []) (rest := []) ⟨hx, hb, hml, hown, hts⟩ (c_X7_finds l Γ ma ms sn0 mk tw0 mt ty0 mb il0 me mr my0 mq mp mw mc ss tr (by first | omega | assumption) (by first | omega | assumption)) (kcwV 0 hts kv_X7_finds mw_505 (rm_le hR (Nat.le_of_ble_eq_true rfl) (Nat.le_of_ble_eq_true rfl))) (kPw_V hK (va_recv hK.1 hP (ci := 7) (q0 := 0) rfl rfl) (hP.sub (ws' := [(ma, .inr (7, [.ref ms, .int (nI sn0), .ref mk, .int (nI tw0), .ref mt, .int (nI ty0), .ref mb, .int (bI il0), .ref me, .ref mr, .int (nI my0), .ref mq, .ref mp, .ref mw, .ref mc])), (ms, .inl (Γ.2 0, 162, .inl (aN ss))), (mr, .inl (Γ.2 0, 14, .inl (aN tr)))]) [0, 1, 2] rfl) (hD.sub (ws' := [(ma, .inr (7, [.ref ms, .int (nI sn0), .ref mk, .int (nI tw0), .ref mt, .int (nI ty0), .ref mb, .int (bI il0), .ref me, .ref mr, .int (nI my0), .ref mq, .ref mp, .ref mw, .ref mc])), (ms, .inl (Γ.2 0, 162, .inl (aN ss))), (mr, .inl (Γ.2 0, 14, .inl (aN tr)))]) [0, 1, 2] (by decide) rfl)) rfl rfl hl.1 rfl (lv_room (Nat.le_of_ble_eq_true rfl)) dX7_treeOf_1 ⟨Nat.zero_le _, Nat.zero_le _⟩) hP hD hS [0, 1, 2] rfl (fun _ => rfl) (fun _ H locs hw hP hD hS => ?_)
  have hP : va_P Γ.1 vwCl [(ma, .inr (7, [.ref ms, .int (nI sn0), .ref mk, .int (nI tw0), .ref mt, .int (nI ty0), .ref mb, .int (bI il0), .ref me, .ref mr, .int (nI (trC (gS ss) (ss 1))), .ref mq, .ref mp, .ref mw, .ref mc])), (ms, .inl (Γ.2 0, 162, .inl (aN ss))), (mr, .inl (Γ.2 0, 14, .inl (aN (trS tr (gS ss) (ss 1) (trC (gS ss) (ss 1))))))] H := hP
  have hD : va_D A [(ma, .inr (7, [.ref ms, .int (nI sn0), .ref mk, .int (nI tw0), .ref mt, .int (nI ty0), .ref mb, .int (bI il0), .ref me, .ref mr, .int (nI (trC (gS ss) (ss 1))), .ref mq, .ref mp, .ref mw, .ref mc])), (ms, .inl (Γ.2 0, 162, .inl (aN ss))), (mr, .inl (Γ.2 0, 14, .inl (aN (trS tr (gS ss) (ss 1) (trC (gS ss) (ss 1))))))] := hD
  refine lv_iconst (v := (-1)) hx hb dX7_treeOf_4 (by decide) ?_
  refine lv_istore_n (lv' := [(2, .int (-1)), (0, .ref ma), (1, .int (nI v0))]) hx hb dX7_treeOf_5 rfl hl (by decide) rfl (fun ls hl => ?_)
  refine lv_iconst (v := (nI 0)) hx hb dX7_treeOf_6 (by decide) ?_
  refine lv_istore_n (lv' := [(3, .int (nI 0)), (2, .int (-1)), (0, .ref ma), (1, .int (nI v0))]) hx hb dX7_treeOf_7 rfl hl (by decide) rfl (fun ls hl => ?_)
  have LP8 : ∀ (fu : Nat) (k0 : Nat) (hk0 : k0 ≤ (trC (gS ss) (ss 1))), ((trC (gS ss) (ss 1)) - k0) < fu → ∀ (H : Heap) (locs : List Loc), va_P Γ.1 vwCl [(ma, .inr (7, [.ref ms, .int (nI sn0), .ref mk, .int (nI tw0), .ref mt, .int (nI ty0), .ref mb, .int (bI il0), .ref me, .ref mr, .int (nI (trC (gS ss) (ss 1))), .ref mq, .ref mp, .ref mw, .ref mc])), (ms, .inl (Γ.2 0, 162, .inl (aN ss))), (mr, .inl (Γ.2 0, 14, .inl (aN (trS tr (gS ss) (ss 1) (trC (gS ss) (ss 1))))))] H → va_D A [(ma, .inr (7, [.ref ms, .int (nI sn0), .ref mk, .int (nI tw0), .ref mt, .int (nI ty0), .ref mb, .int (bI il0), .ref me, .ref mr, .int (nI (trC (gS ss) (ss 1))), .ref mq, .ref mp, .ref mw, .ref mc])), (ms, .inl (Γ.2 0, 162, .inl (aN ss))), (mr, .inl (Γ.2 0, 14, .inl (aN (trS tr (gS ss) (ss 1) (trC (gS ss) (ss 1))))))] → va_S A st.heap H locs → ∀ (ls : Array Slot), lv_has ls 4 [(3, .int (nI k0)), (2, .int (tfS (gS ss) (ss 1) v0 k0)), (0, .ref ma), (1, .int (nI v0))] → W p l ev R st mi args below meth cd H locs 0 0 Q (F0 mi 8 ls []) := by
    intro fu
    induction fu with
    | zero => intro k0 hk0 hfu; exact absurd hfu (Nat.not_lt_zero _)
    | succ fu ih8 =>
      intro k0 hk0 hfu H locs hP hD hS ls hl
      refine lv_iload_n hx hb dX7_treeOf_8 rfl (lv_at hl 0 rfl) ?_
      refine lv_aload_n hx hb dX7_treeOf_9 rfl (lv_at hl 2 rfl) ?_
      refine va_get (D := Γ.1) (ci := 7) (v := .int (nI (trC (gS ss) (ss 1)))) (C := RX7) (T := TX7) (N := 15) hx hb hts hinX7 hown hK.1 hP 0 rfl rfl 10 (by decide) (hts _ mw_450) (fun _ h9 => h9) rfl dX7_treeOf_10 ?_
      refine nb_icmp_ge (tgt := 42) hx hb (by first | omega | assumption) (by first | omega | assumption) dX7_treeOf_13 (by decide) (fun c_13 => ?_) (fun c_13 => ?_)
      · skip
        obtain rfl : k0 = (trC (gS ss) (ss 1)) := by omega
        refine lv_iload_n hx hb dX7_treeOf_42 rfl (lv_at hl 1 rfl) ?_
        exact hret () hP hS (rfl) dX7_treeOf_43
      · skip
        refine lv_aload_n hx hb dX7_treeOf_16 rfl (lv_at hl 2 rfl) ?_
        refine va_get (D := Γ.1) (ci := 7) (v := .ref mr) (C := RX7) (T := TX7) (N := 15) hx hb hts hinX7 hown hK.1 hP 0 rfl rfl 9 (by decide) (hts _ mw_406) (fun _ h9 => h9) rfl dX7_treeOf_17 ?_
        refine lv_iload_n hx hb dX7_treeOf_20 rfl (lv_at hl 0 rfl) ?_
        refine iald_N hx hb hK.1 hP 2 0 rfl rfl (by omega) (by first | decide | assumption) dX7_treeOf_21 ?_
        refine tp_i (y := (nI (trA (gS ss) (ss 1) k0))) (by rw [trS_at c_13]) ?_
        refine lv_iload_n hx hb dX7_treeOf_22 rfl (lv_at hl 3 rfl) ?_
        refine lv_ishr hx hb dX7_treeOf_23 ?_
        refine tp_i (y := (nI ((trA (gS ss) (ss 1) k0) >>> v0))) (ni_shr (by omega) (Nat.lt_trans (trA_lt _ _ _) (by decide))) ?_
        refine lv_iconst (v := (nI 1)) hx hb dX7_treeOf_24 (by decide) ?_
        refine lv_iand hx hb dX7_treeOf_25 ?_
        refine tp_i (y := (nI ((Nat.testBit (trA (gS ss) (ss 1) k0) v0).toNat))) (ni_bit _ _) ?_
        refine lv_iconst (v := (nI 1)) hx hb dX7_treeOf_26 (by decide) ?_
        refine nb_icmp_ne (tgt := 34) hx hb (tn_lt _) (by omega) dX7_treeOf_27 (by decide) (fun c_27 => ?_) (fun c_27 => ?_)
        · skip
          have hb9 := ts_f (fun q9 => c_27 (tn_1.mpr q9))
          refine lv_iload_n hx hb dX7_treeOf_34 rfl (lv_at hl 1 rfl) ?_
          refine tp_i (y := (tfS (gS ss) (ss 1) v0 (k0 + 1))) (by rw [tfS, if_f hb9]) ?_
          refine lv_istore_n (lv' := [(2, .int (tfS (gS ss) (ss 1) v0 (k0 + 1))), (3, .int (nI k0)), (0, .ref ma), (1, .int (nI v0))]) hx hb dX7_treeOf_35 rfl hl (by decide) rfl (fun ls hl => ?_)
          refine lv_iinc (v := (nI (k0 + 1))) (lv' := [(3, .int (nI (k0 + 1))), (2, .int (tfS (gS ss) (ss 1) v0 (k0 + 1))), (0, .ref ma), (1, .int (nI v0))]) hx hb dX7_treeOf_36 hl (k := 1) rfl (nI_1 _) (by decide) rfl (fun ls hl => ?_)
          refine lv_goto (tgt := 8) hx hb dX7_treeOf_39 (by decide) ?_
          exact ih8 (k0 + 1) (by first | omega | assumption) (by omega) _ _ hP hD hS ls (lv_sub hl [0, 1, 2, 3] rfl)
        · skip
          have hb9 := tn_1.mp c_27
          refine lv_iload_n hx hb dX7_treeOf_30 rfl (lv_at hl 0 rfl) ?_
          refine tp_i (y := (tfS (gS ss) (ss 1) v0 (k0 + 1))) (by rw [tfS, if_t hb9]) ?_
          refine lv_goto (tgt := 35) hx hb dX7_treeOf_31 (by decide) ?_
          refine lv_istore_n (lv' := [(2, .int (tfS (gS ss) (ss 1) v0 (k0 + 1))), (3, .int (nI k0)), (0, .ref ma), (1, .int (nI v0))]) hx hb dX7_treeOf_35 rfl hl (by decide) rfl (fun ls hl => ?_)
          refine lv_iinc (v := (nI (k0 + 1))) (lv' := [(3, .int (nI (k0 + 1))), (2, .int (tfS (gS ss) (ss 1) v0 (k0 + 1))), (0, .ref ma), (1, .int (nI v0))]) hx hb dX7_treeOf_36 hl (k := 1) rfl (nI_1 _) (by decide) rfl (fun ls hl => ?_)
          refine lv_goto (tgt := 8) hx hb dX7_treeOf_39 (by decide) ?_
          exact ih8 (k0 + 1) (by first | omega | assumption) (by omega) _ _ hP hD hS ls (lv_sub hl [0, 1, 2, 3] rfl)
  exact LP8 (((trC (gS ss) (ss 1)) - 0) + 1) 0 (by first | omega | assumption) (Nat.lt_succ_self _) _ _ hP hD hS ls (lv_sub hl [0, 1, 2, 3] rfl)
