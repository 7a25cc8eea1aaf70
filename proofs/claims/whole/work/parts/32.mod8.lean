set_option maxHeartbeats 8000000 in
set_option maxRecDepth 100000 in
theorem c_X7_begins (l : Launch) (Γ : kG) (ma : Nat) (ms : Nat) (sn0 : Nat) (mk : Nat) (tw0 : Nat) (mt : Nat) (ty0 : Nat) (mb : Nat) (il0 : Bool) (me : Nat) (mr : Nat) (my0 : Nat) (mq : Nat) (mp : Nat) (mw : Nat) (mc : Nat) (ss : Nat → Nat) (h0 : ss 0 ≤ 14) : WRv l yX7_begins (wsq yX7_begins cX7_begins 1 none) (rmL 1) Γ [.ref ma] [(ma, .inr (7, [.ref ms, .int (nI sn0), .ref mk, .int (nI tw0), .ref mt, .int (nI ty0), .ref mb, .int (bI il0), .ref me, .ref mr, .int (nI my0), .ref mq, .ref mp, .ref mw, .ref mc])), (ms, .inl (Γ.2 0, 162, .inl (aN ss)))] (fun u : Unit => [(ma, .inr (7, [.ref ms, .int (nI sn0), .ref mk, .int (nI tw0), .ref mt, .int (nI ty0), .ref mb, .int (bI il0), .ref me, .ref mr, .int (nI my0), .ref mq, .ref mp, .ref mw, .ref mc])), (ms, .inl (Γ.2 0, 162, .inl (aN (bgS ss))))]) (fun u : Unit => True) := by
  refine wr_ofv (cc := cX7_begins) (maxL := 1) (by decide +kernel) (Nat.le_of_ble_eq_true rfl) rfl ?_
  intro p ev R st mi args below meth cd Q A ls C0 hR hret hP hD hS hl
  obtain ⟨hx, hb, hr, hml, hown, hts, hlk, hK, hnm⟩ := C0
  have hown : st.vm.findClass RX7 = some mi.cls := hown
  refine lv_aload_n hx hb dX7_begins_0 rfl (lv_at hl 0 rfl) ?_
  refine va_get (D := Γ.1) (ci := 7) (v := .ref ms) (C := RX7) (T := TX7) (N := 15) hx hb hts hinX7 hown hK.1 hP 0 rfl rfl 0 (by decide) (hts _ mw_400) (fun _ h9 => h9) rfl dX7_begins_1 ?_
  refine lv_iconst (v := (nI 1)) hx hb dX7_begins_4 (by decide) ?_
  refine lv_iconst (v := (nI 1)) hx hb dX7_begins_5 (by decide) ?_
  refine lv_aload_n hx hb dX7_begins_6 rfl (lv_at hl 0 rfl) ?_
  refine va_get (D := Γ.1) (ci := 7) (v := .ref ms) (C := RX7) (T := TX7) (N := 15) hx hb hts hinX7 hown hK.1 hP 0 rfl rfl 0 (by decide) (hts _ mw_400) (fun _ h9 => h9) rfl dX7_begins_7 ?_
  refine lv_iconst (v := (nI 0)) hx hb dX7_begins_10 (by decide) ?_
  refine iald_N hx hb hK.1 hP 1 0 rfl rfl (by omega) (by first | decide | assumption) dX7_begins_11 ?_
  refine lv_ishl hx hb dX7_begins_12 ?_
  refine tp_i (y := (nI (2 ^ (ss 0)))) (ni_shl1 (by omega)) ?_
  refine lv_iconst (v := (nI 1)) hx hb dX7_begins_13 (by decide) ?_
  refine lv_isub hx hb dX7_begins_14 ?_
  refine tp_i (y := (nI ((2 ^ (ss 0)) - 1))) (ni_sub (Nat.one_le_two_pow)) ?_
  refine iast_N hx hb hK.1 hP hD hS 1 0 rfl rfl (by omega) (by first | decide | assumption) dX7_begins_15 (fun H locs hP hD hS => ?_)
  have hP : va_P Γ.1 vwCl [(ma, .inr (7, [.ref ms, .int (nI sn0), .ref mk, .int (nI tw0), .ref mt, .int (nI ty0), .ref mb, .int (bI il0), .ref me, .ref mr, .int (nI my0), .ref mq, .ref mp, .ref mw, .ref mc])), (ms, .inl (Γ.2 0, 162, .inl (aN (upN ss 1 ((2 ^ (ss 0)) - 1)))))] H := hP
  have hD : va_D A [(ma, .inr (7, [.ref ms, .int (nI sn0), .ref mk, .int (nI tw0), .ref mt, .int (nI ty0), .ref mb, .int (bI il0), .ref me, .ref mr, .int (nI my0), .ref mq, .ref mp, .ref mw, .ref mc])), (ms, .inl (Γ.2 0, 162, .inl (aN (upN ss 1 ((2 ^ (ss 0)) - 1)))))] := hD
  refine lv_aload_n hx hb dX7_begins_16 rfl (lv_at hl 0 rfl) ?_
  refine va_get (D := Γ.1) (ci := 7) (v := .ref ms) (C := RX7) (T := TX7) (N := 15) hx hb hts hinX7 hown hK.1 hP 0 rfl rfl 0 (by decide) (hts _ mw_400) (fun _ h9 => h9) rfl dX7_begins_17 ?_
  refine lv_iconst (v := (nI 2)) hx hb dX7_begins_20 (by decide) ?_
  refine lv_iconst (v := (nI 0)) hx hb dX7_begins_21 (by decide) ?_
  refine iast_N hx hb hK.1 hP hD hS 1 0 rfl rfl (by omega) (by first | decide | assumption) dX7_begins_22 (fun H locs hP hD hS => ?_)
  have hP : va_P Γ.1 vwCl [(ma, .inr (7, [.ref ms, .int (nI sn0), .ref mk, .int (nI tw0), .ref mt, .int (nI ty0), .ref mb, .int (bI il0), .ref me, .ref mr, .int (nI my0), .ref mq, .ref mp, .ref mw, .ref mc])), (ms, .inl (Γ.2 0, 162, .inl (aN (upN (upN ss 1 ((2 ^ (ss 0)) - 1)) 2 0))))] H := hP
  have hD : va_D A [(ma, .inr (7, [.ref ms, .int (nI sn0), .ref mk, .int (nI tw0), .ref mt, .int (nI ty0), .ref mb, .int (bI il0), .ref me, .ref mr, .int (nI my0), .ref mq, .ref mp, .ref mw, .ref mc])), (ms, .inl (Γ.2 0, 162, .inl (aN (upN (upN ss 1 ((2 ^ (ss 0)) - 1)) 2 0))))] := hD
  refine lv_aload_n hx hb dX7_begins_23 rfl (lv_at hl 0 rfl) ?_
  refine va_get (D := Γ.1) (ci := 7) (v := .ref ms) (C := RX7) (T := TX7) (N := 15) hx hb hts hinX7 hown hK.1 hP 0 rfl rfl 0 (by decide) (hts _ mw_400) (fun _ h9 => h9) rfl dX7_begins_24 ?_
  refine lv_iconst (v := (nI 3)) hx hb dX7_begins_27 (by decide) ?_
  refine lv_iconst (v := (nI 0)) hx hb dX7_begins_28 (by decide) ?_
  refine iast_N hx hb hK.1 hP hD hS 1 0 rfl rfl (by omega) (by first | decide | assumption) dX7_begins_29 (fun H locs hP hD hS => ?_)
  have hP : va_P Γ.1 vwCl [(ma, .inr (7, [.ref ms, .int (nI sn0), .ref mk, .int (nI tw0), .ref mt, .int (nI ty0), .ref mb, .int (bI il0), .ref me, .ref mr, .int (nI my0), .ref mq, .ref mp, .ref mw, .ref mc])), (ms, .inl (Γ.2 0, 162, .inl (aN (upN (upN (upN ss 1 ((2 ^ (ss 0)) - 1)) 2 0) 3 0))))] H := hP
  have hD : va_D A [(ma, .inr (7, [.ref ms, .int (nI sn0), .ref mk, .int (nI tw0), .ref mt, .int (nI ty0), .ref mb, .int (bI il0), .ref me, .ref mr, .int (nI my0), .ref mq, .ref mp, .ref mw, .ref mc])), (ms, .inl (Γ.2 0, 162, .inl (aN (upN (upN (upN ss 1 ((2 ^ (ss 0)) - 1)) 2 0) 3 0))))] := hD
  exact hret () hP hS (trivial) dX7_begins_30
set_option maxHeartbeats 8000000 in
set_option maxRecDepth 100000 in
theorem c_X7_howManyTrees (l : Launch) (Γ : kG) (ma : Nat) (ms : Nat) (sn0 : Nat) (mk : Nat) (tw0 : Nat) (mt : Nat) (ty0 : Nat) (mb : Nat) (il0 : Bool) (me : Nat) (mr : Nat) (my0 : Nat) (mq : Nat) (mp : Nat) (mw : Nat) (mc : Nat) (ss : Nat → Nat) (tr : Nat → Nat) (h0 : ss 0 ≤ 14) (h1 : ss 1 < 2 ^ ss 0) : WRi l yX7_howManyTrees (wsq yX7_howManyTrees cX7_howManyTrees 1 (some .int)) (rmL 4) Γ [.ref ma] [(ma, .inr (7, [.ref ms, .int (nI sn0), .ref mk, .int (nI tw0), .ref mt, .int (nI ty0), .ref mb, .int (bI il0), .ref me, .ref mr, .int (nI my0), .ref mq, .ref mp, .ref mw, .ref mc])), (ms, .inl (Γ.2 0, 162, .inl (aN ss))), (mr, .inl (Γ.2 0, 14, .inl (aN tr)))] (fun u : Unit => [(ma, .inr (7, [.ref ms, .int (nI sn0), .ref mk, .int (nI tw0), .ref mt, .int (nI ty0), .ref mb, .int (bI il0), .ref me, .ref mr, .int (nI (trC (gS ss) (ss 1))), .ref mq, .ref mp, .ref mw, .ref mc])), (ms, .inl (Γ.2 0, 162, .inl (aN ss))), (mr, .inl (Γ.2 0, 14, .inl (aN (trS tr (gS ss) (ss 1) (trC (gS ss) (ss 1))))))]) (fun (r : Int32) (u : Unit) => r = (nI (trC (gS ss) (ss 1)))) := by
  refine wr_ofi (cc := cX7_howManyTrees) (maxL := 1) (by decide +kernel) (Nat.le_of_ble_eq_true rfl) rfl ?_
  intro p ev R st mi args below meth cd Q A ls C0 hR hret hP hD hS hl
  obtain ⟨hx, hb, hr, hml, hown, hts, hlk, hK, hnm⟩ := C0
  have hown : st.vm.findClass RX7 = some mi.cls := hown
  refine lv_aload_n hx hb dX7_howManyTrees_0 rfl (lv_at hl 0 rfl) ?_
  refine wr_finv (va_runV (As := []) (rest := []) ⟨hx, hb, hml, hown, hts⟩ (c_X7_finds l Γ ma ms sn0 mk tw0 mt ty0 mb il0 me mr my0 mq mp mw mc ss tr (by first | omega | assumption) (by first | omega | assumption)) (kcwV 0 hts kv_X7_finds mw_505 (rm_le hR (Nat.le_of_ble_eq_true rfl) (Nat.le_of_ble_eq_true rfl))) (kPw_V hK (va_recv hK.1 hP (ci := 7) (q0 := 0) rfl rfl) (hP.sub (ws' := [(ma, .inr (7, [.ref ms, .int (nI sn0), .ref mk, .int (nI tw0), .ref mt, .int (nI ty0), .ref mb, .int (bI il0), .ref me, .ref mr, .int (nI my0), .ref mq, .ref mp, .ref mw, .ref mc])), (ms, .inl (Γ.2 0, 162, .inl (aN ss))), (mr, .inl (Γ.2 0, 14, .inl (aN tr)))]) [0, 1, 2] rfl) (hD.sub (ws' := [(ma, .inr (7, [.ref ms, .int (nI sn0), .ref mk, .int (nI tw0), .ref mt, .int (nI ty0), .ref mb, .int (bI il0), .ref me, .ref mr, .int (nI my0), .ref mq, .ref mp, .ref mw, .ref mc])), (ms, .inl (Γ.2 0, 162, .inl (aN ss))), (mr, .inl (Γ.2 0, 14, .inl (aN tr)))]) [0, 1, 2] (by decide) rfl)) rfl rfl hl.1 rfl (lv_room (Nat.le_of_ble_eq_true rfl)) dX7_howManyTrees_1 ⟨Nat.zero_le _, Nat.zero_le _⟩) hP hD hS [0, 1, 2] rfl (fun _ => rfl) (fun _ H locs hw hP hD hS => ?_)
  have hP : va_P Γ.1 vwCl [(ma, .inr (7, [.ref ms, .int (nI sn0), .ref mk, .int (nI tw0), .ref mt, .int (nI ty0), .ref mb, .int (bI il0), .ref me, .ref mr, .int (nI (trC (gS ss) (ss 1))), .ref mq, .ref mp, .ref mw, .ref mc])), (ms, .inl (Γ.2 0, 162, .inl (aN ss))), (mr, .inl (Γ.2 0, 14, .inl (aN (trS tr (gS ss) (ss 1) (trC (gS ss) (ss 1))))))] H := hP
  have hD : va_D A [(ma, .inr (7, [.ref ms, .int (nI sn0), .ref mk, .int (nI tw0), .ref mt, .int (nI ty0), .ref mb, .int (bI il0), .ref me, .ref mr, .int (nI (trC (gS ss) (ss 1))), .ref mq, .ref mp, .ref mw, .ref mc])), (ms, .inl (Γ.2 0, 162, .inl (aN ss))), (mr, .inl (Γ.2 0, 14, .inl (aN (trS tr (gS ss) (ss 1) (trC (gS ss) (ss 1))))))] := hD
  refine lv_aload_n hx hb dX7_howManyTrees_4 rfl (lv_at hl 0 rfl) ?_
  refine va_get (D := Γ.1) (ci := 7) (v := .int (nI (trC (gS ss) (ss 1)))) (C := RX7) (T := TX7) (N := 15) hx hb hts hinX7 hown hK.1 hP 0 rfl rfl 10 (by decide) (hts _ mw_450) (fun _ h9 => h9) rfl dX7_howManyTrees_5 ?_
  exact hret () hP hS (rfl) dX7_howManyTrees_8
set_option maxHeartbeats 8000000 in
set_option maxRecDepth 100000 in
theorem c_X7_edgesThere (l : Launch) (Γ : kG) (H0 : Heap) (ma : Nat) (ms : Nat) (sn0 : Nat) (mk : Nat) (tw0 : Nat) (mt : Nat) (ty0 : Nat) (mb : Nat) (il0 : Bool) (me : Nat) (mr : Nat) (my0 : Nat) (mq : Nat) (mp : Nat) (mw : Nat) (mc : Nat) (ss : Nat → Nat) (hP : va_P Γ.1 vwCl [(ma, .inr (7, [.ref ms, .int (nI sn0), .ref mk, .int (nI tw0), .ref mt, .int (nI ty0), .ref mb, .int (bI il0), .ref me, .ref mr, .int (nI my0), .ref mq, .ref mp, .ref mw, .ref mc])), (ms, .inl (Γ.2 0, 162, .inl (aN ss)))] H0) (h0 : ss 0 ≤ 14) (h1 : ss 1 < 2 ^ ss 0) : RO l yX7_edgesThere (wsq yX7_edgesThere cX7_edgesThere 3 (some .int)) (rmL 2) Γ H0 [.ref ma] (nI ((eIn (gS ss) (ss 1) (ss 0)) / 2)) := by
  refine ro_ofi (cc := cX7_edgesThere) (maxL := 3) (by decide +kernel) (Nat.le_of_ble_eq_true rfl) rfl ?_
  intro p ev R st mi args below meth cd Q ls C0 hR hret hh hS hl
  obtain ⟨hx, hb, hr, hml, hown, hts, hlk, hK, hnm⟩ := C0
  have hown : st.vm.findClass RX7 = some mi.cls := hown
  have hw := w14 h1 h0
  refine lv_iconst (v := (nI 0)) hx hb dX7_edgesThere_0 (by decide) ?_
  refine lv_istore_n (lv' := [(1, .int (nI 0)), (0, .ref ma)]) hx hb dX7_edgesThere_1 rfl hl (by decide) rfl (fun ls hl => ?_)
  refine lv_iconst (v := (nI 0)) hx hb dX7_edgesThere_2 (by decide) ?_
  refine lv_istore_n (lv' := [(2, .int (nI 0)), (1, .int (nI 0)), (0, .ref ma)]) hx hb dX7_edgesThere_3 rfl hl (by decide) rfl (fun ls hl => ?_)
  have LP4 : ∀ (fu : Nat) (k0 : Nat) (hk0 : k0 ≤ ss 0), (ss 0 - k0) < fu → ∀ (locs : List Loc), va_S (fun _ => False) H0 H0 locs → ∀ (ls : Array Slot), lv_has ls 3 [(2, .int (nI k0)), (1, .int (nI (eIn (gS ss) (ss 1) k0))), (0, .ref ma)] → W p l ev R st mi args below meth cd H0 locs 0 0 Q (F0 mi 4 ls []) := by
    intro fu
    induction fu with
    | zero => intro k0 hk0 hfu; exact absurd hfu (Nat.not_lt_zero _)
    | succ fu ih4 =>
      intro k0 hk0 hfu locs hS ls hl
      refine lv_iload_n hx hb dX7_edgesThere_4 rfl (lv_at hl 0 rfl) ?_
      refine lv_aload_n hx hb dX7_edgesThere_5 rfl (lv_at hl 2 rfl) ?_
      refine va_get (D := Γ.1) (ci := 7) (v := .ref ms) (C := RX7) (T := TX7) (N := 15) hx hb hts hinX7 hown hK.1 hP 0 rfl rfl 0 (by decide) (hts _ mw_400) (fun _ h9 => h9) rfl dX7_edgesThere_6 ?_
      refine lv_iconst (v := (nI 0)) hx hb dX7_edgesThere_9 (by decide) ?_
      refine iald_N hx hb hK.1 hP 1 0 rfl rfl (by omega) (by first | decide | assumption) dX7_edgesThere_10 ?_
      refine nb_icmp_ge (tgt := 53) hx hb (by first | omega | assumption) (by first | omega | assumption) dX7_edgesThere_11 (by decide) (fun c_11 => ?_) (fun c_11 => ?_)
      · skip
        obtain rfl : k0 = ss 0 := by omega
        refine lv_iload_n hx hb dX7_edgesThere_53 rfl (lv_at hl 1 rfl) ?_
        refine lv_iconst (v := (nI 2)) hx hb dX7_edgesThere_54 (by decide) ?_
        refine lv_idiv hx hb dX7_edgesThere_55 (nI_ne0 (by omega) (by omega)) ?_
        refine tp_i (y := (nI ((eIn (gS ss) (ss 1) (ss 0)) / 2))) (pk_div (by have h9 := eIn_le (gS ss) (ss 1) (ss 0); omega) (by omega) (by omega)) ?_
        exact hret hS (rfl) dX7_edgesThere_56
      · skip
        refine lv_iload_n hx hb dX7_edgesThere_14 rfl (lv_at hl 1 rfl) ?_
        refine lv_aload_n hx hb dX7_edgesThere_15 rfl (lv_at hl 2 rfl) ?_
        refine lv_iload_n hx hb dX7_edgesThere_16 rfl (lv_at hl 0 rfl) ?_
        refine ro_fin (va_runV (As := [.int (nI k0)]) (rest := [.int (nI (eIn (gS ss) (ss 1) k0))]) ⟨hx, hb, hml, hown, hts⟩ (c_X7_isThere l Γ H0 ma ms sn0 mk tw0 mt ty0 mb il0 me mr my0 mq mp mw mc ss k0 (hP.sub (ws' := [(ma, .inr (7, [.ref ms, .int (nI sn0), .ref mk, .int (nI tw0), .ref mt, .int (nI ty0), .ref mb, .int (bI il0), .ref me, .ref mr, .int (nI my0), .ref mq, .ref mp, .ref mw, .ref mc])), (ms, .inl (Γ.2 0, 162, .inl (aN ss)))]) [0, 1] rfl) (hw) (by omega)) (kcwV 1 hts kv_X7_isThere mw_470 (rm_le hR (Nat.le_of_ble_eq_true rfl) (Nat.le_of_ble_eq_true rfl))) (kPc_V hK (va_recv hK.1 hP (ci := 7) (q0 := 0) rfl rfl)) rfl rfl hl.1 rfl (lv_room (Nat.le_of_ble_eq_true rfl)) dX7_edgesThere_17 ⟨Nat.zero_le _, Nat.zero_le _⟩) hS (fun locs hS => ?_)
        refine nb_ifb_eq (tgt := 44) hx hb dX7_edgesThere_20 (by decide) (fun c_20 => ?_) (fun c_20 => ?_)
        · skip
          refine lv_iconst (v := (nI 0)) hx hb dX7_edgesThere_44 (by decide) ?_
          refine lv_iadd hx hb dX7_edgesThere_45 ?_
          refine tp_i (y := (nI ((eIn (gS ss) (ss 1) k0) + 0))) (nI_add _ _) ?_
          refine tp_i (y := (nI (eIn (gS ss) (ss 1) (k0 + 1)))) (by first | (rw [eIn, if_t c_20]; rfl) | (rw [eIn, if_f c_20]; rfl)) ?_
          refine lv_istore_n (lv' := [(1, .int (nI (eIn (gS ss) (ss 1) (k0 + 1)))), (2, .int (nI k0)), (0, .ref ma)]) hx hb dX7_edgesThere_46 rfl hl (by decide) rfl (fun ls hl => ?_)
          refine lv_iinc (v := (nI (k0 + 1))) (lv' := [(2, .int (nI (k0 + 1))), (1, .int (nI (eIn (gS ss) (ss 1) (k0 + 1)))), (0, .ref ma)]) hx hb dX7_edgesThere_47 hl (k := 1) rfl (nI_1 _) (by decide) rfl (fun ls hl => ?_)
          refine lv_goto (tgt := 4) hx hb dX7_edgesThere_50 (by decide) ?_
          exact ih4 (k0 + 1) (by first | omega | assumption) (by omega) _ hS ls (lv_sub hl [0, 1, 2] rfl)
        · skip
          refine lv_aload_n hx hb dX7_edgesThere_23 rfl (lv_at hl 2 rfl) ?_
          refine va_get (D := Γ.1) (ci := 7) (v := .ref ms) (C := RX7) (T := TX7) (N := 15) hx hb hts hinX7 hown hK.1 hP 0 rfl rfl 0 (by decide) (hts _ mw_400) (fun _ h9 => h9) rfl dX7_edgesThere_24 ?_
          refine lv_iconst (v := (nI 4)) hx hb dX7_edgesThere_27 (by decide) ?_
          refine lv_iload_n hx hb dX7_edgesThere_28 rfl (lv_at hl 0 rfl) ?_
          refine lv_iadd hx hb dX7_edgesThere_29 ?_
          refine tp_i (y := (nI (4 + k0))) (nI_add _ _) ?_
          refine iald_N hx hb hK.1 hP 1 0 rfl rfl (by omega) (by first | decide | assumption) dX7_edgesThere_30 ?_
          refine lv_aload_n hx hb dX7_edgesThere_31 rfl (lv_at hl 2 rfl) ?_
          refine va_get (D := Γ.1) (ci := 7) (v := .ref ms) (C := RX7) (T := TX7) (N := 15) hx hb hts hinX7 hown hK.1 hP 0 rfl rfl 0 (by decide) (hts _ mw_400) (fun _ h9 => h9) rfl dX7_edgesThere_32 ?_
          refine lv_iconst (v := (nI 1)) hx hb dX7_edgesThere_35 (by decide) ?_
          refine iald_N hx hb hK.1 hP 1 0 rfl rfl (by omega) (by first | decide | assumption) dX7_edgesThere_36 ?_
          refine lv_iand hx hb dX7_edgesThere_37 ?_
          refine tp_i (y := (nI ((ss (4 + k0)) &&& (ss 1)))) (ni_and _ _) ?_
          refine ro_fin (va_runS (As := [.int (nI ((ss (4 + k0)) &&& (ss 1)))]) (rest := [.int (nI (eIn (gS ss) (ss 1) k0))]) ⟨hx, hb, hml, hown, hts⟩ (c_X7_bits l Γ H0 ((ss (4 + k0)) &&& (ss 1)) (Nat.lt_trans (and_lt2 _ hw) (by decide))) (kcwS 1 hts kv_X7_bits mw_476 (rm_le hR (Nat.le_of_ble_eq_true rfl) (Nat.le_of_ble_eq_true rfl))) (kPc_S hK) rfl rfl hl.1 rfl (lv_room (Nat.le_of_ble_eq_true rfl)) dX7_edgesThere_38 ⟨Nat.zero_le _, Nat.zero_le _⟩) hS (fun locs hS => ?_)
          refine lv_goto (tgt := 45) hx hb dX7_edgesThere_41 (by decide) ?_
          refine lv_iadd hx hb dX7_edgesThere_45 ?_
          refine tp_i (y := (nI ((eIn (gS ss) (ss 1) k0) + (pc ((ss (4 + k0)) &&& (ss 1)))))) (nI_add _ _) ?_
          refine tp_i (y := (nI (eIn (gS ss) (ss 1) (k0 + 1)))) (by first | (rw [eIn, if_t c_20]; rfl) | (rw [eIn, if_f c_20]; rfl)) ?_
          refine lv_istore_n (lv' := [(1, .int (nI (eIn (gS ss) (ss 1) (k0 + 1)))), (2, .int (nI k0)), (0, .ref ma)]) hx hb dX7_edgesThere_46 rfl hl (by decide) rfl (fun ls hl => ?_)
          refine lv_iinc (v := (nI (k0 + 1))) (lv' := [(2, .int (nI (k0 + 1))), (1, .int (nI (eIn (gS ss) (ss 1) (k0 + 1)))), (0, .ref ma)]) hx hb dX7_edgesThere_47 hl (k := 1) rfl (nI_1 _) (by decide) rfl (fun ls hl => ?_)
          refine lv_goto (tgt := 4) hx hb dX7_edgesThere_50 (by decide) ?_
          exact ih4 (k0 + 1) (by first | omega | assumption) (by omega) _ hS ls (lv_sub hl [0, 1, 2] rfl)
  exact LP4 ((ss 0 - 0) + 1) 0 (by first | omega | assumption) (Nat.lt_succ_self _) _ hS ls (lv_sub hl [0, 1, 2] rfl)
set_option maxHeartbeats 8000000 in
set_option maxRecDepth 100000 in
theorem c_X7_clearBuffer (l : Launch) (Γ : kG) (ma : Nat) (ms : Nat) (sn0 : Nat) (mk : Nat) (tw0 : Nat) (mt : Nat) (ty0 : Nat) (mb : Nat) (il0 : Bool) (me : Nat) (mr : Nat) (my0 : Nat) (mq : Nat) (mp : Nat) (mw : Nat) (mc : Nat)  : WRi l yX7_clearBuffer (wsq yX7_clearBuffer cX7_clearBuffer 2 (some .int)) (rmL 1) Γ [.ref ma] [(ma, .inr (7, [.ref ms, .int (nI sn0), .ref mk, .int (nI tw0), .ref mt, .int (nI ty0), .ref mb, .int (bI il0), .ref me, .ref mr, .int (nI my0), .ref mq, .ref mp, .ref mw, .ref mc]))] (fun u : Unit => [(ma, .inr (7, [.ref ms, .int (nI sn0), .ref mk, .int (nI 0), .ref mt, .int (nI 0), .ref mb, .int (bI il0), .ref me, .ref mr, .int (nI my0), .ref mq, .ref mp, .ref mw, .ref mc]))]) (fun (r : Int32) (u : Unit) => r = (nI ty0)) := by
  refine wr_ofi (cc := cX7_clearBuffer) (maxL := 2) (by decide +kernel) (Nat.le_of_ble_eq_true rfl) rfl ?_
  intro p ev R st mi args below meth cd Q A ls C0 hR hret hP hD hS hl
  obtain ⟨hx, hb, hr, hml, hown, hts, hlk, hK, hnm⟩ := C0
  have hown : st.vm.findClass RX7 = some mi.cls := hown
  refine lv_aload_n hx hb dX7_clearBuffer_0 rfl (lv_at hl 0 rfl) ?_
  refine lv_iconst (v := (nI 0)) hx hb dX7_clearBuffer_1 (by decide) ?_
  refine va_put (D := Γ.1) (ci := 7) (v := .int (nI 0)) (ty := .int) (C := RX7) (T := TX7) (N := 15) hx hb hts hinX7 tyX7 tyX7_ok nmX7 hown hK.1 hP hD hS 0 rfl rfl 3 (by decide) (hts _ mw_413) (fun _ h9 => h9) rfl (by decide +kernel) rfl rfl (Nat.le_of_ble_eq_true rfl) dX7_clearBuffer_2 (fun H locs hP hD hS => ?_)
  have hP : va_P Γ.1 vwCl [(ma, .inr (7, [.ref ms, .int (nI sn0), .ref mk, .int (nI 0), .ref mt, .int (nI ty0), .ref mb, .int (bI il0), .ref me, .ref mr, .int (nI my0), .ref mq, .ref mp, .ref mw, .ref mc]))] H := hP
  have hD : va_D A [(ma, .inr (7, [.ref ms, .int (nI sn0), .ref mk, .int (nI 0), .ref mt, .int (nI ty0), .ref mb, .int (bI il0), .ref me, .ref mr, .int (nI my0), .ref mq, .ref mp, .ref mw, .ref mc]))] := hD
  refine lv_aload_n hx hb dX7_clearBuffer_5 rfl (lv_at hl 0 rfl) ?_
  refine va_get (D := Γ.1) (ci := 7) (v := .int (nI ty0)) (C := RX7) (T := TX7) (N := 15) hx hb hts hinX7 hown hK.1 hP 0 rfl rfl 5 (by decide) (hts _ mw_533) (fun _ h9 => h9) rfl dX7_clearBuffer_6 ?_
  refine lv_istore_n (lv' := [(1, .int (nI ty0)), (0, .ref ma)]) hx hb dX7_clearBuffer_9 rfl hl (by decide) rfl (fun ls hl => ?_)
  refine lv_aload_n hx hb dX7_clearBuffer_10 rfl (lv_at hl 1 rfl) ?_
  refine lv_iconst (v := (nI 0)) hx hb dX7_clearBuffer_11 (by decide) ?_
  refine va_put (D := Γ.1) (ci := 7) (v := .int (nI 0)) (ty := .int) (C := RX7) (T := TX7) (N := 15) hx hb hts hinX7 tyX7 tyX7_ok nmX7 hown hK.1 hP hD hS 0 rfl rfl 5 (by decide) (hts _ mw_533) (fun _ h9 => h9) rfl (by decide +kernel) rfl rfl (Nat.le_of_ble_eq_true rfl) dX7_clearBuffer_12 (fun H locs hP hD hS => ?_)
  have hP : va_P Γ.1 vwCl [(ma, .inr (7, [.ref ms, .int (nI sn0), .ref mk, .int (nI 0), .ref mt, .int (nI 0), .ref mb, .int (bI il0), .ref me, .ref mr, .int (nI my0), .ref mq, .ref mp, .ref mw, .ref mc]))] H := hP
  have hD : va_D A [(ma, .inr (7, [.ref ms, .int (nI sn0), .ref mk, .int (nI 0), .ref mt, .int (nI 0), .ref mb, .int (bI il0), .ref me, .ref mr, .int (nI my0), .ref mq, .ref mp, .ref mw, .ref mc]))] := hD
  refine lv_iload_n hx hb dX7_clearBuffer_15 rfl (lv_at hl 0 rfl) ?_
  exact hret () hP hS (rfl) dX7_clearBuffer_16
set_option maxHeartbeats 8000000 in
set_option maxRecDepth 100000 in
theorem c_X7_taken (l : Launch) (Γ : kG) (ma : Nat) (ms : Nat) (sn0 : Nat) (mk : Nat) (tw0 : Nat) (mt : Nat) (ty0 : Nat) (mb : Nat) (il0 : Bool) (me : Nat) (mr : Nat) (my0 : Nat) (mq : Nat) (mp : Nat) (mw : Nat) (mc : Nat) (ss : Nat → Nat) (v0 : Nat) (h1 : ss 1 < 16384) (hv0 : v0 < 14) (hpl : ss 2 ≤ 1) : WRi l yX7_taken (wsq yX7_taken cX7_taken 3 (some .int)) (rmL 2) Γ [.ref ma, .int (nI v0)] [(ma, .inr (7, [.ref ms, .int (nI sn0), .ref mk, .int (nI tw0), .ref mt, .int (nI ty0), .ref mb, .int (bI il0), .ref me, .ref mr, .int (nI my0), .ref mq, .ref mp, .ref mw, .ref mc])), (ms, .inl (Γ.2 0, 162, .inl (aN ss)))] (fun u : Unit => [(ma, .inr (7, [.ref ms, .int (nI sn0), .ref mk, .int (nI tw0), .ref mt, .int (nI ty0), .ref mb, .int (bI il0), .ref me, .ref mr, .int (nI my0), .ref mq, .ref mp, .ref mw, .ref mc])), (ms, .inl (Γ.2 0, 162, .inl (aN (tkS ss v0))))]) (fun (r : Int32) (u : Unit) => r = (nI (pc (tkX ss v0)))) := by
  refine wr_ofi (cc := cX7_taken) (maxL := 3) (by decide +kernel) (Nat.le_of_ble_eq_true rfl) rfl ?_
  intro p ev R st mi args below meth cd Q A ls C0 hR hret hP hD hS hl
  obtain ⟨hx, hb, hr, hml, hown, hts, hlk, hK, hnm⟩ := C0
  have hown : st.vm.findClass RX7 = some mi.cls := hown
  refine lv_aload_n hx hb dX7_taken_0 rfl (lv_at hl 0 rfl) ?_
  refine va_get (D := Γ.1) (ci := 7) (v := .ref ms) (C := RX7) (T := TX7) (N := 15) hx hb hts hinX7 hown hK.1 hP 0 rfl rfl 0 (by decide) (hts _ mw_400) (fun _ h9 => h9) rfl dX7_taken_1 ?_
  refine lv_iconst (v := (nI 1)) hx hb dX7_taken_4 (by decide) ?_
  refine iald_N hx hb hK.1 hP 1 0 rfl rfl (by omega) (by first | decide | assumption) dX7_taken_5 ?_
  refine lv_iconst (v := (nI 1)) hx hb dX7_taken_6 (by decide) ?_
  refine lv_iload_n hx hb dX7_taken_7 rfl (lv_at hl 1 rfl) ?_
  refine lv_ishl hx hb dX7_taken_8 ?_
  refine tp_i (y := (nI (2 ^ v0))) (ni_shl1 (by omega)) ?_
  refine lv_aload_n hx hb dX7_taken_9 rfl (lv_at hl 0 rfl) ?_
  refine va_get (D := Γ.1) (ci := 7) (v := .ref ms) (C := RX7) (T := TX7) (N := 15) hx hb hts hinX7 hown hK.1 hP 0 rfl rfl 0 (by decide) (hts _ mw_400) (fun _ h9 => h9) rfl dX7_taken_10 ?_
  refine lv_iconst (v := (nI 4)) hx hb dX7_taken_13 (by decide) ?_
  refine lv_iload_n hx hb dX7_taken_14 rfl (lv_at hl 1 rfl) ?_
  refine lv_iadd hx hb dX7_taken_15 ?_
  refine tp_i (y := (nI (4 + v0))) (nI_add _ _) ?_
  refine iald_N hx hb hK.1 hP 1 0 rfl rfl (by omega) (by first | decide | assumption) dX7_taken_16 ?_
  refine lv_ior hx hb dX7_taken_17 ?_
  refine tp_i (y := (nI ((2 ^ v0) ||| (ss (4 + v0))))) (ni_or _ _) ?_
  refine lv_iand hx hb dX7_taken_18 ?_
  refine tp_i (y := (nI ((ss 1) &&& ((2 ^ v0) ||| (ss (4 + v0)))))) (ni_and _ _) ?_
  refine tp_i (y := (nI (tkX ss v0))) (rfl) ?_
  refine lv_istore_n (lv' := [(2, .int (nI (tkX ss v0))), (0, .ref ma), (1, .int (nI v0))]) hx hb dX7_taken_19 rfl hl (by decide) rfl (fun ls hl => ?_)
  refine lv_aload_n hx hb dX7_taken_20 rfl (lv_at hl 1 rfl) ?_
  refine va_get (D := Γ.1) (ci := 7) (v := .ref ms) (C := RX7) (T := TX7) (N := 15) hx hb hts hinX7 hown hK.1 hP 0 rfl rfl 0 (by decide) (hts _ mw_400) (fun _ h9 => h9) rfl dX7_taken_21 ?_
  refine lv_iconst (v := (nI 1)) hx hb dX7_taken_24 (by decide) ?_
  refine lv_dup2_11 hx hb dX7_taken_25 rfl rfl ?_
  refine iald_N hx hb hK.1 hP 1 0 rfl rfl (by omega) (by first | decide | assumption) dX7_taken_26 ?_
  refine lv_iload_n hx hb dX7_taken_27 rfl (lv_at hl 0 rfl) ?_
  refine lv_iconst (v := (-1)) hx hb dX7_taken_28 (by decide) ?_
  refine lv_ixor hx hb dX7_taken_29 ?_
  refine lv_iand hx hb dX7_taken_30 ?_
  refine tp_i (y := (nI (sd (ss 1) (tkX ss v0)))) (ni_sd _ _) ?_
  refine iast_N hx hb hK.1 hP hD hS 1 0 rfl rfl (by omega) (by first | decide | assumption) dX7_taken_31 (fun H locs hP hD hS => ?_)
  have hP : va_P Γ.1 vwCl [(ma, .inr (7, [.ref ms, .int (nI sn0), .ref mk, .int (nI tw0), .ref mt, .int (nI ty0), .ref mb, .int (bI il0), .ref me, .ref mr, .int (nI my0), .ref mq, .ref mp, .ref mw, .ref mc])), (ms, .inl (Γ.2 0, 162, .inl (aN (upN ss 1 (sd (ss 1) (tkX ss v0))))))] H := hP
  have hD : va_D A [(ma, .inr (7, [.ref ms, .int (nI sn0), .ref mk, .int (nI tw0), .ref mt, .int (nI ty0), .ref mb, .int (bI il0), .ref me, .ref mr, .int (nI my0), .ref mq, .ref mp, .ref mw, .ref mc])), (ms, .inl (Γ.2 0, 162, .inl (aN (upN ss 1 (sd (ss 1) (tkX ss v0))))))] := hD
  refine lv_aload_n hx hb dX7_taken_32 rfl (lv_at hl 1 rfl) ?_
  refine va_get (D := Γ.1) (ci := 7) (v := .ref ms) (C := RX7) (T := TX7) (N := 15) hx hb hts hinX7 hown hK.1 hP 0 rfl rfl 0 (by decide) (hts _ mw_400) (fun _ h9 => h9) rfl dX7_taken_33 ?_
  refine lv_iconst (v := (nI 2)) hx hb dX7_taken_36 (by decide) ?_
  refine lv_iconst (v := (nI 1)) hx hb dX7_taken_37 (by decide) ?_
  refine lv_aload_n hx hb dX7_taken_38 rfl (lv_at hl 1 rfl) ?_
  refine va_get (D := Γ.1) (ci := 7) (v := .ref ms) (C := RX7) (T := TX7) (N := 15) hx hb hts hinX7 hown hK.1 hP 0 rfl rfl 0 (by decide) (hts _ mw_400) (fun _ h9 => h9) rfl dX7_taken_39 ?_
  refine lv_iconst (v := (nI 2)) hx hb dX7_taken_42 (by decide) ?_
  refine iald_N hx hb hK.1 hP 1 0 rfl rfl (by omega) (by first | decide | assumption) dX7_taken_43 ?_
  refine lv_isub hx hb dX7_taken_44 ?_
  refine tp_i (y := (nI (1 - ((upN ss 1 (sd (ss 1) (tkX ss v0))) 2)))) (ni_sub (by rw [upN_n _ _ (by decide)]; exact hpl)) ?_
  refine iast_N hx hb hK.1 hP hD hS 1 0 rfl rfl (by omega) (by first | decide | assumption) dX7_taken_45 (fun H locs hP hD hS => ?_)
  have hP : va_P Γ.1 vwCl [(ma, .inr (7, [.ref ms, .int (nI sn0), .ref mk, .int (nI tw0), .ref mt, .int (nI ty0), .ref mb, .int (bI il0), .ref me, .ref mr, .int (nI my0), .ref mq, .ref mp, .ref mw, .ref mc])), (ms, .inl (Γ.2 0, 162, .inl (aN (upN (upN ss 1 (sd (ss 1) (tkX ss v0))) 2 (1 - ((upN ss 1 (sd (ss 1) (tkX ss v0))) 2))))))] H := hP
  have hD : va_D A [(ma, .inr (7, [.ref ms, .int (nI sn0), .ref mk, .int (nI tw0), .ref mt, .int (nI ty0), .ref mb, .int (bI il0), .ref me, .ref mr, .int (nI my0), .ref mq, .ref mp, .ref mw, .ref mc])), (ms, .inl (Γ.2 0, 162, .inl (aN (upN (upN ss 1 (sd (ss 1) (tkX ss v0))) 2 (1 - ((upN ss 1 (sd (ss 1) (tkX ss v0))) 2))))))] := hD
  refine lv_aload_n hx hb dX7_taken_46 rfl (lv_at hl 1 rfl) ?_
  refine va_get (D := Γ.1) (ci := 7) (v := .ref ms) (C := RX7) (T := TX7) (N := 15) hx hb hts hinX7 hown hK.1 hP 0 rfl rfl 0 (by decide) (hts _ mw_400) (fun _ h9 => h9) rfl dX7_taken_47 ?_
  refine lv_iconst (v := (nI 3)) hx hb dX7_taken_50 (by decide) ?_
  refine lv_dup2_11 hx hb dX7_taken_51 rfl rfl ?_
  refine iald_N hx hb hK.1 hP 1 0 rfl rfl (by omega) (by first | decide | assumption) dX7_taken_52 ?_
  refine lv_iconst (v := (nI 1)) hx hb dX7_taken_53 (by decide) ?_
  refine lv_iadd hx hb dX7_taken_54 ?_
  refine tp_i (y := (nI (((upN (upN ss 1 (sd (ss 1) (tkX ss v0))) 2 (1 - ((upN ss 1 (sd (ss 1) (tkX ss v0))) 2))) 3) + 1))) (nI_add _ _) ?_
  refine iast_N hx hb hK.1 hP hD hS 1 0 rfl rfl (by omega) (by first | decide | assumption) dX7_taken_55 (fun H locs hP hD hS => ?_)
  have hP : va_P Γ.1 vwCl [(ma, .inr (7, [.ref ms, .int (nI sn0), .ref mk, .int (nI tw0), .ref mt, .int (nI ty0), .ref mb, .int (bI il0), .ref me, .ref mr, .int (nI my0), .ref mq, .ref mp, .ref mw, .ref mc])), (ms, .inl (Γ.2 0, 162, .inl (aN (upN (upN (upN ss 1 (sd (ss 1) (tkX ss v0))) 2 (1 - ((upN ss 1 (sd (ss 1) (tkX ss v0))) 2))) 3 (((upN (upN ss 1 (sd (ss 1) (tkX ss v0))) 2 (1 - ((upN ss 1 (sd (ss 1) (tkX ss v0))) 2))) 3) + 1)))))] H := hP
  have hD : va_D A [(ma, .inr (7, [.ref ms, .int (nI sn0), .ref mk, .int (nI tw0), .ref mt, .int (nI ty0), .ref mb, .int (bI il0), .ref me, .ref mr, .int (nI my0), .ref mq, .ref mp, .ref mw, .ref mc])), (ms, .inl (Γ.2 0, 162, .inl (aN (upN (upN (upN ss 1 (sd (ss 1) (tkX ss v0))) 2 (1 - ((upN ss 1 (sd (ss 1) (tkX ss v0))) 2))) 3 (((upN (upN ss 1 (sd (ss 1) (tkX ss v0))) 2 (1 - ((upN ss 1 (sd (ss 1) (tkX ss v0))) 2))) 3) + 1)))))] := hD
  refine lv_iload_n hx hb dX7_taken_56 rfl (lv_at hl 0 rfl) ?_
  refine ro_fin (va_runS (As := [.int (nI (tkX ss v0))]) (rest := []) ⟨hx, hb, hml, hown, hts⟩ (c_X7_bits l Γ _ (tkX ss v0) (Nat.lt_trans (and_lt _ h1) (by decide))) (kcwS 1 hts kv_X7_bits mw_476 (rm_le hR (Nat.le_of_ble_eq_true rfl) (Nat.le_of_ble_eq_true rfl))) (kPc_S hK) rfl rfl hl.1 rfl (lv_room (Nat.le_of_ble_eq_true rfl)) dX7_taken_57 ⟨Nat.zero_le _, Nat.zero_le _⟩) hS (fun locs hS => ?_)
  exact hret () hP hS (rfl) dX7_taken_60
