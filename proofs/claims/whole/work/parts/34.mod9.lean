set_option maxHeartbeats 8000000 in
set_option maxRecDepth 100000 in
theorem c_X7_winning (l : Launch) (Γ : kG) (ma : Nat) (ms : Nat) (sn0 : Nat) (mk : Nat) (tw0 : Nat) (mt : Nat) (ty0 : Nat) (mb : Nat) (il0 : Bool) (me : Nat) (mr : Nat) (my0 : Nat) (mq : Nat) (mp : Nat) (mw : Nat) (mc : Nat) (ss : Nat → Nat) (tb : Nat → Nat) (ed : Nat → Nat) (b1 : Bool) (h0 : ss 0 ≤ 14) (h1 : ss 1 < 2 ^ ss 0) (htb : tbLt tb) (hil : il0 = true → tbOk (gS ss) tb (2 ^ ss 0)) : WRi l yX7_winning (wsq yX7_winning cX7_winning 5 (some .int)) (rmL 6) Γ [.ref ma, .int (bI b1)] [(ma, .inr (7, [.ref ms, .int (nI sn0), .ref mk, .int (nI tw0), .ref mt, .int (nI ty0), .ref mb, .int (bI il0), .ref me, .ref mr, .int (nI my0), .ref mq, .ref mp, .ref mw, .ref mc])), (ms, .inl (Γ.2 0, 162, .inl (aN ss))), (mb, .inl (Γ.2 0, 16384, .inl (aN tb))), (me, .inl (Γ.2 0, 14, .inl (aN ed)))] (fun u : (Nat → Nat) × (Nat → Nat) × Bool => [(ma, .inr (7, [.ref ms, .int (nI sn0), .ref mk, .int (nI tw0), .ref mt, .int (nI ty0), .ref mb, .int (bI u.2.2), .ref me, .ref mr, .int (nI my0), .ref mq, .ref mp, .ref mw, .ref mc])), (ms, .inl (Γ.2 0, 162, .inl (aN ss))), (mb, .inl (Γ.2 0, 16384, .inl (aN u.1))), (me, .inl (Γ.2 0, 14, .inl (aN u.2.1)))]) (fun (r : Int32) (u : (Nat → Nat) × (Nat → Nat) × Bool) => r = (wnR b1 (wnP (gS ss) (ss 1)) (ss 0)) ∧ tbLt u.1 ∧ (u.2.2 = true → tbOk (gS ss) u.1 (2 ^ ss 0))) := by
  refine wr_ofi (cc := cX7_winning) (maxL := 5) (by decide +kernel) (Nat.le_of_ble_eq_true rfl) rfl ?_
  intro p ev R st mi args below meth cd Q A ls C0 hR hret hP hD hS hl
  obtain ⟨hx, hb, hr, hml, hown, hts, hlk, hK, hnm⟩ := C0
  have hown : st.vm.findClass RX7 = some mi.cls := hown
  have hw := w14 h1 h0
  refine lv_iconst (v := (nI 0)) hx hb dX7_winning_0 (by decide) ?_
  refine lv_istore_n (lv' := [(2, .int (nI 0)), (0, .ref ma), (1, .int (bI b1))]) hx hb dX7_winning_1 rfl hl (by decide) rfl (fun ls hl => ?_)
  refine lv_iconst (v := (-1)) hx hb dX7_winning_2 (by decide) ?_
  refine lv_istore_n (lv' := [(3, .int (-1)), (2, .int (nI 0)), (0, .ref ma), (1, .int (bI b1))]) hx hb dX7_winning_3 rfl hl (by decide) rfl (fun ls hl => ?_)
  refine lv_aload_n hx hb dX7_winning_4 rfl (lv_at hl 2 rfl) ?_
  refine va_get (D := Γ.1) (ci := 7) (v := .ref ms) (C := RX7) (T := TX7) (N := 15) hx hb hts hinX7 hown hK.1 hP 0 rfl rfl 0 (by decide) (hts _ mw_400) (fun _ h9 => h9) rfl dX7_winning_5 ?_
  refine lv_iconst (v := (nI 0)) hx hb dX7_winning_8 (by decide) ?_
  refine iald_N hx hb hK.1 hP 1 0 rfl rfl (by omega) (by first | decide | assumption) dX7_winning_9 ?_
  refine lv_iconst (v := (nI 1)) hx hb dX7_winning_10 (by decide) ?_
  refine lv_isub hx hb dX7_winning_11 ?_
  refine tp_i (y := (dnn (ss 0) 0)) (dnn_0 h0) ?_
  refine lv_istore (lv' := [(4, .int (dnn (ss 0) 0)), (3, .int (-1)), (2, .int (nI 0)), (0, .ref ma), (1, .int (bI b1))]) hx hb dX7_winning_12 hl (by decide) rfl (fun ls hl => ?_)
  have LP14 : ∀ (fu : Nat) (d0 : Nat) (t8 : Nat → Nat) (e8 : Nat → Nat) (b8 : Bool) (hd0 : d0 ≤ ss 0) (hlt8 : tbLt t8) (hil8 : b8 = true → tbOk (gS ss) t8 (2 ^ ss 0)), (ss 0 - d0) < fu → ∀ (H : Heap) (locs : List Loc), va_P Γ.1 vwCl [(ma, .inr (7, [.ref ms, .int (nI sn0), .ref mk, .int (nI tw0), .ref mt, .int (nI ty0), .ref mb, .int (bI b8), .ref me, .ref mr, .int (nI my0), .ref mq, .ref mp, .ref mw, .ref mc])), (ms, .inl (Γ.2 0, 162, .inl (aN ss))), (mb, .inl (Γ.2 0, 16384, .inl (aN t8))), (me, .inl (Γ.2 0, 14, .inl (aN e8)))] H → va_D A [(ma, .inr (7, [.ref ms, .int (nI sn0), .ref mk, .int (nI tw0), .ref mt, .int (nI ty0), .ref mb, .int (bI b8), .ref me, .ref mr, .int (nI my0), .ref mq, .ref mp, .ref mw, .ref mc])), (ms, .inl (Γ.2 0, 162, .inl (aN ss))), (mb, .inl (Γ.2 0, 16384, .inl (aN t8))), (me, .inl (Γ.2 0, 14, .inl (aN e8)))] → va_S A st.heap H locs → ∀ (ls : Array Slot), lv_has ls 5 [(4, .int (dnn (ss 0) d0)), (3, .int (wf (wnP (gS ss) (ss 1)) (ss 0) d0)), (2, .int (nI (wd (wnP (gS ss) (ss 1)) (ss 0) d0))), (0, .ref ma), (1, .int (bI b1))] → W p l ev R st mi args below meth cd H locs 0 0 Q (F0 mi 14 ls []) := by
    intro fu
    induction fu with
    | zero => intro d0 t8 e8 b8 hd0 hlt8 hil8 hfu; exact absurd hfu (Nat.not_lt_zero _)
    | succ fu ih14 =>
      intro d0 t8 e8 b8 hd0 hlt8 hil8 hfu H locs hP hD hS ls hl
      refine lv_iload hx hb dX7_winning_14 (lv_at hl 0 rfl) ?_
      refine lv_if_lt (tgt := 53) hx hb dX7_winning_16 (by decide) (fun c_16 => ?_) (fun c_16 => ?_)
      · skip
        obtain rfl : d0 = ss 0 := (dnn_neg h0 hd0).mp c_16
        refine lv_iload_n hx hb dX7_winning_53 rfl (lv_at hl 4 rfl) ?_
        refine nb_ifb_eq (tgt := 61) hx hb dX7_winning_54 (by decide) (fun c_54 => ?_) (fun c_54 => ?_)
        · skip
          refine lv_iload_n hx hb dX7_winning_61 rfl (lv_at hl 1 rfl) ?_
          exact hret (t8, e8, b8) hP hS (⟨by first | (rw [c_54]; rfl), hlt8, hil8⟩) dX7_winning_62
        · skip
          refine lv_iload_n hx hb dX7_winning_57 rfl (lv_at hl 2 rfl) ?_
          refine lv_goto (tgt := 62) hx hb dX7_winning_58 (by decide) ?_
          exact hret (t8, e8, b8) hP hS (⟨by first | (rw [c_54]; rfl), hlt8, hil8⟩) dX7_winning_62
      · skip
        have hd1 : d0 < ss 0 := by
          rcases Nat.lt_or_ge d0 (ss 0) with z9 | z9
          · exact z9
          · exact absurd ((dnn_neg h0 hd0).mpr (by omega)) c_16
        have hl : lv_has ls 5 [(4, .int (nI (ss 0 - 1 - d0))), (3, .int (wf (wnP (gS ss) (ss 1)) (ss 0) d0)), (2, .int (nI (wd (wnP (gS ss) (ss 1)) (ss 0) d0))), (0, .ref ma), (1, .int (bI b1))] := lv_cast hl (by rw [dnn_lt hd1])
        refine lv_aload_n hx hb dX7_winning_19 rfl (lv_at hl 3 rfl) ?_
        refine lv_iload hx hb dX7_winning_20 (lv_at hl 0 rfl) ?_
        refine ro_fin (va_runV (As := [.int (nI (ss 0 - 1 - d0))]) (rest := []) ⟨hx, hb, hml, hown, hts⟩ (c_X7_isThere l Γ _ ma ms sn0 mk tw0 mt ty0 mb b8 me mr my0 mq mp mw mc ss (ss 0 - 1 - d0) (hP.sub (ws' := [(ma, .inr (7, [.ref ms, .int (nI sn0), .ref mk, .int (nI tw0), .ref mt, .int (nI ty0), .ref mb, .int (bI b8), .ref me, .ref mr, .int (nI my0), .ref mq, .ref mp, .ref mw, .ref mc])), (ms, .inl (Γ.2 0, 162, .inl (aN ss)))]) [0, 1] rfl) (hw) (by omega)) (kcwV 1 hts kv_X7_isThere mw_470 (rm_le hR (Nat.le_of_ble_eq_true rfl) (Nat.le_of_ble_eq_true rfl))) (kPc_V hK (va_recv hK.1 hP (ci := 7) (q0 := 0) rfl rfl)) rfl rfl hl.1 rfl (lv_room (Nat.le_of_ble_eq_true rfl)) dX7_winning_22 ⟨Nat.zero_le _, Nat.zero_le _⟩) hS (fun locs hS => ?_)
        refine nb_ifb_eq (tgt := 47) hx hb dX7_winning_25 (by decide) (fun c_25 => ?_) (fun c_25 => ?_)
        · skip
          have hb9 : (wnP (gS ss) (ss 1)) (ss 0 - 1 - d0) = false := by rw [wnP, c_25]; rfl
          have hl : lv_has ls 5 [(4, .int (nI (ss 0 - 1 - d0))), (3, .int (wf (wnP (gS ss) (ss 1)) (ss 0) (d0 + 1))), (2, .int (nI (wd (wnP (gS ss) (ss 1)) (ss 0) (d0 + 1)))), (0, .ref ma), (1, .int (bI b1))] := lv_cast hl (by simp only [wd, wf, hb9, Bool.false_eq_true, if_false])
          refine lv_iinc (v := (dnn (ss 0) (d0 + 1))) (lv' := [(4, .int (dnn (ss 0) (d0 + 1))), (3, .int (wf (wnP (gS ss) (ss 1)) (ss 0) (d0 + 1))), (2, .int (nI (wd (wnP (gS ss) (ss 1)) (ss 0) (d0 + 1)))), (0, .ref ma), (1, .int (bI b1))]) hx hb dX7_winning_47 hl (k := 0) rfl (dnn_s h0 hd1) (by decide) rfl (fun ls hl => ?_)
          refine lv_goto (tgt := 14) hx hb dX7_winning_50 (by decide) ?_
          exact ih14 (d0 + 1) t8 e8 b8 (by first | omega | assumption) (hlt8) (hil8) (by omega) _ _ hP hD hS ls (lv_sub hl [0, 1, 2, 3, 4] rfl)
        · skip
          refine lv_aload_n hx hb dX7_winning_28 rfl (lv_at hl 3 rfl) ?_
          refine lv_aload_n hx hb dX7_winning_29 rfl (lv_at hl 3 rfl) ?_
          refine lv_iload hx hb dX7_winning_30 (lv_at hl 0 rfl) ?_
          refine ro_fin (va_runV (As := [.int (nI (ss 0 - 1 - d0))]) (rest := [.ref ma]) ⟨hx, hb, hml, hown, hts⟩ (c_X7_behind l Γ _ ma ms sn0 mk tw0 mt ty0 mb b8 me mr my0 mq mp mw mc ss (ss 0 - 1 - d0) (hP.sub (ws' := [(ma, .inr (7, [.ref ms, .int (nI sn0), .ref mk, .int (nI tw0), .ref mt, .int (nI ty0), .ref mb, .int (bI b8), .ref me, .ref mr, .int (nI my0), .ref mq, .ref mp, .ref mw, .ref mc])), (ms, .inl (Γ.2 0, 162, .inl (aN ss)))]) [0, 1] rfl) (by omega)) (kcwV 1 hts kv_X7_behind mw_516 (rm_le hR (Nat.le_of_ble_eq_true rfl) (Nat.le_of_ble_eq_true rfl))) (kPc_V hK (va_recv hK.1 hP (ci := 7) (q0 := 0) rfl rfl)) rfl rfl hl.1 rfl (lv_room (Nat.le_of_ble_eq_true rfl)) dX7_winning_32 ⟨Nat.zero_le _, Nat.zero_le _⟩) hS (fun locs hS => ?_)
          refine wr_fini (va_runV (As := [.int (nI (lft (gS ss) (ss 1) (ss 0 - 1 - d0)))]) (rest := []) ⟨hx, hb, hml, hown, hts⟩ (c_X7_valueOf l Γ ma ms sn0 mk tw0 mt ty0 mb b8 me mr my0 mq mp mw mc ss t8 e8 (lft (gS ss) (ss 1) (ss 0 - 1 - d0)) (by first | omega | assumption) (sd_lt (k := ss 0) _ h1) (hlt8) (hil8)) (kcwV 1 hts kv_X7_valueOf mw_519 (rm_le hR (Nat.le_of_ble_eq_true rfl) (Nat.le_of_ble_eq_true rfl))) (kPw_V hK (va_recv hK.1 hP (ci := 7) (q0 := 0) rfl rfl) (hP.sub (ws' := [(ma, .inr (7, [.ref ms, .int (nI sn0), .ref mk, .int (nI tw0), .ref mt, .int (nI ty0), .ref mb, .int (bI b8), .ref me, .ref mr, .int (nI my0), .ref mq, .ref mp, .ref mw, .ref mc])), (ms, .inl (Γ.2 0, 162, .inl (aN ss))), (mb, .inl (Γ.2 0, 16384, .inl (aN t8))), (me, .inl (Γ.2 0, 14, .inl (aN e8)))]) [0, 1, 2, 3] rfl) (hD.sub (ws' := [(ma, .inr (7, [.ref ms, .int (nI sn0), .ref mk, .int (nI tw0), .ref mt, .int (nI ty0), .ref mb, .int (bI b8), .ref me, .ref mr, .int (nI my0), .ref mq, .ref mp, .ref mw, .ref mc])), (ms, .inl (Γ.2 0, 162, .inl (aN ss))), (mb, .inl (Γ.2 0, 16384, .inl (aN t8))), (me, .inl (Γ.2 0, 14, .inl (aN e8)))]) [0, 1, 2, 3] (by decide) rfl)) rfl rfl hl.1 rfl (lv_room (Nat.le_of_ble_eq_true rfl)) dX7_winning_35 ⟨Nat.zero_le _, Nat.zero_le _⟩) hP hD hS [0, 1, 2, 3] rfl (fun _ => rfl) (fun r u H locs hw hP hD hS => ?_)
          obtain ⟨t7, e7⟩ := u
          obtain ⟨rfl, hq7, hr7⟩ := hw
          have hP : va_P Γ.1 vwCl [(ma, .inr (7, [.ref ms, .int (nI sn0), .ref mk, .int (nI tw0), .ref mt, .int (nI ty0), .ref mb, .int (bI true), .ref me, .ref mr, .int (nI my0), .ref mq, .ref mp, .ref mw, .ref mc])), (ms, .inl (Γ.2 0, 162, .inl (aN ss))), (mb, .inl (Γ.2 0, 16384, .inl (aN t7))), (me, .inl (Γ.2 0, 14, .inl (aN e7)))] H := hP
          have hD : va_D A [(ma, .inr (7, [.ref ms, .int (nI sn0), .ref mk, .int (nI tw0), .ref mt, .int (nI ty0), .ref mb, .int (bI true), .ref me, .ref mr, .int (nI my0), .ref mq, .ref mp, .ref mw, .ref mc])), (ms, .inl (Γ.2 0, 162, .inl (aN ss))), (mb, .inl (Γ.2 0, 16384, .inl (aN t7))), (me, .inl (Γ.2 0, 14, .inl (aN e7)))] := hD
          refine nb_if_ne (tgt := 47) hx hb (Nat.lt_trans (V_16 _ _) (by decide)) dX7_winning_38 (by decide) (fun c_38 => ?_) (fun c_38 => ?_)
          · skip
            have hb9 : (wnP (gS ss) (ss 1)) (ss 0 - 1 - d0) = false := by rw [wnP, c_25, decide_eq_false c_38]; rfl
            have hl : lv_has ls 5 [(4, .int (nI (ss 0 - 1 - d0))), (3, .int (wf (wnP (gS ss) (ss 1)) (ss 0) (d0 + 1))), (2, .int (nI (wd (wnP (gS ss) (ss 1)) (ss 0) (d0 + 1)))), (0, .ref ma), (1, .int (bI b1))] := lv_cast hl (by simp only [wd, wf, hb9, Bool.false_eq_true, if_false])
            refine lv_iinc (v := (dnn (ss 0) (d0 + 1))) (lv' := [(4, .int (dnn (ss 0) (d0 + 1))), (3, .int (wf (wnP (gS ss) (ss 1)) (ss 0) (d0 + 1))), (2, .int (nI (wd (wnP (gS ss) (ss 1)) (ss 0) (d0 + 1)))), (0, .ref ma), (1, .int (bI b1))]) hx hb dX7_winning_47 hl (k := 0) rfl (dnn_s h0 hd1) (by decide) rfl (fun ls hl => ?_)
            refine lv_goto (tgt := 14) hx hb dX7_winning_50 (by decide) ?_
            exact ih14 (d0 + 1) t7 e7 true (by first | omega | assumption) (hr7) (fun _ => hq7) (by omega) _ _ hP hD hS ls (lv_sub hl [0, 1, 2, 3, 4] rfl)
          · skip
            have hb9 : (wnP (gS ss) (ss 1)) (ss 0 - 1 - d0) = true := by rw [wnP, c_25, decide_eq_true c_38]; rfl
            refine lv_iinc (v := (nI (wd (wnP (gS ss) (ss 1)) (ss 0) (d0 + 1)))) (lv' := [(2, .int (nI (wd (wnP (gS ss) (ss 1)) (ss 0) (d0 + 1)))), (4, .int (nI (ss 0 - 1 - d0))), (3, .int (wf (wnP (gS ss) (ss 1)) (ss 0) d0)), (0, .ref ma), (1, .int (bI b1))]) hx hb dX7_winning_41 hl (k := 2) rfl (by rw [wd, if_t hb9]; exact nI_1 _) (by decide) rfl (fun ls hl => ?_)
            refine lv_iload hx hb dX7_winning_44 (lv_at hl 1 rfl) ?_
            refine tp_i (y := (wf (wnP (gS ss) (ss 1)) (ss 0) (d0 + 1))) (by rw [wf, if_t hb9]) ?_
            refine lv_istore_n (lv' := [(3, .int (wf (wnP (gS ss) (ss 1)) (ss 0) (d0 + 1))), (2, .int (nI (wd (wnP (gS ss) (ss 1)) (ss 0) (d0 + 1)))), (4, .int (nI (ss 0 - 1 - d0))), (0, .ref ma), (1, .int (bI b1))]) hx hb dX7_winning_46 rfl hl (by decide) rfl (fun ls hl => ?_)
            refine lv_iinc (v := (dnn (ss 0) (d0 + 1))) (lv' := [(4, .int (dnn (ss 0) (d0 + 1))), (3, .int (wf (wnP (gS ss) (ss 1)) (ss 0) (d0 + 1))), (2, .int (nI (wd (wnP (gS ss) (ss 1)) (ss 0) (d0 + 1)))), (0, .ref ma), (1, .int (bI b1))]) hx hb dX7_winning_47 hl (k := 2) rfl (dnn_s h0 hd1) (by decide) rfl (fun ls hl => ?_)
            refine lv_goto (tgt := 14) hx hb dX7_winning_50 (by decide) ?_
            exact ih14 (d0 + 1) t7 e7 true (by first | omega | assumption) (hr7) (fun _ => hq7) (by omega) _ _ hP hD hS ls (lv_sub hl [0, 1, 2, 3, 4] rfl)
  exact LP14 ((ss 0 - 0) + 1) 0 tb ed il0 (by first | omega | assumption) (htb) (hil) (Nat.lt_succ_self _) _ _ hP hD hS ls (lv_sub hl [0, 1, 2, 3, 4] rfl)
