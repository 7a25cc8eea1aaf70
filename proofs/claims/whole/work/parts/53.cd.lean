set_option maxHeartbeats 8000000 in
set_option maxRecDepth 100000 in
theorem c_X7_codeFrom (l : Launch) (Γ : kG) (ma : Nat) (ms : Nat) (sn0 : Nat) (mk : Nat) (tw0 : Nat) (mt : Nat) (ty0 : Nat) (mb : Nat) (il0 : Bool) (me : Nat) (mr : Nat) (my0 : Nat) (mq : Nat) (mp : Nat) (mw : Nat) (mc : Nat) (ss : Nat → Nat) (qu : Nat → Nat) (pj : Nat → Int32) (wj : Nat → Int32) (cj : Nat → Int64) (r0 : Nat) (T0 : Nat) (h0 : ss 0 ≤ 14) (hT0 : T0 < 2 ^ ss 0) (hr0 : T0.testBit r0 = true) (hfg : FG (gS ss)) : WRl l yX7_codeFrom (wsq yX7_codeFrom cX7_codeFrom 13 (some .long)) (rmL 2) Γ [.ref ma, .int (nI r0), .int (nI T0)] [(ma, .inr (7, [.ref ms, .int (nI sn0), .ref mk, .int (nI tw0), .ref mt, .int (nI ty0), .ref mb, .int (bI il0), .ref me, .ref mr, .int (nI my0), .ref mq, .ref mp, .ref mw, .ref mc])), (ms, .inl (Γ.2 0, 162, .inl (aN ss))), (mq, .inl (Γ.2 0, 14, .inl (aN qu))), (mp, .inl (Γ.2 0, 14, .inl pj)), (mw, .inl (Γ.2 0, 14, .inl wj)), (mc, .inl (Γ.2 3, 14, .inr (.inl cj)))] (fun u : (Nat → Nat) × (Nat → Int32) × (Nat → Int32) × (Nat → Int64) => [(ma, .inr (7, [.ref ms, .int (nI sn0), .ref mk, .int (nI tw0), .ref mt, .int (nI ty0), .ref mb, .int (bI il0), .ref me, .ref mr, .int (nI my0), .ref mq, .ref mp, .ref mw, .ref mc])), (ms, .inl (Γ.2 0, 162, .inl (aN ss))), (mq, .inl (Γ.2 0, 14, .inl (aN u.1))), (mp, .inl (Γ.2 0, 14, .inl u.2.1)), (mw, .inl (Γ.2 0, 14, .inl u.2.2.1)), (mc, .inl (Γ.2 3, 14, .inr (.inl u.2.2.2)))]) (fun (r : Int64) (u : (Nat → Nat) × (Nat → Int32) × (Nat → Int32) × (Nat → Int64)) => r = (lN (CD (gS ss) T0 r0))) := by
  refine wr_ofl (cc := cX7_codeFrom) (maxL := 13) (by decide +kernel) (Nat.le_of_ble_eq_true rfl) rfl ?_
  intro p ev R st mi args below meth cd Q A ls C0 hR hret hP hD hS hl
  obtain ⟨hx, hb, hr, hml, hown, hts, hlk, hK, hnm⟩ := C0
  have hown : st.vm.findClass RX7 = some mi.cls := hown
  have hT9 := w14 hT0 h0
  have hr9 := bit_in hT9 hr0
  refine lv_aload_n hx hb dX7_codeFrom_0 rfl (lv_at hl 0 rfl) ?_
  refine lv_iload_n hx hb dX7_codeFrom_1 rfl (lv_at hl 1 rfl) ?_
  refine lv_iload_n hx hb dX7_codeFrom_2 rfl (lv_at hl 2 rfl) ?_
  refine wr_fini (va_runV (As := [.int (nI r0), .int (nI T0)]) (rest := []) ⟨hx, hb, hml, hown, hts⟩ (c_X7_walks l Γ ma ms sn0 mk tw0 mt ty0 mb il0 me mr my0 mq mp mw mc ss qu pj r0 T0 (by first | omega | assumption) (by first | omega | assumption) (by first | omega | assumption) (by first | omega | assumption)) (kcwV 2 hts kv_X7_walks mw_458 (rm_le hR (Nat.le_of_ble_eq_true rfl) (Nat.le_of_ble_eq_true rfl))) (kPw_V hK (va_recv hK.1 hP (ci := 7) (q0 := 0) rfl rfl) (hP.sub (ws' := [(ma, .inr (7, [.ref ms, .int (nI sn0), .ref mk, .int (nI tw0), .ref mt, .int (nI ty0), .ref mb, .int (bI il0), .ref me, .ref mr, .int (nI my0), .ref mq, .ref mp, .ref mw, .ref mc])), (ms, .inl (Γ.2 0, 162, .inl (aN ss))), (mq, .inl (Γ.2 0, 14, .inl (aN qu))), (mp, .inl (Γ.2 0, 14, .inl pj))]) [0, 1, 2, 3] rfl) (hD.sub (ws' := [(ma, .inr (7, [.ref ms, .int (nI sn0), .ref mk, .int (nI tw0), .ref mt, .int (nI ty0), .ref mb, .int (bI il0), .ref me, .ref mr, .int (nI my0), .ref mq, .ref mp, .ref mw, .ref mc])), (ms, .inl (Γ.2 0, 162, .inl (aN ss))), (mq, .inl (Γ.2 0, 14, .inl (aN qu))), (mp, .inl (Γ.2 0, 14, .inl pj))]) [0, 1, 2, 3] (by decide) rfl)) rfl rfl hl.1 rfl (lv_room (Nat.le_of_ble_eq_true rfl)) dX7_codeFrom_3 ⟨Nat.zero_le _, Nat.zero_le _⟩) hP hD hS [0, 1, 2, 3] rfl (fun _ => rfl) (fun r u H locs hw hP hD hS => ?_)
  obtain ⟨n7, q7, p7⟩ := u
  obtain ⟨rfl, hQ7⟩ := hw
  have hP : va_P Γ.1 vwCl [(ma, .inr (7, [.ref ms, .int (nI sn0), .ref mk, .int (nI tw0), .ref mt, .int (nI ty0), .ref mb, .int (bI il0), .ref me, .ref mr, .int (nI my0), .ref mq, .ref mp, .ref mw, .ref mc])), (ms, .inl (Γ.2 0, 162, .inl (aN ss))), (mq, .inl (Γ.2 0, 14, .inl (aN q7))), (mp, .inl (Γ.2 0, 14, .inl p7)), (mw, .inl (Γ.2 0, 14, .inl wj)), (mc, .inl (Γ.2 3, 14, .inr (.inl cj)))] H := hP
  have hD : va_D A [(ma, .inr (7, [.ref ms, .int (nI sn0), .ref mk, .int (nI tw0), .ref mt, .int (nI ty0), .ref mb, .int (bI il0), .ref me, .ref mr, .int (nI my0), .ref mq, .ref mp, .ref mw, .ref mc])), (ms, .inl (Γ.2 0, 162, .inl (aN ss))), (mq, .inl (Γ.2 0, 14, .inl (aN q7))), (mp, .inl (Γ.2 0, 14, .inl p7)), (mw, .inl (Γ.2 0, 14, .inl wj)), (mc, .inl (Γ.2 3, 14, .inr (.inl cj)))] := hD
  have hQ7 : QI (gS ss) T0 r0 q7 p7 n7 := hQ7
  refine lv_istore_n (lv' := [(3, .int (nI n7)), (0, .ref ma), (1, .int (nI r0)), (2, .int (nI T0))]) hx hb dX7_codeFrom_6 rfl hl (by decide) rfl (fun ls hl => ?_)
  refine lv_iload_n hx hb dX7_codeFrom_7 rfl (lv_at hl 0 rfl) ?_
  refine lv_iconst (v := (nI 1)) hx hb dX7_codeFrom_8 (by decide) ?_
  have hn7 := hQ7.n14
  refine lv_isub hx hb dX7_codeFrom_9 ?_
  refine tp_i (y := (dnn n7 0)) (dnn_0 hn7) ?_
  refine lv_istore (lv' := [(4, .int (dnn n7 0)), (3, .int (nI n7)), (0, .ref ma), (1, .int (nI r0)), (2, .int (nI T0))]) hx hb dX7_codeFrom_10 hl (by decide) rfl (fun ls hl => ?_)
  have LP12 : ∀ (fu : Nat) (d1 : Nat) (w1 : Nat → Int32) (c1 : Nat → Int64) (hd1 : d1 ≤ n7) (hC : CIv (gS ss) T0 q7 p7 n7 d1 c1) (hWv : WIv (gS ss) T0 q7 p7 n7 d1 w1), (n7 - d1) < fu → ∀ (H : Heap) (locs : List Loc), va_P Γ.1 vwCl [(ma, .inr (7, [.ref ms, .int (nI sn0), .ref mk, .int (nI tw0), .ref mt, .int (nI ty0), .ref mb, .int (bI il0), .ref me, .ref mr, .int (nI my0), .ref mq, .ref mp, .ref mw, .ref mc])), (ms, .inl (Γ.2 0, 162, .inl (aN ss))), (mq, .inl (Γ.2 0, 14, .inl (aN q7))), (mp, .inl (Γ.2 0, 14, .inl p7)), (mw, .inl (Γ.2 0, 14, .inl w1)), (mc, .inl (Γ.2 3, 14, .inr (.inl c1)))] H → va_D A [(ma, .inr (7, [.ref ms, .int (nI sn0), .ref mk, .int (nI tw0), .ref mt, .int (nI ty0), .ref mb, .int (bI il0), .ref me, .ref mr, .int (nI my0), .ref mq, .ref mp, .ref mw, .ref mc])), (ms, .inl (Γ.2 0, 162, .inl (aN ss))), (mq, .inl (Γ.2 0, 14, .inl (aN q7))), (mp, .inl (Γ.2 0, 14, .inl p7)), (mw, .inl (Γ.2 0, 14, .inl w1)), (mc, .inl (Γ.2 3, 14, .inr (.inl c1)))] → va_S A st.heap H locs → ∀ (ls : Array Slot), lv_has ls 13 [(4, .int (dnn n7 d1)), (3, .int (nI n7)), (0, .ref ma), (1, .int (nI r0)), (2, .int (nI T0))] → W p l ev R st mi args below meth cd H locs 0 0 Q (F0 mi 12 ls []) := by
    intro fu
    induction fu with
    | zero => intro d1 w1 c1 hd1 hC hWv hfu; exact absurd hfu (Nat.not_lt_zero _)
    | succ fu ih12 =>
      intro d1 w1 c1 hd1 hC hWv hfu H locs hP hD hS ls hl
      refine lv_iload hx hb dX7_codeFrom_12 (lv_at hl 0 rfl) ?_
      refine lv_if_lt (tgt := 212) hx hb dX7_codeFrom_14 (by decide) (fun c_14 => ?_) (fun c_14 => ?_)
      · skip
        obtain rfl : n7 = d1 := ((dnn_neg hn7 hd1).mp c_14).symm
        refine lv_aload_n hx hb dX7_codeFrom_212 rfl (lv_at hl 2 rfl) ?_
        refine va_get (D := Γ.1) (ci := 7) (v := .ref mc) (C := RX7) (T := TX7) (N := 15) hx hb hts hinX7 hown hK.1 hP 0 rfl rfl 14 (by decide) (hts _ mw_411) (fun _ h9 => h9) rfl dX7_codeFrom_213 ?_
        refine lv_iload_n hx hb dX7_codeFrom_216 rfl (lv_at hl 3 rfl) ?_
        refine va_lald hx hb hK.1 hP 5 3 rfl rfl (vin (by omega) (by omega)) dX7_codeFrom_217 ?_
        refine tp_l (y := (lN (CD (gS ss) T0 r0))) (by rw [nI_clamp (by omega), CI_root hQ7 hC]) ?_
        exact hret (q7, p7, w1, c1) hP hS (rfl) dX7_codeFrom_218
      · skip
        have hd2 : d1 < n7 := by
          rcases Nat.lt_or_ge d1 n7 with z9 | z9
          · exact z9
          · exact absurd ((dnn_neg hn7 hd1).mpr (by omega)) c_14
        obtain ⟨k1, hk1⟩ : ∃ k1, k1 = n7 - 1 - d1 := ⟨_, rfl⟩
        have hkd : k1 + 1 + d1 = n7 := by omega
        have hk7 : k1 < n7 := by omega
        have hx14 := (hQ7.a1 k1 hk7).1
        have hCH := CHs_lt (g := gS ss) (q := q7) (p := p7) (k := k1) hT9
        have hl : lv_has ls 13 [(4, .int (nI k1)), (3, .int (nI n7)), (0, .ref ma), (1, .int (nI r0)), (2, .int (nI T0))] := lv_cast hl (by rw [dnn_lt hd2, hk1])
        refine lv_aload_n hx hb dX7_codeFrom_17 rfl (lv_at hl 2 rfl) ?_
        refine va_get (D := Γ.1) (ci := 7) (v := .ref mq) (C := RX7) (T := TX7) (N := 15) hx hb hts hinX7 hown hK.1 hP 0 rfl rfl 11 (by decide) (hts _ mw_407) (fun _ h9 => h9) rfl dX7_codeFrom_18 ?_
        refine lv_iload hx hb dX7_codeFrom_21 (lv_at hl 0 rfl) ?_
        refine iald_N hx hb hK.1 hP 2 0 rfl rfl (by omega) (by first | decide | assumption) dX7_codeFrom_23 ?_
        refine lv_istore (lv' := [(5, .int (nI (q7 k1))), (4, .int (nI k1)), (3, .int (nI n7)), (0, .ref ma), (1, .int (nI r0)), (2, .int (nI T0))]) hx hb dX7_codeFrom_24 hl (by decide) rfl (fun ls hl => ?_)
        refine lv_lconst (v := lN 1) hx hb dX7_codeFrom_26 rfl ?_
        refine lv_lstore (lv' := [(6, .long (lN 1)), (5, .int (nI (q7 k1))), (4, .int (nI k1)), (3, .int (nI n7)), (0, .ref ma), (1, .int (nI r0)), (2, .int (nI T0))]) hx hb dX7_codeFrom_27 hl (by decide) rfl (fun ls hl => ?_)
        refine lv_iconst (v := (nI 1)) hx hb dX7_codeFrom_29 (by decide) ?_
        refine lv_istore (lv' := [(8, .int (nI 1)), (6, .long (lN 1)), (5, .int (nI (q7 k1))), (4, .int (nI k1)), (3, .int (nI n7)), (0, .ref ma), (1, .int (nI r0)), (2, .int (nI T0))]) hx hb dX7_codeFrom_30 hl (by decide) rfl (fun ls hl => ?_)
        refine lv_iconst (v := (nI 0)) hx hb dX7_codeFrom_32 (by decide) ?_
        refine lv_istore (lv' := [(9, .int (nI 0)), (8, .int (nI 1)), (6, .long (lN 1)), (5, .int (nI (q7 k1))), (4, .int (nI k1)), (3, .int (nI n7)), (0, .ref ma), (1, .int (nI r0)), (2, .int (nI T0))]) hx hb dX7_codeFrom_33 hl (by decide) rfl (fun ls hl => ?_)
        have LP35 : ∀ (fu : Nat) (v1 : Nat) (s1 : Nat) (br1 : Int32) (Y1 : Nat) (w2 : Nat → Int32) (t1 : Nat) (hO : OInv (ccF (gS ss) T0 (q7 k1)) (wwF (gS ss) T0 (q7 k1)) (CHs (gS ss) T0 q7 p7 k1) Y1 v1 s1 t1) (hbr : br1 < 0 → Y1 = 0) (hwa : WY (gS ss) T0 q7 p7 k1 Y1 w2) (hwb : ∀ x, (CHs (gS ss) T0 q7 p7 k1).testBit x = false → w2 x = w1 x) (hs1 : s1 + sm (wwF (gS ss) T0 (q7 k1)) Y1 14 = 1 + sm (wwF (gS ss) T0 (q7 k1)) (CHs (gS ss) T0 q7 p7 k1) 14), (pc Y1 + if br1 < 0 then 0 else 1) < fu → ∀ (H : Heap) (locs : List Loc), va_P Γ.1 vwCl [(ma, .inr (7, [.ref ms, .int (nI sn0), .ref mk, .int (nI tw0), .ref mt, .int (nI ty0), .ref mb, .int (bI il0), .ref me, .ref mr, .int (nI my0), .ref mq, .ref mp, .ref mw, .ref mc])), (ms, .inl (Γ.2 0, 162, .inl (aN ss))), (mq, .inl (Γ.2 0, 14, .inl (aN q7))), (mp, .inl (Γ.2 0, 14, .inl p7)), (mw, .inl (Γ.2 0, 14, .inl w2)), (mc, .inl (Γ.2 3, 14, .inr (.inl c1)))] H → va_D A [(ma, .inr (7, [.ref ms, .int (nI sn0), .ref mk, .int (nI tw0), .ref mt, .int (nI ty0), .ref mb, .int (bI il0), .ref me, .ref mr, .int (nI my0), .ref mq, .ref mp, .ref mw, .ref mc])), (ms, .inl (Γ.2 0, 162, .inl (aN ss))), (mq, .inl (Γ.2 0, 14, .inl (aN q7))), (mp, .inl (Γ.2 0, 14, .inl p7)), (mw, .inl (Γ.2 0, 14, .inl w2)), (mc, .inl (Γ.2 3, 14, .inr (.inl c1)))] → va_S A st.heap H locs → ∀ (ls : Array Slot), lv_has ls 13 [(9, .int br1), (8, .int (nI s1)), (6, .long (lN v1)), (5, .int (nI (q7 k1))), (4, .int (nI k1)), (3, .int (nI n7)), (0, .ref ma), (1, .int (nI r0)), (2, .int (nI T0))] → W p l ev R st mi args below meth cd H locs 0 0 Q (F0 mi 35 ls []) := by
          intro fu
          induction fu with
          | zero => intro v1 s1 br1 Y1 w2 t1 hO hbr hwa hwb hs1 hfu; exact absurd hfu (Nat.not_lt_zero _)
          | succ fu ih35 =>
            intro v1 s1 br1 Y1 w2 t1 hO hbr hwa hwb hs1 hfu H locs hP hD hS ls hl
            have hsub := hO.2.1
            have hf35 := hfu
            refine lv_iload hx hb dX7_codeFrom_35 (lv_at hl 0 rfl) ?_
            refine lv_if_lt (tgt := 186) hx hb dX7_codeFrom_37 (by decide) (fun c_37 => ?_) (fun c_37 => ?_)
            · skip
              have hY0 := hbr c_37
              subst hY0
              have hfin := CD_end hfg hT9 hQ7 hk7 hO
              have hsf : s1 = wtD (gS ss) (sd T0 (pmk (p7 (q7 k1)))) (q7 k1) := by
                rw [← CHs_sum hfg hT9 hQ7 hk7, ← hs1, sm_z]; rfl
              have hv28 := OInv_X hO
              refine lv_aload_n hx hb dX7_codeFrom_186 rfl (lv_at hl 6 rfl) ?_
              refine va_get (D := Γ.1) (ci := 7) (v := .ref mc) (C := RX7) (T := TX7) (N := 15) hx hb hts hinX7 hown hK.1 hP 0 rfl rfl 14 (by decide) (hts _ mw_411) (fun _ h9 => h9) rfl dX7_codeFrom_187 ?_
              refine lv_iload hx hb dX7_codeFrom_190 (lv_at hl 3 rfl) ?_
              refine lv_lload hx hb dX7_codeFrom_192 (lv_at hl 2 rfl) ?_
              refine lv_iconst (v := (nI 1)) hx hb dX7_codeFrom_194 (by decide) ?_
              refine lv_lshl (v := (lN (v1 * 2 ^ 1))) hx hb dX7_codeFrom_195 (lN_shl (by omega) (by omega)) ?_
              refine va_last hx hb hK.1 hP hD hS 5 3 rfl rfl (vin (by omega) (by omega)) dX7_codeFrom_196 (fun H locs hP hD hS => ?_)
              have hP : va_P Γ.1 vwCl [(ma, .inr (7, [.ref ms, .int (nI sn0), .ref mk, .int (nI tw0), .ref mt, .int (nI ty0), .ref mb, .int (bI il0), .ref me, .ref mr, .int (nI my0), .ref mq, .ref mp, .ref mw, .ref mc])), (ms, .inl (Γ.2 0, 162, .inl (aN ss))), (mq, .inl (Γ.2 0, 14, .inl (aN q7))), (mp, .inl (Γ.2 0, 14, .inl p7)), (mw, .inl (Γ.2 0, 14, .inl w2)), (mc, .inl (Γ.2 3, 14, .inr (.inl (vp_updL c1 ((nI (q7 k1))).toNatClampNeg (lN (v1 * 2 ^ 1))))))] H := hP
              have hD : va_D A [(ma, .inr (7, [.ref ms, .int (nI sn0), .ref mk, .int (nI tw0), .ref mt, .int (nI ty0), .ref mb, .int (bI il0), .ref me, .ref mr, .int (nI my0), .ref mq, .ref mp, .ref mw, .ref mc])), (ms, .inl (Γ.2 0, 162, .inl (aN ss))), (mq, .inl (Γ.2 0, 14, .inl (aN q7))), (mp, .inl (Γ.2 0, 14, .inl p7)), (mw, .inl (Γ.2 0, 14, .inl w2)), (mc, .inl (Γ.2 3, 14, .inr (.inl (vp_updL c1 ((nI (q7 k1))).toNatClampNeg (lN (v1 * 2 ^ 1))))))] := hD
              have hP : va_P Γ.1 vwCl [(ma, .inr (7, [.ref ms, .int (nI sn0), .ref mk, .int (nI tw0), .ref mt, .int (nI ty0), .ref mb, .int (bI il0), .ref me, .ref mr, .int (nI my0), .ref mq, .ref mp, .ref mw, .ref mc])), (ms, .inl (Γ.2 0, 162, .inl (aN ss))), (mq, .inl (Γ.2 0, 14, .inl (aN q7))), (mp, .inl (Γ.2 0, 14, .inl p7)), (mw, .inl (Γ.2 0, 14, .inl w2)), (mc, .inl (Γ.2 3, 14, .inr (.inl (vp_updL c1 (q7 k1) (lN (CD (gS ss) (sd T0 (pmk (p7 (q7 k1)))) (q7 k1)))))))] H := cp_w hP (by rw [nI_clamp (by omega), hfin])
              have hD : va_D A [(ma, .inr (7, [.ref ms, .int (nI sn0), .ref mk, .int (nI tw0), .ref mt, .int (nI ty0), .ref mb, .int (bI il0), .ref me, .ref mr, .int (nI my0), .ref mq, .ref mp, .ref mw, .ref mc])), (ms, .inl (Γ.2 0, 162, .inl (aN ss))), (mq, .inl (Γ.2 0, 14, .inl (aN q7))), (mp, .inl (Γ.2 0, 14, .inl p7)), (mw, .inl (Γ.2 0, 14, .inl w2)), (mc, .inl (Γ.2 3, 14, .inr (.inl (vp_updL c1 (q7 k1) (lN (CD (gS ss) (sd T0 (pmk (p7 (q7 k1)))) (q7 k1)))))))] := va_D_fst (by rfl) hD
              refine lv_aload_n hx hb dX7_codeFrom_197 rfl (lv_at hl 6 rfl) ?_
              refine va_get (D := Γ.1) (ci := 7) (v := .ref mw) (C := RX7) (T := TX7) (N := 15) hx hb hts hinX7 hown hK.1 hP 0 rfl rfl 13 (by decide) (hts _ mw_409) (fun _ h9 => h9) rfl dX7_codeFrom_198 ?_
              refine lv_iload hx hb dX7_codeFrom_201 (lv_at hl 3 rfl) ?_
              refine lv_iload hx hb dX7_codeFrom_203 (lv_at hl 1 rfl) ?_
              refine va_iast hx hb hK.1 hP hD hS 4 0 rfl rfl (vin (by omega) (by omega)) dX7_codeFrom_205 (fun H locs hP hD hS => ?_)
              have hP : va_P Γ.1 vwCl [(ma, .inr (7, [.ref ms, .int (nI sn0), .ref mk, .int (nI tw0), .ref mt, .int (nI ty0), .ref mb, .int (bI il0), .ref me, .ref mr, .int (nI my0), .ref mq, .ref mp, .ref mw, .ref mc])), (ms, .inl (Γ.2 0, 162, .inl (aN ss))), (mq, .inl (Γ.2 0, 14, .inl (aN q7))), (mp, .inl (Γ.2 0, 14, .inl p7)), (mw, .inl (Γ.2 0, 14, .inl (upd w2 ((nI (q7 k1))).toNatClampNeg (nI s1)))), (mc, .inl (Γ.2 3, 14, .inr (.inl (vp_updL c1 (q7 k1) (lN (CD (gS ss) (sd T0 (pmk (p7 (q7 k1)))) (q7 k1)))))))] H := hP
              have hD : va_D A [(ma, .inr (7, [.ref ms, .int (nI sn0), .ref mk, .int (nI tw0), .ref mt, .int (nI ty0), .ref mb, .int (bI il0), .ref me, .ref mr, .int (nI my0), .ref mq, .ref mp, .ref mw, .ref mc])), (ms, .inl (Γ.2 0, 162, .inl (aN ss))), (mq, .inl (Γ.2 0, 14, .inl (aN q7))), (mp, .inl (Γ.2 0, 14, .inl p7)), (mw, .inl (Γ.2 0, 14, .inl (upd w2 ((nI (q7 k1))).toNatClampNeg (nI s1)))), (mc, .inl (Γ.2 3, 14, .inr (.inl (vp_updL c1 (q7 k1) (lN (CD (gS ss) (sd T0 (pmk (p7 (q7 k1)))) (q7 k1)))))))] := hD
              have hP : va_P Γ.1 vwCl [(ma, .inr (7, [.ref ms, .int (nI sn0), .ref mk, .int (nI tw0), .ref mt, .int (nI ty0), .ref mb, .int (bI il0), .ref me, .ref mr, .int (nI my0), .ref mq, .ref mp, .ref mw, .ref mc])), (ms, .inl (Γ.2 0, 162, .inl (aN ss))), (mq, .inl (Γ.2 0, 14, .inl (aN q7))), (mp, .inl (Γ.2 0, 14, .inl p7)), (mw, .inl (Γ.2 0, 14, .inl (upd w2 (q7 k1) (nI s1)))), (mc, .inl (Γ.2 3, 14, .inr (.inl (vp_updL c1 (q7 k1) (lN (CD (gS ss) (sd T0 (pmk (p7 (q7 k1)))) (q7 k1)))))))] H := cp_w hP (by rw [nI_clamp (by omega)])
              have hD : va_D A [(ma, .inr (7, [.ref ms, .int (nI sn0), .ref mk, .int (nI tw0), .ref mt, .int (nI ty0), .ref mb, .int (bI il0), .ref me, .ref mr, .int (nI my0), .ref mq, .ref mp, .ref mw, .ref mc])), (ms, .inl (Γ.2 0, 162, .inl (aN ss))), (mq, .inl (Γ.2 0, 14, .inl (aN q7))), (mp, .inl (Γ.2 0, 14, .inl p7)), (mw, .inl (Γ.2 0, 14, .inl (upd w2 (q7 k1) (nI s1)))), (mc, .inl (Γ.2 3, 14, .inr (.inl (vp_updL c1 (q7 k1) (lN (CD (gS ss) (sd T0 (pmk (p7 (q7 k1)))) (q7 k1)))))))] := va_D_fst (by rfl) hD
              refine lv_iinc (v := (dnn n7 (d1 + 1))) (lv' := [(4, .int (dnn n7 (d1 + 1))), (9, .int br1), (8, .int (nI s1)), (6, .long (lN v1)), (5, .int (nI (q7 k1))), (3, .int (nI n7)), (0, .ref ma), (1, .int (nI r0)), (2, .int (nI T0))]) hx hb dX7_codeFrom_206 hl (k := 4) rfl (by rw [hk1]; exact dnn_s hn7 hd2) (by decide) rfl (fun ls hl => ?_)
              refine lv_goto (tgt := 12) hx hb dX7_codeFrom_209 (by decide) ?_
              exact ih12 (d1 + 1) (upd w2 (q7 k1) (nI s1)) (vp_updL c1 (q7 k1) (lN (CD (gS ss) (sd T0 (pmk (p7 (q7 k1)))) (q7 k1)))) (by first | omega | assumption) (CIv_s hQ7 hkd hC) (WIv_s hfg hT9 hQ7 hkd hWv hwb hsf) (by omega) _ _ hP hD hS ls (lv_sub hl [0, 5, 6, 7, 8] rfl)
            · skip
              refine lv_iconst (v := (-1)) hx hb dX7_codeFrom_40 (by decide) ?_
              refine lv_istore (lv' := [(9, .int (-1)), (8, .int (nI s1)), (6, .long (lN v1)), (5, .int (nI (q7 k1))), (4, .int (nI k1)), (3, .int (nI n7)), (0, .ref ma), (1, .int (nI r0)), (2, .int (nI T0))]) hx hb dX7_codeFrom_41 hl (by decide) rfl (fun ls hl => ?_)
              refine lv_iload hx hb dX7_codeFrom_43 (lv_at hl 4 rfl) ?_
              refine lv_iconst (v := (nI 1)) hx hb dX7_codeFrom_45 (by decide) ?_
              refine lv_iadd hx hb dX7_codeFrom_46 ?_
              refine tp_i (y := (nI (k1 + 1))) (nI_add _ _) ?_
              refine lv_istore (lv' := [(10, .int (nI (k1 + 1))), (9, .int (-1)), (8, .int (nI s1)), (6, .long (lN v1)), (5, .int (nI (q7 k1))), (4, .int (nI k1)), (3, .int (nI n7)), (0, .ref ma), (1, .int (nI r0)), (2, .int (nI T0))]) hx hb dX7_codeFrom_47 hl (by decide) rfl (fun ls hl => ?_)
              have LP49 : ∀ (fu : Nat) (j1 : Nat) (o1 : Option Nat) (hj1 : k1 < j1) (hj2 : j1 ≤ n7) (hB : InvB (ccF (gS ss) T0 (q7 k1)) Y1 q7 k1 j1 o1), (n7 - j1) < fu → ∀ (H : Heap) (locs : List Loc), va_P Γ.1 vwCl [(ma, .inr (7, [.ref ms, .int (nI sn0), .ref mk, .int (nI tw0), .ref mt, .int (nI ty0), .ref mb, .int (bI il0), .ref me, .ref mr, .int (nI my0), .ref mq, .ref mp, .ref mw, .ref mc])), (ms, .inl (Γ.2 0, 162, .inl (aN ss))), (mq, .inl (Γ.2 0, 14, .inl (aN q7))), (mp, .inl (Γ.2 0, 14, .inl p7)), (mw, .inl (Γ.2 0, 14, .inl w2)), (mc, .inl (Γ.2 3, 14, .inr (.inl c1)))] H → va_D A [(ma, .inr (7, [.ref ms, .int (nI sn0), .ref mk, .int (nI tw0), .ref mt, .int (nI ty0), .ref mb, .int (bI il0), .ref me, .ref mr, .int (nI my0), .ref mq, .ref mp, .ref mw, .ref mc])), (ms, .inl (Γ.2 0, 162, .inl (aN ss))), (mq, .inl (Γ.2 0, 14, .inl (aN q7))), (mp, .inl (Γ.2 0, 14, .inl p7)), (mw, .inl (Γ.2 0, 14, .inl w2)), (mc, .inl (Γ.2 3, 14, .inr (.inl c1)))] → va_S A st.heap H locs → ∀ (ls : Array Slot), lv_has ls 13 [(10, .int (nI j1)), (9, .int (oI o1)), (8, .int (nI s1)), (6, .long (lN v1)), (5, .int (nI (q7 k1))), (4, .int (nI k1)), (3, .int (nI n7)), (0, .ref ma), (1, .int (nI r0)), (2, .int (nI T0))] → W p l ev R st mi args below meth cd H locs 0 0 Q (F0 mi 49 ls []) := by
                intro fu
                induction fu with
                | zero => intro j1 o1 hj1 hj2 hB hfu; exact absurd hfu (Nat.not_lt_zero _)
                | succ fu ih49 =>
                  intro j1 o1 hj1 hj2 hB hfu H locs hP hD hS ls hl
                  refine lv_iload hx hb dX7_codeFrom_49 (lv_at hl 0 rfl) ?_
                  refine lv_iload_n hx hb dX7_codeFrom_51 rfl (lv_at hl 6 rfl) ?_
                  refine nb_icmp_ge (tgt := 136) hx hb (by first | omega | assumption) (by first | omega | assumption) dX7_codeFrom_52 (by decide) (fun c_52 => ?_) (fun c_52 => ?_)
                  · skip
                    have he9 : n7 = j1 := by omega
                    subst he9
                    refine lv_iload hx hb dX7_codeFrom_136 (lv_at hl 1 rfl) ?_
                    refine lv_if_lt (tgt := 35) hx hb dX7_codeFrom_138 (by decide) (fun c_138 => ?_) (fun c_138 => ?_)
                    · skip
                      have hob9 : o1 = none := (oI_neg (fun b9 h9 => bit_in hT9 (sd_sub.mp (CHs_in (hsub _ (hB.2 b9 h9)))).1)).mp c_138
                      have hY0 := InvB_none hfg hT9 hQ7 hk7 hO.1 hsub (hob9 ▸ hB)
                      exact ih35 v1 s1 (oI o1) Y1 w2 t1 (hO) (fun _ => hY0) (hwa) (hwb) (hs1) (by first | (rw [if_neg c_37] at hf35; rw [if_pos c_138]; omega) | (rw [if_neg c_37] at hf35; rw [if_neg (nI_pos (by omega))]; omega)) _ _ hP hD hS ls (lv_sub hl [1, 2, 3, 4, 5, 6, 7, 8, 9] rfl)
                    · skip
                      obtain ⟨b9, hob9⟩ : ∃ b9, o1 = some b9 := Option.ne_none_iff_exists'.mp (fun z9 => c_138 ((oI_neg (fun b9 h9 => bit_in hT9 (sd_sub.mp (CHs_in (hsub _ (hB.2 b9 h9)))).1)).mpr z9))
                      have hmx := InvB_some hfg hT9 hQ7 hk7 hsub (hob9 ▸ hB)
                      have hbC := hsub _ hmx.1
                      have hb14 := bit_in hT9 (sd_sub.mp (CHs_in hbC)).1
                      have hcp := CHs_w hfg hT9 hbC
                      have hle9 := cdW_len hcp
                      have hw14 : (wwF (gS ss) T0 (q7 k1)) b9 ≤ 14 := wt_le _ _ _
                      have hXs := OInv_Xs hO hmx.1 hcp
                      rw [hle9] at hXs
                      have hpr := pc_rm hO.1 hmx.1
                      have hsr := sm_rm14 (w := (wwF (gS ss) T0 (q7 k1))) hO.1 hmx.1
                      have hwb9 : ∀ x, (CHs (gS ss) T0 q7 p7 k1).testBit x = false → upd w2 b9 (-1) x = w1 x := fun x9 h9 => by
                        have hne9 : x9 ≠ b9 := fun z9 => by rw [z9, hbC] at h9; cases h9
                        simp only [upd, if_neg hne9]; exact hwb x9 h9
                      have hl : lv_has ls 13 [(10, .int (nI n7)), (9, .int (nI b9)), (8, .int (nI s1)), (6, .long (lN v1)), (5, .int (nI (q7 k1))), (4, .int (nI k1)), (3, .int (nI n7)), (0, .ref ma), (1, .int (nI r0)), (2, .int (nI T0))] := lv_cast hl (by rw [hob9]; rfl)
                      refine lv_lload hx hb dX7_codeFrom_141 (lv_at hl 3 rfl) ?_
                      refine lv_iconst (v := (nI 2)) hx hb dX7_codeFrom_143 (by decide) ?_
                      refine lv_aload_n hx hb dX7_codeFrom_144 rfl (lv_at hl 7 rfl) ?_
                      refine va_get (D := Γ.1) (ci := 7) (v := .ref mw) (C := RX7) (T := TX7) (N := 15) hx hb hts hinX7 hown hK.1 hP 0 rfl rfl 13 (by decide) (hts _ mw_409) (fun _ h9 => h9) rfl dX7_codeFrom_145 ?_
                      refine lv_iload hx hb dX7_codeFrom_148 (lv_at hl 1 rfl) ?_
                      refine va_iald hx hb hK.1 hP 4 0 rfl rfl (vin (by omega) (by omega)) dX7_codeFrom_150 ?_
                      refine tp_i (y := (nI ((wwF (gS ss) T0 (q7 k1)) b9))) (by rw [nI_clamp (by omega), hwa _ hbC, if_pos hmx.1]) ?_
                      refine lv_imul hx hb dX7_codeFrom_151 ?_
                      refine tp_i (y := (nI (2 * ((wwF (gS ss) T0 (q7 k1)) b9)))) (pk_mul _ _) ?_
                      refine lv_lshl (v := (lN (v1 * 2 ^ (2 * (wwF (gS ss) T0 (q7 k1)) b9)))) hx hb dX7_codeFrom_152 (lN_shl (by omega) (by omega)) ?_
                      refine lv_aload_n hx hb dX7_codeFrom_153 rfl (lv_at hl 7 rfl) ?_
                      refine va_get (D := Γ.1) (ci := 7) (v := .ref mc) (C := RX7) (T := TX7) (N := 15) hx hb hts hinX7 hown hK.1 hP 0 rfl rfl 14 (by decide) (hts _ mw_411) (fun _ h9 => h9) rfl dX7_codeFrom_154 ?_
                      refine lv_iload hx hb dX7_codeFrom_157 (lv_at hl 1 rfl) ?_
                      refine va_lald hx hb hK.1 hP 5 3 rfl rfl (vin (by omega) (by omega)) dX7_codeFrom_159 ?_
                      refine tp_l (y := (lN ((ccF (gS ss) T0 (q7 k1)) b9))) (by rw [nI_clamp (by omega), CIv_ch hfg hT9 hQ7 hkd hC hbC]) ?_
                      refine lv_lor hx hb dX7_codeFrom_160 ?_
                      refine tp_l (y := (lN (ctA v1 ((ccF (gS ss) T0 (q7 k1)) b9)))) (by rw [lN_or, ← hle9, ctA_or]) ?_
                      refine lv_lstore (lv' := [(6, .long (lN (ctA v1 ((ccF (gS ss) T0 (q7 k1)) b9)))), (10, .int (nI n7)), (9, .int (nI b9)), (8, .int (nI s1)), (5, .int (nI (q7 k1))), (4, .int (nI k1)), (3, .int (nI n7)), (0, .ref ma), (1, .int (nI r0)), (2, .int (nI T0))]) hx hb dX7_codeFrom_161 hl (by decide) rfl (fun ls hl => ?_)
                      refine lv_iload hx hb dX7_codeFrom_163 (lv_at hl 3 rfl) ?_
                      refine lv_aload_n hx hb dX7_codeFrom_165 rfl (lv_at hl 7 rfl) ?_
                      refine va_get (D := Γ.1) (ci := 7) (v := .ref mw) (C := RX7) (T := TX7) (N := 15) hx hb hts hinX7 hown hK.1 hP 0 rfl rfl 13 (by decide) (hts _ mw_409) (fun _ h9 => h9) rfl dX7_codeFrom_166 ?_
                      refine lv_iload hx hb dX7_codeFrom_169 (lv_at hl 2 rfl) ?_
                      refine va_iald hx hb hK.1 hP 4 0 rfl rfl (vin (by omega) (by omega)) dX7_codeFrom_171 ?_
                      refine tp_i (y := (nI ((wwF (gS ss) T0 (q7 k1)) b9))) (by rw [nI_clamp (by omega), hwa _ hbC, if_pos hmx.1]) ?_
                      refine lv_iadd hx hb dX7_codeFrom_172 ?_
                      refine tp_i (y := (nI (s1 + ((wwF (gS ss) T0 (q7 k1)) b9)))) (nI_add _ _) ?_
                      refine lv_istore (lv' := [(8, .int (nI (s1 + ((wwF (gS ss) T0 (q7 k1)) b9)))), (6, .long (lN (ctA v1 ((ccF (gS ss) T0 (q7 k1)) b9)))), (10, .int (nI n7)), (9, .int (nI b9)), (5, .int (nI (q7 k1))), (4, .int (nI k1)), (3, .int (nI n7)), (0, .ref ma), (1, .int (nI r0)), (2, .int (nI T0))]) hx hb dX7_codeFrom_173 hl (by decide) rfl (fun ls hl => ?_)
                      refine lv_aload_n hx hb dX7_codeFrom_175 rfl (lv_at hl 7 rfl) ?_
                      refine va_get (D := Γ.1) (ci := 7) (v := .ref mw) (C := RX7) (T := TX7) (N := 15) hx hb hts hinX7 hown hK.1 hP 0 rfl rfl 13 (by decide) (hts _ mw_409) (fun _ h9 => h9) rfl dX7_codeFrom_176 ?_
                      refine lv_iload hx hb dX7_codeFrom_179 (lv_at hl 3 rfl) ?_
                      refine lv_iconst (v := (-1)) hx hb dX7_codeFrom_181 (by decide) ?_
                      refine va_iast hx hb hK.1 hP hD hS 4 0 rfl rfl (vin (by omega) (by omega)) dX7_codeFrom_182 (fun H locs hP hD hS => ?_)
                      have hP : va_P Γ.1 vwCl [(ma, .inr (7, [.ref ms, .int (nI sn0), .ref mk, .int (nI tw0), .ref mt, .int (nI ty0), .ref mb, .int (bI il0), .ref me, .ref mr, .int (nI my0), .ref mq, .ref mp, .ref mw, .ref mc])), (ms, .inl (Γ.2 0, 162, .inl (aN ss))), (mq, .inl (Γ.2 0, 14, .inl (aN q7))), (mp, .inl (Γ.2 0, 14, .inl p7)), (mw, .inl (Γ.2 0, 14, .inl (upd w2 ((nI b9)).toNatClampNeg (-1)))), (mc, .inl (Γ.2 3, 14, .inr (.inl c1)))] H := hP
                      have hD : va_D A [(ma, .inr (7, [.ref ms, .int (nI sn0), .ref mk, .int (nI tw0), .ref mt, .int (nI ty0), .ref mb, .int (bI il0), .ref me, .ref mr, .int (nI my0), .ref mq, .ref mp, .ref mw, .ref mc])), (ms, .inl (Γ.2 0, 162, .inl (aN ss))), (mq, .inl (Γ.2 0, 14, .inl (aN q7))), (mp, .inl (Γ.2 0, 14, .inl p7)), (mw, .inl (Γ.2 0, 14, .inl (upd w2 ((nI b9)).toNatClampNeg (-1)))), (mc, .inl (Γ.2 3, 14, .inr (.inl c1)))] := hD
                      have hP : va_P Γ.1 vwCl [(ma, .inr (7, [.ref ms, .int (nI sn0), .ref mk, .int (nI tw0), .ref mt, .int (nI ty0), .ref mb, .int (bI il0), .ref me, .ref mr, .int (nI my0), .ref mq, .ref mp, .ref mw, .ref mc])), (ms, .inl (Γ.2 0, 162, .inl (aN ss))), (mq, .inl (Γ.2 0, 14, .inl (aN q7))), (mp, .inl (Γ.2 0, 14, .inl p7)), (mw, .inl (Γ.2 0, 14, .inl (upd w2 b9 (-1)))), (mc, .inl (Γ.2 3, 14, .inr (.inl c1)))] H := cp_w hP (by rw [nI_clamp (by omega)])
                      have hD : va_D A [(ma, .inr (7, [.ref ms, .int (nI sn0), .ref mk, .int (nI tw0), .ref mt, .int (nI ty0), .ref mb, .int (bI il0), .ref me, .ref mr, .int (nI my0), .ref mq, .ref mp, .ref mw, .ref mc])), (ms, .inl (Γ.2 0, 162, .inl (aN ss))), (mq, .inl (Γ.2 0, 14, .inl (aN q7))), (mp, .inl (Γ.2 0, 14, .inl p7)), (mw, .inl (Γ.2 0, 14, .inl (upd w2 b9 (-1)))), (mc, .inl (Γ.2 3, 14, .inr (.inl c1)))] := va_D_fst (by rfl) hD
                      refine lv_goto (tgt := 35) hx hb dX7_codeFrom_183 (by decide) ?_
                      exact ih35 (ctA v1 ((ccF (gS ss) T0 (q7 k1)) b9)) (s1 + (wwF (gS ss) T0 (q7 k1)) b9) (nI b9) (sd Y1 (2 ^ b9)) (upd w2 b9 (-1)) (t1 + 1) (OInv_s hO hmx hcp) (fun q9 => absurd q9 (nI_pos (by omega))) (WY_rm hwa) (hwb9) (by omega) (by first | (rw [if_neg c_37] at hf35; rw [if_pos c_138]; omega) | (rw [if_neg c_37] at hf35; rw [if_neg (nI_pos (by omega))]; omega)) _ _ hP hD hS ls (lv_sub hl [3, 0, 1, 4, 5, 6, 7, 8, 9] rfl)
                  · skip
                    have hj14 := (hQ7.a1 j1 c_52).1
                    refine lv_aload_n hx hb dX7_codeFrom_55 rfl (lv_at hl 7 rfl) ?_
                    refine va_get (D := Γ.1) (ci := 7) (v := .ref mq) (C := RX7) (T := TX7) (N := 15) hx hb hts hinX7 hown hK.1 hP 0 rfl rfl 11 (by decide) (hts _ mw_407) (fun _ h9 => h9) rfl dX7_codeFrom_56 ?_
                    refine lv_iload hx hb dX7_codeFrom_59 (lv_at hl 0 rfl) ?_
                    refine iald_N hx hb hK.1 hP 2 0 rfl rfl (by omega) (by first | decide | assumption) dX7_codeFrom_61 ?_
                    refine lv_istore (lv' := [(11, .int (nI (q7 j1))), (10, .int (nI j1)), (9, .int (oI o1)), (8, .int (nI s1)), (6, .long (lN v1)), (5, .int (nI (q7 k1))), (4, .int (nI k1)), (3, .int (nI n7)), (0, .ref ma), (1, .int (nI r0)), (2, .int (nI T0))]) hx hb dX7_codeFrom_62 hl (by decide) rfl (fun ls hl => ?_)
                    refine lv_aload_n hx hb dX7_codeFrom_64 rfl (lv_at hl 8 rfl) ?_
                    refine va_get (D := Γ.1) (ci := 7) (v := .ref mp) (C := RX7) (T := TX7) (N := 15) hx hb hts hinX7 hown hK.1 hP 0 rfl rfl 12 (by decide) (hts _ mw_408) (fun _ h9 => h9) rfl dX7_codeFrom_65 ?_
                    refine lv_iload hx hb dX7_codeFrom_68 (lv_at hl 0 rfl) ?_
                    refine va_iald hx hb hK.1 hP 3 0 rfl rfl (vin (by omega) (by omega)) dX7_codeFrom_70 ?_
                    refine tp_i (y := (p7 (q7 j1))) (by rw [nI_clamp (by omega)]) ?_
                    refine lv_iload hx hb dX7_codeFrom_71 (lv_at hl 5 rfl) ?_
                    refine lv_icmp_ne (tgt := 90) hx hb dX7_codeFrom_73 (by decide) (fun c_73 => ?_) (fun c_73 => ?_)
                    · skip
                      have hY9 := WY_no (w2 := w2) hfg hT9 hQ7 hk7 hsub c_73
                      refine lv_iconst (v := (nI 0)) hx hb dX7_codeFrom_90 (by decide) ?_
                      refine lv_istore (lv' := [(12, .int (nI 0)), (11, .int (nI (q7 j1))), (10, .int (nI j1)), (9, .int (oI o1)), (8, .int (nI s1)), (6, .long (lN v1)), (5, .int (nI (q7 k1))), (4, .int (nI k1)), (3, .int (nI n7)), (0, .ref ma), (1, .int (nI r0)), (2, .int (nI T0))]) hx hb dX7_codeFrom_91 hl (by decide) rfl (fun ls hl => ?_)
                      refine lv_iload hx hb dX7_codeFrom_93 (lv_at hl 0 rfl) ?_
                      refine nb_if_eq (tgt := 126) hx hb (by omega) dX7_codeFrom_95 (by decide) (fun c_95 => ?_) (fun c_95 => by exfalso; omega)
                      refine lv_iload hx hb dX7_codeFrom_126 (lv_at hl 3 rfl) ?_
                      refine lv_istore (lv' := [(9, .int (oI o1)), (12, .int (nI 0)), (11, .int (nI (q7 j1))), (10, .int (nI j1)), (8, .int (nI s1)), (6, .long (lN v1)), (5, .int (nI (q7 k1))), (4, .int (nI k1)), (3, .int (nI n7)), (0, .ref ma), (1, .int (nI r0)), (2, .int (nI T0))]) hx hb dX7_codeFrom_128 hl (by decide) rfl (fun ls hl => ?_)
                      refine lv_iinc (v := (nI (j1 + 1))) (lv' := [(10, .int (nI (j1 + 1))), (9, .int (oI o1)), (12, .int (nI 0)), (11, .int (nI (q7 j1))), (8, .int (nI s1)), (6, .long (lN v1)), (5, .int (nI (q7 k1))), (4, .int (nI k1)), (3, .int (nI n7)), (0, .ref ma), (1, .int (nI r0)), (2, .int (nI T0))]) hx hb dX7_codeFrom_130 hl (k := 3) rfl (nI_1 _) (by decide) rfl (fun ls hl => ?_)
                      refine lv_goto (tgt := 49) hx hb dX7_codeFrom_133 (by decide) ?_
                      exact ih49 (j1 + 1) o1 (by first | omega | assumption) (by first | omega | assumption) (by first | exact InvB_no hB hY9 | exact InvB_le (hob9 ▸ hB) (cmpN_le.mp c_118) | exact InvB_up2 hB hob9 hY9 c_118 | exact InvB_up0 (hob9 ▸ hB) hY9) (by omega) _ _ hP hD hS ls (lv_cast (lv_sub hl [0, 1, 4, 5, 6, 7, 8, 9, 10, 11] rfl) (by rfl))
                    · skip
                      refine lv_aload_n hx hb dX7_codeFrom_76 rfl (lv_at hl 8 rfl) ?_
                      refine va_get (D := Γ.1) (ci := 7) (v := .ref mw) (C := RX7) (T := TX7) (N := 15) hx hb hts hinX7 hown hK.1 hP 0 rfl rfl 13 (by decide) (hts _ mw_409) (fun _ h9 => h9) rfl dX7_codeFrom_77 ?_
                      refine lv_iload hx hb dX7_codeFrom_80 (lv_at hl 0 rfl) ?_
                      refine va_iald hx hb hK.1 hP 4 0 rfl rfl (vin (by omega) (by omega)) dX7_codeFrom_82 ?_
                      refine tp_i (y := (w2 (q7 j1))) (by rw [nI_clamp (by omega)]) ?_
                      refine lv_if_le (tgt := 90) hx hb dX7_codeFrom_83 (by decide) (fun c_83 => ?_) (fun c_83 => ?_)
                      · skip
                        have hY9 := WY_le hfg hT9 hQ7 hk7 hj1 c_52 hwa c_73 c_83
                        refine lv_iconst (v := (nI 0)) hx hb dX7_codeFrom_90 (by decide) ?_
                        refine lv_istore (lv' := [(12, .int (nI 0)), (11, .int (nI (q7 j1))), (10, .int (nI j1)), (9, .int (oI o1)), (8, .int (nI s1)), (6, .long (lN v1)), (5, .int (nI (q7 k1))), (4, .int (nI k1)), (3, .int (nI n7)), (0, .ref ma), (1, .int (nI r0)), (2, .int (nI T0))]) hx hb dX7_codeFrom_91 hl (by decide) rfl (fun ls hl => ?_)
                        refine lv_iload hx hb dX7_codeFrom_93 (lv_at hl 0 rfl) ?_
                        refine nb_if_eq (tgt := 126) hx hb (by omega) dX7_codeFrom_95 (by decide) (fun c_95 => ?_) (fun c_95 => by exfalso; omega)
                        refine lv_iload hx hb dX7_codeFrom_126 (lv_at hl 3 rfl) ?_
                        refine lv_istore (lv' := [(9, .int (oI o1)), (12, .int (nI 0)), (11, .int (nI (q7 j1))), (10, .int (nI j1)), (8, .int (nI s1)), (6, .long (lN v1)), (5, .int (nI (q7 k1))), (4, .int (nI k1)), (3, .int (nI n7)), (0, .ref ma), (1, .int (nI r0)), (2, .int (nI T0))]) hx hb dX7_codeFrom_128 hl (by decide) rfl (fun ls hl => ?_)
                        refine lv_iinc (v := (nI (j1 + 1))) (lv' := [(10, .int (nI (j1 + 1))), (9, .int (oI o1)), (12, .int (nI 0)), (11, .int (nI (q7 j1))), (8, .int (nI s1)), (6, .long (lN v1)), (5, .int (nI (q7 k1))), (4, .int (nI k1)), (3, .int (nI n7)), (0, .ref ma), (1, .int (nI r0)), (2, .int (nI T0))]) hx hb dX7_codeFrom_130 hl (k := 3) rfl (nI_1 _) (by decide) rfl (fun ls hl => ?_)
                        refine lv_goto (tgt := 49) hx hb dX7_codeFrom_133 (by decide) ?_
                        exact ih49 (j1 + 1) o1 (by first | omega | assumption) (by first | omega | assumption) (by first | exact InvB_no hB hY9 | exact InvB_le (hob9 ▸ hB) (cmpN_le.mp c_118) | exact InvB_up2 hB hob9 hY9 c_118 | exact InvB_up0 (hob9 ▸ hB) hY9) (by omega) _ _ hP hD hS ls (lv_cast (lv_sub hl [0, 1, 4, 5, 6, 7, 8, 9, 10, 11] rfl) (by rfl))
                      · skip
                        have hY9 := WY_gt hfg hT9 hQ7 hk7 hj1 c_52 hwa c_73 c_83
                        refine lv_iconst (v := (nI 1)) hx hb dX7_codeFrom_86 (by decide) ?_
                        refine lv_goto (tgt := 91) hx hb dX7_codeFrom_87 (by decide) ?_
                        refine lv_istore (lv' := [(12, .int (nI 1)), (11, .int (nI (q7 j1))), (10, .int (nI j1)), (9, .int (oI o1)), (8, .int (nI s1)), (6, .long (lN v1)), (5, .int (nI (q7 k1))), (4, .int (nI k1)), (3, .int (nI n7)), (0, .ref ma), (1, .int (nI r0)), (2, .int (nI T0))]) hx hb dX7_codeFrom_91 hl (by decide) rfl (fun ls hl => ?_)
                        refine lv_iload hx hb dX7_codeFrom_93 (lv_at hl 0 rfl) ?_
                        refine nb_if_eq (tgt := 126) hx hb (by omega) dX7_codeFrom_95 (by decide) (fun c_95 => by exfalso; omega) (fun c_95 => ?_)
                        refine lv_iload hx hb dX7_codeFrom_98 (lv_at hl 3 rfl) ?_
                        refine lv_if_lt (tgt := 121) hx hb dX7_codeFrom_100 (by decide) (fun c_100 => ?_) (fun c_100 => ?_)
                        · skip
                          have hob9 : o1 = none := (oI_neg (fun b9 h9 => bit_in hT9 (sd_sub.mp (CHs_in (hsub _ (hB.2 b9 h9)))).1)).mp c_100
                          refine lv_iload hx hb dX7_codeFrom_121 (lv_at hl 1 rfl) ?_
                          refine lv_goto (tgt := 128) hx hb dX7_codeFrom_123 (by decide) ?_
                          refine lv_istore (lv' := [(9, .int (nI (q7 j1))), (12, .int (nI 1)), (11, .int (nI (q7 j1))), (10, .int (nI j1)), (8, .int (nI s1)), (6, .long (lN v1)), (5, .int (nI (q7 k1))), (4, .int (nI k1)), (3, .int (nI n7)), (0, .ref ma), (1, .int (nI r0)), (2, .int (nI T0))]) hx hb dX7_codeFrom_128 hl (by decide) rfl (fun ls hl => ?_)
                          refine lv_iinc (v := (nI (j1 + 1))) (lv' := [(10, .int (nI (j1 + 1))), (9, .int (nI (q7 j1))), (12, .int (nI 1)), (11, .int (nI (q7 j1))), (8, .int (nI s1)), (6, .long (lN v1)), (5, .int (nI (q7 k1))), (4, .int (nI k1)), (3, .int (nI n7)), (0, .ref ma), (1, .int (nI r0)), (2, .int (nI T0))]) hx hb dX7_codeFrom_130 hl (k := 3) rfl (nI_1 _) (by decide) rfl (fun ls hl => ?_)
                          refine lv_goto (tgt := 49) hx hb dX7_codeFrom_133 (by decide) ?_
                          exact ih49 (j1 + 1) (some (q7 j1)) (by first | omega | assumption) (by first | omega | assumption) (by first | exact InvB_no hB hY9 | exact InvB_le (hob9 ▸ hB) (cmpN_le.mp c_118) | exact InvB_up2 hB hob9 hY9 c_118 | exact InvB_up0 (hob9 ▸ hB) hY9) (by omega) _ _ hP hD hS ls (lv_cast (lv_sub hl [0, 1, 4, 5, 6, 7, 8, 9, 10, 11] rfl) (by rfl))
                        · skip
                          obtain ⟨b9, hob9⟩ : ∃ b9, o1 = some b9 := Option.ne_none_iff_exists'.mp (fun z9 => c_100 ((oI_neg (fun b9 h9 => bit_in hT9 (sd_sub.mp (CHs_in (hsub _ (hB.2 b9 h9)))).1)).mpr z9))
                          have hbY := hB.2 b9 hob9
                          have hbC := hsub _ hbY
                          have hb14 := bit_in hT9 (sd_sub.mp (CHs_in hbC)).1
                          have hjC := hsub _ hY9
                          have hl1 := (cdW_l (CHs_w hfg hT9 hbC) (wt_le _ _ _)).2
                          have hl2 := (cdW_l (CHs_w hfg hT9 hjC) (wt_le _ _ _)).2
                          have hl : lv_has ls 13 [(12, .int (nI 1)), (11, .int (nI (q7 j1))), (10, .int (nI j1)), (9, .int (nI b9)), (8, .int (nI s1)), (6, .long (lN v1)), (5, .int (nI (q7 k1))), (4, .int (nI k1)), (3, .int (nI n7)), (0, .ref ma), (1, .int (nI r0)), (2, .int (nI T0))] := lv_cast hl (by rw [hob9]; rfl)
                          refine lv_aload_n hx hb dX7_codeFrom_103 rfl (lv_at hl 9 rfl) ?_
                          refine va_get (D := Γ.1) (ci := 7) (v := .ref mc) (C := RX7) (T := TX7) (N := 15) hx hb hts hinX7 hown hK.1 hP 0 rfl rfl 14 (by decide) (hts _ mw_411) (fun _ h9 => h9) rfl dX7_codeFrom_104 ?_
                          refine lv_iload hx hb dX7_codeFrom_107 (lv_at hl 1 rfl) ?_
                          refine va_lald hx hb hK.1 hP 5 3 rfl rfl (vin (by omega) (by omega)) dX7_codeFrom_109 ?_
                          refine tp_l (y := (lN ((ccF (gS ss) T0 (q7 k1)) (q7 j1)))) (by rw [nI_clamp (by omega), CIv_ch hfg hT9 hQ7 hkd hC hjC]) ?_
                          refine lv_aload_n hx hb dX7_codeFrom_110 rfl (lv_at hl 9 rfl) ?_
                          refine va_get (D := Γ.1) (ci := 7) (v := .ref mc) (C := RX7) (T := TX7) (N := 15) hx hb hts hinX7 hown hK.1 hP 0 rfl rfl 14 (by decide) (hts _ mw_411) (fun _ h9 => h9) rfl dX7_codeFrom_111 ?_
                          refine lv_iload hx hb dX7_codeFrom_114 (lv_at hl 3 rfl) ?_
                          refine va_lald hx hb hK.1 hP 5 3 rfl rfl (vin (by omega) (by omega)) dX7_codeFrom_116 ?_
                          refine tp_l (y := (lN ((ccF (gS ss) T0 (q7 k1)) b9))) (by rw [nI_clamp (by omega), CIv_ch hfg hT9 hQ7 hkd hC hbC]) ?_
                          refine lv_lcmp hx hb dX7_codeFrom_117 ?_
                          refine tp_i (y := cmpN ((ccF (gS ss) T0 (q7 k1)) (q7 j1)) ((ccF (gS ss) T0 (q7 k1)) b9)) (cmp_N (by omega) (by omega)) ?_
                          refine lv_if_le (tgt := 126) hx hb dX7_codeFrom_118 (by decide) (fun c_118 => ?_) (fun c_118 => ?_)
                          · skip
                            refine lv_iload hx hb dX7_codeFrom_126 (lv_at hl 3 rfl) ?_
                            refine lv_istore (lv' := [(9, .int (nI b9)), (12, .int (nI 1)), (11, .int (nI (q7 j1))), (10, .int (nI j1)), (8, .int (nI s1)), (6, .long (lN v1)), (5, .int (nI (q7 k1))), (4, .int (nI k1)), (3, .int (nI n7)), (0, .ref ma), (1, .int (nI r0)), (2, .int (nI T0))]) hx hb dX7_codeFrom_128 hl (by decide) rfl (fun ls hl => ?_)
                            refine lv_iinc (v := (nI (j1 + 1))) (lv' := [(10, .int (nI (j1 + 1))), (9, .int (nI b9)), (12, .int (nI 1)), (11, .int (nI (q7 j1))), (8, .int (nI s1)), (6, .long (lN v1)), (5, .int (nI (q7 k1))), (4, .int (nI k1)), (3, .int (nI n7)), (0, .ref ma), (1, .int (nI r0)), (2, .int (nI T0))]) hx hb dX7_codeFrom_130 hl (k := 3) rfl (nI_1 _) (by decide) rfl (fun ls hl => ?_)
                            refine lv_goto (tgt := 49) hx hb dX7_codeFrom_133 (by decide) ?_
                            exact ih49 (j1 + 1) (some b9) (by first | omega | assumption) (by first | omega | assumption) (by first | exact InvB_no hB hY9 | exact InvB_le (hob9 ▸ hB) (cmpN_le.mp c_118) | exact InvB_up2 hB hob9 hY9 c_118 | exact InvB_up0 (hob9 ▸ hB) hY9) (by omega) _ _ hP hD hS ls (lv_cast (lv_sub hl [0, 1, 4, 5, 6, 7, 8, 9, 10, 11] rfl) (by rfl))
                          · skip
                            refine lv_iload hx hb dX7_codeFrom_121 (lv_at hl 1 rfl) ?_
                            refine lv_goto (tgt := 128) hx hb dX7_codeFrom_123 (by decide) ?_
                            refine lv_istore (lv' := [(9, .int (nI (q7 j1))), (12, .int (nI 1)), (11, .int (nI (q7 j1))), (10, .int (nI j1)), (8, .int (nI s1)), (6, .long (lN v1)), (5, .int (nI (q7 k1))), (4, .int (nI k1)), (3, .int (nI n7)), (0, .ref ma), (1, .int (nI r0)), (2, .int (nI T0))]) hx hb dX7_codeFrom_128 hl (by decide) rfl (fun ls hl => ?_)
                            refine lv_iinc (v := (nI (j1 + 1))) (lv' := [(10, .int (nI (j1 + 1))), (9, .int (nI (q7 j1))), (12, .int (nI 1)), (11, .int (nI (q7 j1))), (8, .int (nI s1)), (6, .long (lN v1)), (5, .int (nI (q7 k1))), (4, .int (nI k1)), (3, .int (nI n7)), (0, .ref ma), (1, .int (nI r0)), (2, .int (nI T0))]) hx hb dX7_codeFrom_130 hl (k := 3) rfl (nI_1 _) (by decide) rfl (fun ls hl => ?_)
                            refine lv_goto (tgt := 49) hx hb dX7_codeFrom_133 (by decide) ?_
                            exact ih49 (j1 + 1) (some (q7 j1)) (by first | omega | assumption) (by first | omega | assumption) (by first | exact InvB_no hB hY9 | exact InvB_le (hob9 ▸ hB) (cmpN_le.mp c_118) | exact InvB_up2 hB hob9 hY9 c_118 | exact InvB_up0 (hob9 ▸ hB) hY9) (by omega) _ _ hP hD hS ls (lv_cast (lv_sub hl [0, 1, 4, 5, 6, 7, 8, 9, 10, 11] rfl) (by rfl))
              exact LP49 ((n7 - (k1 + 1)) + 1) (k1 + 1) none (by first | omega | assumption) (by first | omega | assumption) (InvB_0 _ _ _ _) (Nat.lt_succ_self _) _ _ hP hD hS ls (lv_cast (lv_sub hl [0, 1, 2, 3, 4, 5, 6, 7, 8, 9] rfl) (by rfl))
        exact LP35 ((pc (CHs (gS ss) T0 q7 p7 k1) + if (nI 0) < 0 then 0 else 1) + 1) 1 1 (nI 0) (CHs (gS ss) T0 q7 p7 k1) w1 0 (OInv_0 hCH (by rw [CHs_sum hfg hT9 hQ7 hk7]; exact wt_le _ _ _)) (fun q9 => absurd q9 (by decide)) (fun b9 h9 => by rw [if_pos h9]; exact WIv_ch hfg hT9 hQ7 hkd hWv h9) (fun _ _ => rfl) (rfl) (Nat.lt_succ_self _) _ _ hP hD hS ls (lv_sub hl [0, 1, 2, 3, 4, 5, 6, 7, 8] rfl)
  exact LP12 ((n7 - 0) + 1) 0 wj cj (by first | omega | assumption) (CIv_0 _) (WIv_0 _) (Nat.lt_succ_self _) _ _ hP hD hS ls (lv_sub hl [0, 1, 2, 3, 4] rfl)
