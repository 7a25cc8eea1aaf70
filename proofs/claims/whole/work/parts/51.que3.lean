set_option maxHeartbeats 8000000 in
set_option maxRecDepth 100000 in
theorem c_X7_walks (l : Launch) (Γ : kG) (ma : Nat) (ms : Nat) (sn0 : Nat) (mk : Nat) (tw0 : Nat) (mt : Nat) (ty0 : Nat) (mb : Nat) (il0 : Bool) (me : Nat) (mr : Nat) (my0 : Nat) (mq : Nat) (mp : Nat) (mw : Nat) (mc : Nat) (ss : Nat → Nat) (qu : Nat → Nat) (pj : Nat → Int32) (r0 : Nat) (T0 : Nat) (h0 : ss 0 ≤ 14) (hT0 : T0 < 2 ^ ss 0) (hr0 : T0.testBit r0 = true) (hfg : FG (gS ss)) : WRi l yX7_walks (wsq yX7_walks cX7_walks 7 (some .int)) (rmL 1) Γ [.ref ma, .int (nI r0), .int (nI T0)] [(ma, .inr (7, [.ref ms, .int (nI sn0), .ref mk, .int (nI tw0), .ref mt, .int (nI ty0), .ref mb, .int (bI il0), .ref me, .ref mr, .int (nI my0), .ref mq, .ref mp, .ref mw, .ref mc])), (ms, .inl (Γ.2 0, 162, .inl (aN ss))), (mq, .inl (Γ.2 0, 14, .inl (aN qu))), (mp, .inl (Γ.2 0, 14, .inl pj))] (fun u : Nat × (Nat → Nat) × (Nat → Int32) => [(ma, .inr (7, [.ref ms, .int (nI sn0), .ref mk, .int (nI tw0), .ref mt, .int (nI ty0), .ref mb, .int (bI il0), .ref me, .ref mr, .int (nI my0), .ref mq, .ref mp, .ref mw, .ref mc])), (ms, .inl (Γ.2 0, 162, .inl (aN ss))), (mq, .inl (Γ.2 0, 14, .inl (aN u.2.1))), (mp, .inl (Γ.2 0, 14, .inl u.2.2))]) (fun (r : Int32) (u : Nat × (Nat → Nat) × (Nat → Int32)) => r = (nI u.1) ∧ QI (gS ss) T0 r0 u.2.1 u.2.2 u.1) := by
  refine wr_ofi (cc := cX7_walks) (maxL := 7) (by decide +kernel) (Nat.le_of_ble_eq_true rfl) rfl ?_
  intro p ev R st mi args below meth cd Q A ls C0 hR hret hP hD hS hl
  obtain ⟨hx, hb, hr, hml, hown, hts, hlk, hK, hnm⟩ := C0
  have hown : st.vm.findClass RX7 = some mi.cls := hown
  have hT9 := w14 hT0 h0
  have hr9 := bit_in hT9 hr0
  refine lv_aload_n hx hb dX7_walks_0 rfl (lv_at hl 0 rfl) ?_
  refine va_get (D := Γ.1) (ci := 7) (v := .ref mq) (C := RX7) (T := TX7) (N := 15) hx hb hts hinX7 hown hK.1 hP 0 rfl rfl 11 (by decide) (hts _ mw_407) (fun _ h9 => h9) rfl dX7_walks_1 ?_
  refine lv_iconst (v := (nI 0)) hx hb dX7_walks_4 (by decide) ?_
  refine lv_iload_n hx hb dX7_walks_5 rfl (lv_at hl 1 rfl) ?_
  refine iast_N hx hb hK.1 hP hD hS 2 0 rfl rfl (by omega) (by first | decide | assumption) dX7_walks_6 (fun H locs hP hD hS => ?_)
  have hP : va_P Γ.1 vwCl [(ma, .inr (7, [.ref ms, .int (nI sn0), .ref mk, .int (nI tw0), .ref mt, .int (nI ty0), .ref mb, .int (bI il0), .ref me, .ref mr, .int (nI my0), .ref mq, .ref mp, .ref mw, .ref mc])), (ms, .inl (Γ.2 0, 162, .inl (aN ss))), (mq, .inl (Γ.2 0, 14, .inl (aN (upN qu 0 r0)))), (mp, .inl (Γ.2 0, 14, .inl pj))] H := hP
  have hD : va_D A [(ma, .inr (7, [.ref ms, .int (nI sn0), .ref mk, .int (nI tw0), .ref mt, .int (nI ty0), .ref mb, .int (bI il0), .ref me, .ref mr, .int (nI my0), .ref mq, .ref mp, .ref mw, .ref mc])), (ms, .inl (Γ.2 0, 162, .inl (aN ss))), (mq, .inl (Γ.2 0, 14, .inl (aN (upN qu 0 r0)))), (mp, .inl (Γ.2 0, 14, .inl pj))] := hD
  refine lv_aload_n hx hb dX7_walks_7 rfl (lv_at hl 0 rfl) ?_
  refine va_get (D := Γ.1) (ci := 7) (v := .ref mp) (C := RX7) (T := TX7) (N := 15) hx hb hts hinX7 hown hK.1 hP 0 rfl rfl 12 (by decide) (hts _ mw_408) (fun _ h9 => h9) rfl dX7_walks_8 ?_
  refine lv_iload_n hx hb dX7_walks_11 rfl (lv_at hl 1 rfl) ?_
  refine lv_iconst (v := (-1)) hx hb dX7_walks_12 (by decide) ?_
  refine va_iast hx hb hK.1 hP hD hS 3 0 rfl rfl (vin (by omega) (by omega)) dX7_walks_13 (fun H locs hP hD hS => ?_)
  have hP : va_P Γ.1 vwCl [(ma, .inr (7, [.ref ms, .int (nI sn0), .ref mk, .int (nI tw0), .ref mt, .int (nI ty0), .ref mb, .int (bI il0), .ref me, .ref mr, .int (nI my0), .ref mq, .ref mp, .ref mw, .ref mc])), (ms, .inl (Γ.2 0, 162, .inl (aN ss))), (mq, .inl (Γ.2 0, 14, .inl (aN (upN qu 0 r0)))), (mp, .inl (Γ.2 0, 14, .inl (upd pj ((nI r0)).toNatClampNeg (-1))))] H := hP
  have hD : va_D A [(ma, .inr (7, [.ref ms, .int (nI sn0), .ref mk, .int (nI tw0), .ref mt, .int (nI ty0), .ref mb, .int (bI il0), .ref me, .ref mr, .int (nI my0), .ref mq, .ref mp, .ref mw, .ref mc])), (ms, .inl (Γ.2 0, 162, .inl (aN ss))), (mq, .inl (Γ.2 0, 14, .inl (aN (upN qu 0 r0)))), (mp, .inl (Γ.2 0, 14, .inl (upd pj ((nI r0)).toNatClampNeg (-1))))] := hD
  have hP : va_P Γ.1 vwCl [(ma, .inr (7, [.ref ms, .int (nI sn0), .ref mk, .int (nI tw0), .ref mt, .int (nI ty0), .ref mb, .int (bI il0), .ref me, .ref mr, .int (nI my0), .ref mq, .ref mp, .ref mw, .ref mc])), (ms, .inl (Γ.2 0, 162, .inl (aN ss))), (mq, .inl (Γ.2 0, 14, .inl (aN (upN qu 0 r0)))), (mp, .inl (Γ.2 0, 14, .inl (upd pj r0 (-1))))] H := cp_w hP (by rw [nI_clamp (by omega)])
  have hD : va_D A [(ma, .inr (7, [.ref ms, .int (nI sn0), .ref mk, .int (nI tw0), .ref mt, .int (nI ty0), .ref mb, .int (bI il0), .ref me, .ref mr, .int (nI my0), .ref mq, .ref mp, .ref mw, .ref mc])), (ms, .inl (Γ.2 0, 162, .inl (aN ss))), (mq, .inl (Γ.2 0, 14, .inl (aN (upN qu 0 r0)))), (mp, .inl (Γ.2 0, 14, .inl (upd pj r0 (-1))))] := va_D_fst (by rfl) hD
  refine lv_iconst (v := (nI 1)) hx hb dX7_walks_14 (by decide) ?_
  refine lv_istore_n (lv' := [(3, .int (nI 1)), (0, .ref ma), (1, .int (nI r0)), (2, .int (nI T0))]) hx hb dX7_walks_15 rfl hl (by decide) rfl (fun ls hl => ?_)
  refine lv_iconst (v := (nI 0)) hx hb dX7_walks_16 (by decide) ?_
  refine lv_istore (lv' := [(4, .int (nI 0)), (3, .int (nI 1)), (0, .ref ma), (1, .int (nI r0)), (2, .int (nI T0))]) hx hb dX7_walks_17 hl (by decide) rfl (fun ls hl => ?_)
  have LP19 : ∀ (fu : Nat) (n1 : Nat) (k1 : Nat) (q1 : Nat → Nat) (p1 : Nat → Int32) (hW1 : WI (gS ss) T0 r0 q1 p1 n1 k1 0) (hk1 : k1 ≤ n1), (14 - k1) < fu → ∀ (H : Heap) (locs : List Loc), va_P Γ.1 vwCl [(ma, .inr (7, [.ref ms, .int (nI sn0), .ref mk, .int (nI tw0), .ref mt, .int (nI ty0), .ref mb, .int (bI il0), .ref me, .ref mr, .int (nI my0), .ref mq, .ref mp, .ref mw, .ref mc])), (ms, .inl (Γ.2 0, 162, .inl (aN ss))), (mq, .inl (Γ.2 0, 14, .inl (aN q1))), (mp, .inl (Γ.2 0, 14, .inl p1))] H → va_D A [(ma, .inr (7, [.ref ms, .int (nI sn0), .ref mk, .int (nI tw0), .ref mt, .int (nI ty0), .ref mb, .int (bI il0), .ref me, .ref mr, .int (nI my0), .ref mq, .ref mp, .ref mw, .ref mc])), (ms, .inl (Γ.2 0, 162, .inl (aN ss))), (mq, .inl (Γ.2 0, 14, .inl (aN q1))), (mp, .inl (Γ.2 0, 14, .inl p1))] → va_S A st.heap H locs → ∀ (ls : Array Slot), lv_has ls 7 [(4, .int (nI k1)), (3, .int (nI n1)), (0, .ref ma), (1, .int (nI r0)), (2, .int (nI T0))] → W p l ev R st mi args below meth cd H locs 0 0 Q (F0 mi 19 ls []) := by
    intro fu
    induction fu with
    | zero => intro n1 k1 q1 p1 hW1 hk1 hfu; exact absurd hfu (Nat.not_lt_zero _)
    | succ fu ih19 =>
      intro n1 k1 q1 p1 hW1 hk1 hfu H locs hP hD hS ls hl
      have hn9 := hW1.n14
      refine lv_iload hx hb dX7_walks_19 (lv_at hl 0 rfl) ?_
      refine lv_iload_n hx hb dX7_walks_21 rfl (lv_at hl 1 rfl) ?_
      refine nb_icmp_ge (tgt := 111) hx hb (by first | omega | assumption) (by first | omega | assumption) dX7_walks_22 (by decide) (fun c_22 => ?_) (fun c_22 => ?_)
      · skip
        have he9 : n1 = k1 := by omega
        subst he9
        refine lv_iload_n hx hb dX7_walks_111 rfl (lv_at hl 1 rfl) ?_
        exact hret (n1, q1, p1) hP hS (⟨rfl, hW1⟩) dX7_walks_112
      · skip
        refine lv_aload_n hx hb dX7_walks_25 rfl (lv_at hl 2 rfl) ?_
        refine va_get (D := Γ.1) (ci := 7) (v := .ref mq) (C := RX7) (T := TX7) (N := 15) hx hb hts hinX7 hown hK.1 hP 0 rfl rfl 11 (by decide) (hts _ mw_407) (fun _ h9 => h9) rfl dX7_walks_26 ?_
        refine lv_iload hx hb dX7_walks_29 (lv_at hl 0 rfl) ?_
        refine iald_N hx hb hK.1 hP 2 0 rfl rfl (by omega) (by first | decide | assumption) dX7_walks_31 ?_
        refine lv_istore (lv' := [(5, .int (nI (q1 k1))), (4, .int (nI k1)), (3, .int (nI n1)), (0, .ref ma), (1, .int (nI r0)), (2, .int (nI T0))]) hx hb dX7_walks_32 hl (by decide) rfl (fun ls hl => ?_)
        refine lv_iconst (v := (nI 0)) hx hb dX7_walks_34 (by decide) ?_
        refine lv_istore (lv' := [(6, .int (nI 0)), (5, .int (nI (q1 k1))), (4, .int (nI k1)), (3, .int (nI n1)), (0, .ref ma), (1, .int (nI r0)), (2, .int (nI T0))]) hx hb dX7_walks_35 hl (by decide) rfl (fun ls hl => ?_)
        have LP37 : ∀ (fu : Nat) (m1 : Nat) (n2 : Nat) (q2 : Nat → Nat) (p2 : Nat → Int32) (u1 : Nat) (hW2 : WI (gS ss) T0 r0 q2 p2 n2 k1 m1) (hm1 : m1 ≤ ss 0) (hk2 : k1 < n2) (hu : q2 k1 = u1), (ss 0 - m1) < fu → ∀ (H : Heap) (locs : List Loc), va_P Γ.1 vwCl [(ma, .inr (7, [.ref ms, .int (nI sn0), .ref mk, .int (nI tw0), .ref mt, .int (nI ty0), .ref mb, .int (bI il0), .ref me, .ref mr, .int (nI my0), .ref mq, .ref mp, .ref mw, .ref mc])), (ms, .inl (Γ.2 0, 162, .inl (aN ss))), (mq, .inl (Γ.2 0, 14, .inl (aN q2))), (mp, .inl (Γ.2 0, 14, .inl p2))] H → va_D A [(ma, .inr (7, [.ref ms, .int (nI sn0), .ref mk, .int (nI tw0), .ref mt, .int (nI ty0), .ref mb, .int (bI il0), .ref me, .ref mr, .int (nI my0), .ref mq, .ref mp, .ref mw, .ref mc])), (ms, .inl (Γ.2 0, 162, .inl (aN ss))), (mq, .inl (Γ.2 0, 14, .inl (aN q2))), (mp, .inl (Γ.2 0, 14, .inl p2))] → va_S A st.heap H locs → ∀ (ls : Array Slot), lv_has ls 7 [(6, .int (nI m1)), (5, .int (nI u1)), (4, .int (nI k1)), (3, .int (nI n2)), (0, .ref ma), (1, .int (nI r0)), (2, .int (nI T0))] → W p l ev R st mi args below meth cd H locs 0 0 Q (F0 mi 37 ls []) := by
          intro fu
          induction fu with
          | zero => intro m1 n2 q2 p2 u1 hW2 hm1 hk2 hu hfu; exact absurd hfu (Nat.not_lt_zero _)
          | succ fu ih37 =>
            intro m1 n2 q2 p2 u1 hW2 hm1 hk2 hu hfu H locs hP hD hS ls hl
            have hn8 := hW2.n14
            have hu9 : u1 < 14 := by rw [← hu]; exact (hW2.a1 k1 hk2).1
            refine lv_iload hx hb dX7_walks_37 (lv_at hl 0 rfl) ?_
            refine lv_aload_n hx hb dX7_walks_39 rfl (lv_at hl 4 rfl) ?_
            refine va_get (D := Γ.1) (ci := 7) (v := .ref ms) (C := RX7) (T := TX7) (N := 15) hx hb hts hinX7 hown hK.1 hP 0 rfl rfl 0 (by decide) (hts _ mw_400) (fun _ h9 => h9) rfl dX7_walks_40 ?_
            refine lv_iconst (v := (nI 0)) hx hb dX7_walks_43 (by decide) ?_
            refine iald_N hx hb hK.1 hP 1 0 rfl rfl (by omega) (by first | decide | assumption) dX7_walks_44 ?_
            refine nb_icmp_ge (tgt := 105) hx hb (by first | omega | assumption) (by first | omega | assumption) dX7_walks_45 (by decide) (fun c_45 => ?_) (fun c_45 => ?_)
            · skip
              have he9 : ss 0 = m1 := by omega
              subst he9
              refine lv_iinc (v := (nI (k1 + 1))) (lv' := [(4, .int (nI (k1 + 1))), (6, .int (nI (ss 0))), (5, .int (nI u1)), (3, .int (nI n2)), (0, .ref ma), (1, .int (nI r0)), (2, .int (nI T0))]) hx hb dX7_walks_105 hl (k := 2) rfl (nI_1 _) (by decide) rfl (fun ls hl => ?_)
              refine lv_goto (tgt := 19) hx hb dX7_walks_108 (by decide) ?_
              exact ih19 n2 (k1 + 1) q2 p2 (WI_next hW2 (fun x9 h9 => lt_n hT0 h9)) (by first | omega | assumption) (by omega) _ _ hP hD hS ls (lv_sub hl [0, 3, 4, 5, 6] rfl)
            · skip
              refine lv_aload_n hx hb dX7_walks_48 rfl (lv_at hl 4 rfl) ?_
              refine va_get (D := Γ.1) (ci := 7) (v := .ref ms) (C := RX7) (T := TX7) (N := 15) hx hb hts hinX7 hown hK.1 hP 0 rfl rfl 0 (by decide) (hts _ mw_400) (fun _ h9 => h9) rfl dX7_walks_49 ?_
              refine lv_iconst (v := (nI 4)) hx hb dX7_walks_52 (by decide) ?_
              refine lv_iload hx hb dX7_walks_53 (lv_at hl 1 rfl) ?_
              refine lv_iadd hx hb dX7_walks_55 ?_
              refine tp_i (y := (nI (4 + u1))) (nI_add _ _) ?_
              refine iald_N hx hb hK.1 hP 1 0 rfl rfl (by omega) (by first | decide | assumption) dX7_walks_56 ?_
              refine lv_iload_n hx hb dX7_walks_57 rfl (lv_at hl 6 rfl) ?_
              refine lv_iand hx hb dX7_walks_58 ?_
              refine tp_i (y := (nI ((ss (4 + u1)) &&& T0))) (ni_and _ _) ?_
              refine lv_iconst (v := (nI 1)) hx hb dX7_walks_59 (by decide) ?_
              refine lv_iload hx hb dX7_walks_60 (lv_at hl 0 rfl) ?_
              refine lv_ishl hx hb dX7_walks_62 ?_
              refine tp_i (y := (nI (2 ^ m1))) (ni_shl1 (by omega)) ?_
              refine lv_iand hx hb dX7_walks_63 ?_
              refine tp_i (y := (nI (((ss (4 + u1)) &&& T0) &&& (2 ^ m1)))) (ni_and _ _) ?_
              refine nb_if_eq (tgt := 99) hx hb (Nat.lt_trans (and_lt2 _ (pow_14 (by omega))) (by decide)) dX7_walks_64 (by decide) (fun c_64 => ?_) (fun c_64 => ?_)
              · skip
                have hz9 := and_pz.mp c_64
                rw [Nat.testBit_and] at hz9
                have hW8 := WI_no hW2 (fun h9 h8 => by rw [hu, gS] at h9; rw [h9, h8] at hz9; cases hz9)
                refine lv_iinc (v := (nI (m1 + 1))) (lv' := [(6, .int (nI (m1 + 1))), (5, .int (nI u1)), (4, .int (nI k1)), (3, .int (nI n2)), (0, .ref ma), (1, .int (nI r0)), (2, .int (nI T0))]) hx hb dX7_walks_99 hl (k := 0) rfl (nI_1 _) (by decide) rfl (fun ls hl => ?_)
                refine lv_goto (tgt := 37) hx hb dX7_walks_102 (by decide) ?_
                exact ih37 (m1 + 1) n2 q2 p2 u1 (hW8) (by first | omega | assumption) (by first | omega | assumption) (hu) (by omega) _ _ hP hD hS ls (lv_sub hl [0, 1, 2, 3, 4, 5, 6] rfl)
              · skip
                have hz9 := nf_t (fun q9 => c_64 (and_pz.mpr q9))
                rw [Nat.testBit_and, Bool.and_eq_true] at hz9
                refine lv_iload hx hb dX7_walks_67 (lv_at hl 0 rfl) ?_
                refine lv_aload_n hx hb dX7_walks_69 rfl (lv_at hl 4 rfl) ?_
                refine va_get (D := Γ.1) (ci := 7) (v := .ref mp) (C := RX7) (T := TX7) (N := 15) hx hb hts hinX7 hown hK.1 hP 0 rfl rfl 12 (by decide) (hts _ mw_408) (fun _ h9 => h9) rfl dX7_walks_70 ?_
                refine lv_iload hx hb dX7_walks_73 (lv_at hl 1 rfl) ?_
                refine va_iald hx hb hK.1 hP 3 0 rfl rfl (vin (by omega) (by omega)) dX7_walks_75 ?_
                refine tp_i (y := (p2 u1)) (by rw [nI_clamp (by omega)]) ?_
                refine lv_icmp_eq (tgt := 99) hx hb dX7_walks_76 (by decide) (fun c_76 => ?_) (fun c_76 => ?_)
                · skip
                  have hW8 := WI_no hW2 (fun _ _ => by rw [hu]; exact c_76.symm)
                  refine lv_iinc (v := (nI (m1 + 1))) (lv' := [(6, .int (nI (m1 + 1))), (5, .int (nI u1)), (4, .int (nI k1)), (3, .int (nI n2)), (0, .ref ma), (1, .int (nI r0)), (2, .int (nI T0))]) hx hb dX7_walks_99 hl (k := 0) rfl (nI_1 _) (by decide) rfl (fun ls hl => ?_)
                  refine lv_goto (tgt := 37) hx hb dX7_walks_102 (by decide) ?_
                  exact ih37 (m1 + 1) n2 q2 p2 u1 (hW8) (by first | omega | assumption) (by first | omega | assumption) (hu) (by omega) _ _ hP hD hS ls (lv_sub hl [0, 1, 2, 3, 4, 5, 6] rfl)
                · skip
                  obtain ⟨hn7, hW7⟩ := WI_add hfg hW2 hk2 (m := m1) (by rw [hu]; exact hz9.1) hz9.2 (by rw [hu]; exact fun q9 => c_76 q9.symm)
                  rw [hu] at hW7
                  refine lv_aload_n hx hb dX7_walks_79 rfl (lv_at hl 4 rfl) ?_
                  refine va_get (D := Γ.1) (ci := 7) (v := .ref mq) (C := RX7) (T := TX7) (N := 15) hx hb hts hinX7 hown hK.1 hP 0 rfl rfl 11 (by decide) (hts _ mw_407) (fun _ h9 => h9) rfl dX7_walks_80 ?_
                  refine lv_iload_n hx hb dX7_walks_83 rfl (lv_at hl 3 rfl) ?_
                  refine lv_iload hx hb dX7_walks_84 (lv_at hl 0 rfl) ?_
                  refine iast_N hx hb hK.1 hP hD hS 2 0 rfl rfl (by omega) (by first | decide | assumption) dX7_walks_86 (fun H locs hP hD hS => ?_)
                  have hP : va_P Γ.1 vwCl [(ma, .inr (7, [.ref ms, .int (nI sn0), .ref mk, .int (nI tw0), .ref mt, .int (nI ty0), .ref mb, .int (bI il0), .ref me, .ref mr, .int (nI my0), .ref mq, .ref mp, .ref mw, .ref mc])), (ms, .inl (Γ.2 0, 162, .inl (aN ss))), (mq, .inl (Γ.2 0, 14, .inl (aN (upN q2 n2 m1)))), (mp, .inl (Γ.2 0, 14, .inl p2))] H := hP
                  have hD : va_D A [(ma, .inr (7, [.ref ms, .int (nI sn0), .ref mk, .int (nI tw0), .ref mt, .int (nI ty0), .ref mb, .int (bI il0), .ref me, .ref mr, .int (nI my0), .ref mq, .ref mp, .ref mw, .ref mc])), (ms, .inl (Γ.2 0, 162, .inl (aN ss))), (mq, .inl (Γ.2 0, 14, .inl (aN (upN q2 n2 m1)))), (mp, .inl (Γ.2 0, 14, .inl p2))] := hD
                  refine lv_aload_n hx hb dX7_walks_87 rfl (lv_at hl 4 rfl) ?_
                  refine va_get (D := Γ.1) (ci := 7) (v := .ref mp) (C := RX7) (T := TX7) (N := 15) hx hb hts hinX7 hown hK.1 hP 0 rfl rfl 12 (by decide) (hts _ mw_408) (fun _ h9 => h9) rfl dX7_walks_88 ?_
                  refine lv_iload hx hb dX7_walks_91 (lv_at hl 0 rfl) ?_
                  refine lv_iload hx hb dX7_walks_93 (lv_at hl 1 rfl) ?_
                  refine va_iast hx hb hK.1 hP hD hS 3 0 rfl rfl (vin (by omega) (by omega)) dX7_walks_95 (fun H locs hP hD hS => ?_)
                  have hP : va_P Γ.1 vwCl [(ma, .inr (7, [.ref ms, .int (nI sn0), .ref mk, .int (nI tw0), .ref mt, .int (nI ty0), .ref mb, .int (bI il0), .ref me, .ref mr, .int (nI my0), .ref mq, .ref mp, .ref mw, .ref mc])), (ms, .inl (Γ.2 0, 162, .inl (aN ss))), (mq, .inl (Γ.2 0, 14, .inl (aN (upN q2 n2 m1)))), (mp, .inl (Γ.2 0, 14, .inl (upd p2 ((nI m1)).toNatClampNeg (nI u1))))] H := hP
                  have hD : va_D A [(ma, .inr (7, [.ref ms, .int (nI sn0), .ref mk, .int (nI tw0), .ref mt, .int (nI ty0), .ref mb, .int (bI il0), .ref me, .ref mr, .int (nI my0), .ref mq, .ref mp, .ref mw, .ref mc])), (ms, .inl (Γ.2 0, 162, .inl (aN ss))), (mq, .inl (Γ.2 0, 14, .inl (aN (upN q2 n2 m1)))), (mp, .inl (Γ.2 0, 14, .inl (upd p2 ((nI m1)).toNatClampNeg (nI u1))))] := hD
                  have hP : va_P Γ.1 vwCl [(ma, .inr (7, [.ref ms, .int (nI sn0), .ref mk, .int (nI tw0), .ref mt, .int (nI ty0), .ref mb, .int (bI il0), .ref me, .ref mr, .int (nI my0), .ref mq, .ref mp, .ref mw, .ref mc])), (ms, .inl (Γ.2 0, 162, .inl (aN ss))), (mq, .inl (Γ.2 0, 14, .inl (aN (upN q2 n2 m1)))), (mp, .inl (Γ.2 0, 14, .inl (upd p2 m1 (nI u1))))] H := cp_w hP (by rw [nI_clamp (by omega)])
                  have hD : va_D A [(ma, .inr (7, [.ref ms, .int (nI sn0), .ref mk, .int (nI tw0), .ref mt, .int (nI ty0), .ref mb, .int (bI il0), .ref me, .ref mr, .int (nI my0), .ref mq, .ref mp, .ref mw, .ref mc])), (ms, .inl (Γ.2 0, 162, .inl (aN ss))), (mq, .inl (Γ.2 0, 14, .inl (aN (upN q2 n2 m1)))), (mp, .inl (Γ.2 0, 14, .inl (upd p2 m1 (nI u1))))] := va_D_fst (by rfl) hD
                  refine lv_iinc (v := (nI (n2 + 1))) (lv' := [(3, .int (nI (n2 + 1))), (6, .int (nI m1)), (5, .int (nI u1)), (4, .int (nI k1)), (0, .ref ma), (1, .int (nI r0)), (2, .int (nI T0))]) hx hb dX7_walks_96 hl (k := 3) rfl (nI_1 _) (by decide) rfl (fun ls hl => ?_)
                  refine lv_iinc (v := (nI (m1 + 1))) (lv' := [(6, .int (nI (m1 + 1))), (3, .int (nI (n2 + 1))), (5, .int (nI u1)), (4, .int (nI k1)), (0, .ref ma), (1, .int (nI r0)), (2, .int (nI T0))]) hx hb dX7_walks_99 hl (k := 1) rfl (nI_1 _) (by decide) rfl (fun ls hl => ?_)
                  refine lv_goto (tgt := 37) hx hb dX7_walks_102 (by decide) ?_
                  exact ih37 (m1 + 1) (n2 + 1) (upN q2 n2 m1) (upd p2 m1 (nI u1)) u1 (hW7) (by first | omega | assumption) (by omega) (by rw [upN_n _ _ (by omega)]; exact hu) (by omega) _ _ hP hD hS ls (lv_sub hl [0, 2, 3, 1, 4, 5, 6] rfl)
        exact LP37 ((ss 0 - 0) + 1) 0 n1 q1 p1 (q1 k1) (hW1) (by first | omega | assumption) (by first | omega | assumption) (rfl) (Nat.lt_succ_self _) _ _ hP hD hS ls (lv_sub hl [0, 1, 2, 3, 4, 5, 6] rfl)
  exact LP19 ((14 - 0) + 1) 1 0 (upN qu 0 r0) (upd pj r0 (-1)) (WI_0 qu pj hr9 hr0) (by first | omega | assumption) (Nat.lt_succ_self _) _ _ hP hD hS ls (lv_sub hl [0, 1, 2, 3, 4] rfl)
set_option maxHeartbeats 8000000 in
set_option maxRecDepth 100000 in
theorem c_X7_depth (l : Launch) (Γ : kG) (H0 : Heap) (ma : Nat) (ms : Nat) (sn0 : Nat) (mk : Nat) (tw0 : Nat) (mt : Nat) (ty0 : Nat) (mb : Nat) (il0 : Bool) (me : Nat) (mr : Nat) (my0 : Nat) (mq : Nat) (mp : Nat) (mw : Nat) (mc : Nat) (q0f : Nat → Nat) (pj : Nat → Int32) (g : Nat → Nat) (T0 : Nat) (r0 : Nat) (n0 : Nat) (a0 : Nat) (hP : va_P Γ.1 vwCl [(ma, .inr (7, [.ref ms, .int (nI sn0), .ref mk, .int (nI tw0), .ref mt, .int (nI ty0), .ref mb, .int (bI il0), .ref me, .ref mr, .int (nI my0), .ref mq, .ref mp, .ref mw, .ref mc])), (mp, .inl (Γ.2 0, 14, .inl pj))] H0) (hQ : QI g T0 r0 q0f pj n0) (ha0 : a0 < n0) : RO l yX7_depth (wsq yX7_depth cX7_depth 4 (some .int)) (rmL 1) Γ H0 [.ref ma, .int (nI (q0f a0))] (nI (dp pj (q0f a0))) := by
  refine ro_ofi (cc := cX7_depth) (maxL := 4) (by decide +kernel) (Nat.le_of_ble_eq_true rfl) rfl ?_
  intro p ev R st mi args below meth cd Q ls C0 hR hret hh hS hl
  obtain ⟨hx, hb, hr, hml, hown, hts, hlk, hK, hnm⟩ := C0
  have hown : st.vm.findClass RX7 = some mi.cls := hown
  refine lv_iconst (v := (nI 0)) hx hb dX7_depth_0 (by decide) ?_
  refine lv_istore_n (lv' := [(2, .int (nI 0)), (0, .ref ma), (1, .int (nI (q0f a0)))]) hx hb dX7_depth_1 rfl hl (by decide) rfl (fun ls hl => ?_)
  refine lv_iload_n hx hb dX7_depth_2 rfl (lv_at hl 2 rfl) ?_
  refine lv_istore_n (lv' := [(3, .int (nI (q0f a0))), (2, .int (nI 0)), (0, .ref ma), (1, .int (nI (q0f a0)))]) hx hb dX7_depth_3 rfl hl (by decide) rfl (fun ls hl => ?_)
  have LP4 : ∀ (fu : Nat) (a1 : Nat) (c1 : Nat) (x1 : Nat) (hx1 : q0f a1 = x1) (ha1 : a1 < n0) (hc1 : c1 + dp pj x1 = dp pj (q0f a0)), a1 < fu → ∀ (locs : List Loc), va_S (fun _ => False) H0 H0 locs → ∀ (ls : Array Slot), lv_has ls 4 [(3, .int (nI x1)), (2, .int (nI c1)), (0, .ref ma), (1, .int (nI (q0f a0)))] → W p l ev R st mi args below meth cd H0 locs 0 0 Q (F0 mi 4 ls []) := by
    intro fu
    induction fu with
    | zero => intro a1 c1 x1 hx1 ha1 hc1 hfu; exact absurd hfu (Nat.not_lt_zero _)
    | succ fu ih4 =>
      intro a1 c1 x1 hx1 ha1 hc1 hfu locs hS ls hl
      have hx9 : x1 < 14 := by rw [← hx1]; exact (hQ.a1 a1 ha1).1
      refine lv_aload_n hx hb dX7_depth_4 rfl (lv_at hl 2 rfl) ?_
      refine va_get (D := Γ.1) (ci := 7) (v := .ref mp) (C := RX7) (T := TX7) (N := 15) hx hb hts hinX7 hown hK.1 hP 0 rfl rfl 12 (by decide) (hts _ mw_408) (fun _ h9 => h9) rfl dX7_depth_5 ?_
      refine lv_iload_n hx hb dX7_depth_8 rfl (lv_at hl 0 rfl) ?_
      refine va_iald hx hb hK.1 hP 1 0 rfl rfl (vin (by omega) (by omega)) dX7_depth_9 ?_
      refine tp_i (y := (pj x1)) (by rw [nI_clamp (by omega)]) ?_
      refine lv_if_lt (tgt := 26) hx hb dX7_depth_10 (by decide) (fun c_10 => ?_) (fun c_10 => ?_)
      · skip
        have hd9 : dp pj x1 = 0 := by rw [dp, dpF, if_pos c_10]
        refine lv_iload_n hx hb dX7_depth_26 rfl (lv_at hl 1 rfl) ?_
        exact hret hS (by rw [← hc1, hd9, Nat.add_zero]) dX7_depth_27
      · skip
        rcases QI_par hQ ha1 with ⟨-, hy9⟩ | ⟨d9, hd1, hd2, -⟩
        · rw [hx1] at hy9; rw [hy9] at c_10; exact absurd neg1 c_10
        have hd8 := dp_s hQ ha1 hd1 hd2
        rw [hx1] at hd2 hd8
        refine lv_iinc (v := (nI (c1 + 1))) (lv' := [(2, .int (nI (c1 + 1))), (3, .int (nI x1)), (0, .ref ma), (1, .int (nI (q0f a0)))]) hx hb dX7_depth_13 hl (k := 1) rfl (nI_1 _) (by decide) rfl (fun ls hl => ?_)
        refine lv_aload_n hx hb dX7_depth_16 rfl (lv_at hl 2 rfl) ?_
        refine va_get (D := Γ.1) (ci := 7) (v := .ref mp) (C := RX7) (T := TX7) (N := 15) hx hb hts hinX7 hown hK.1 hP 0 rfl rfl 12 (by decide) (hts _ mw_408) (fun _ h9 => h9) rfl dX7_depth_17 ?_
        refine lv_iload_n hx hb dX7_depth_20 rfl (lv_at hl 1 rfl) ?_
        refine va_iald hx hb hK.1 hP 1 0 rfl rfl (vin (by omega) (by omega)) dX7_depth_21 ?_
        refine tp_i (y := (nI (q0f d9))) (by rw [nI_clamp (by omega), hd2]) ?_
        refine lv_istore_n (lv' := [(3, .int (nI (q0f d9))), (2, .int (nI (c1 + 1))), (0, .ref ma), (1, .int (nI (q0f a0)))]) hx hb dX7_depth_22 rfl hl (by decide) rfl (fun ls hl => ?_)
        refine lv_goto (tgt := 4) hx hb dX7_depth_23 (by decide) ?_
        exact ih4 d9 (c1 + 1) (q0f d9) (rfl) (by omega) (by omega) (by omega) _ hS ls (lv_sub hl [0, 1, 2, 3] rfl)
  exact LP4 (a0 + 1) a0 0 (q0f a0) (rfl) (by first | omega | assumption) (by omega) (Nat.lt_succ_self _) _ hS ls (lv_sub hl [0, 1, 2, 3] rfl)
set_option maxHeartbeats 8000000 in
set_option maxRecDepth 100000 in
theorem c_X7_longestWay (l : Launch) (Γ : kG) (ma : Nat) (ms : Nat) (sn0 : Nat) (mk : Nat) (tw0 : Nat) (mt : Nat) (ty0 : Nat) (mb : Nat) (il0 : Bool) (me : Nat) (mr : Nat) (my0 : Nat) (mq : Nat) (mp : Nat) (mw : Nat) (mc : Nat) (ss : Nat → Nat) (qu : Nat → Nat) (pj : Nat → Int32) (T0 : Nat) (h0 : ss 0 ≤ 14) (hT0 : T0 < 2 ^ ss 0) (hfg : FG (gS ss)) : WRi l yX7_longestWay (wsq yX7_longestWay cX7_longestWay 6 (some .int)) (rmL 2) Γ [.ref ma, .int (nI T0)] [(ma, .inr (7, [.ref ms, .int (nI sn0), .ref mk, .int (nI tw0), .ref mt, .int (nI ty0), .ref mb, .int (bI il0), .ref me, .ref mr, .int (nI my0), .ref mq, .ref mp, .ref mw, .ref mc])), (ms, .inl (Γ.2 0, 162, .inl (aN ss))), (mq, .inl (Γ.2 0, 14, .inl (aN qu))), (mp, .inl (Γ.2 0, 14, .inl pj))] (fun u : (Nat → Nat) × (Nat → Int32) => [(ma, .inr (7, [.ref ms, .int (nI sn0), .ref mk, .int (nI tw0), .ref mt, .int (nI ty0), .ref mb, .int (bI il0), .ref me, .ref mr, .int (nI my0), .ref mq, .ref mp, .ref mw, .ref mc])), (ms, .inl (Γ.2 0, 162, .inl (aN ss))), (mq, .inl (Γ.2 0, 14, .inl (aN u.1))), (mp, .inl (Γ.2 0, 14, .inl u.2))]) (fun (r : Int32) (u : (Nat → Nat) × (Nat → Int32)) => r = (nI (lwA (gS ss) T0 (ss 0)))) := by
  refine wr_ofi (cc := cX7_longestWay) (maxL := 6) (by decide +kernel) (Nat.le_of_ble_eq_true rfl) rfl ?_
  intro p ev R st mi args below meth cd Q A ls C0 hR hret hP hD hS hl
  obtain ⟨hx, hb, hr, hml, hown, hts, hlk, hK, hnm⟩ := C0
  have hown : st.vm.findClass RX7 = some mi.cls := hown
  have hT9 := w14 hT0 h0
  refine lv_iconst (v := (nI 0)) hx hb dX7_longestWay_0 (by decide) ?_
  refine lv_istore_n (lv' := [(2, .int (nI 0)), (0, .ref ma), (1, .int (nI T0))]) hx hb dX7_longestWay_1 rfl hl (by decide) rfl (fun ls hl => ?_)
  refine lv_iconst (v := (nI 0)) hx hb dX7_longestWay_2 (by decide) ?_
  refine lv_istore_n (lv' := [(3, .int (nI 0)), (2, .int (nI 0)), (0, .ref ma), (1, .int (nI T0))]) hx hb dX7_longestWay_3 rfl hl (by decide) rfl (fun ls hl => ?_)
  have LP4 : ∀ (fu : Nat) (k1 : Nat) (q1 : Nat → Nat) (p1 : Nat → Int32) (hk1 : k1 ≤ ss 0), (ss 0 - k1) < fu → ∀ (H : Heap) (locs : List Loc), va_P Γ.1 vwCl [(ma, .inr (7, [.ref ms, .int (nI sn0), .ref mk, .int (nI tw0), .ref mt, .int (nI ty0), .ref mb, .int (bI il0), .ref me, .ref mr, .int (nI my0), .ref mq, .ref mp, .ref mw, .ref mc])), (ms, .inl (Γ.2 0, 162, .inl (aN ss))), (mq, .inl (Γ.2 0, 14, .inl (aN q1))), (mp, .inl (Γ.2 0, 14, .inl p1))] H → va_D A [(ma, .inr (7, [.ref ms, .int (nI sn0), .ref mk, .int (nI tw0), .ref mt, .int (nI ty0), .ref mb, .int (bI il0), .ref me, .ref mr, .int (nI my0), .ref mq, .ref mp, .ref mw, .ref mc])), (ms, .inl (Γ.2 0, 162, .inl (aN ss))), (mq, .inl (Γ.2 0, 14, .inl (aN q1))), (mp, .inl (Γ.2 0, 14, .inl p1))] → va_S A st.heap H locs → ∀ (ls : Array Slot), lv_has ls 6 [(3, .int (nI k1)), (2, .int (nI (lwA (gS ss) T0 k1))), (0, .ref ma), (1, .int (nI T0))] → W p l ev R st mi args below meth cd H locs 0 0 Q (F0 mi 4 ls []) := by
    intro fu
    induction fu with
    | zero => intro k1 q1 p1 hk1 hfu; exact absurd hfu (Nat.not_lt_zero _)
    | succ fu ih4 =>
      intro k1 q1 p1 hk1 hfu H locs hP hD hS ls hl
      refine lv_iload_n hx hb dX7_longestWay_4 rfl (lv_at hl 0 rfl) ?_
      refine lv_aload_n hx hb dX7_longestWay_5 rfl (lv_at hl 2 rfl) ?_
      refine va_get (D := Γ.1) (ci := 7) (v := .ref ms) (C := RX7) (T := TX7) (N := 15) hx hb hts hinX7 hown hK.1 hP 0 rfl rfl 0 (by decide) (hts _ mw_400) (fun _ h9 => h9) rfl dX7_longestWay_6 ?_
      refine lv_iconst (v := (nI 0)) hx hb dX7_longestWay_9 (by decide) ?_
      refine iald_N hx hb hK.1 hP 1 0 rfl rfl (by omega) (by first | decide | assumption) dX7_longestWay_10 ?_
      refine nb_icmp_ge (tgt := 65) hx hb (by first | omega | assumption) (by first | omega | assumption) dX7_longestWay_11 (by decide) (fun c_11 => ?_) (fun c_11 => ?_)
      · skip
        have he9 : ss 0 = k1 := by omega
        subst he9
        refine lv_iload_n hx hb dX7_longestWay_65 rfl (lv_at hl 1 rfl) ?_
        exact hret (q1, p1) hP hS (rfl) dX7_longestWay_66
      · skip
        refine lv_iload_n hx hb dX7_longestWay_14 rfl (lv_at hl 3 rfl) ?_
        refine lv_iload_n hx hb dX7_longestWay_15 rfl (lv_at hl 0 rfl) ?_
        refine lv_ishr hx hb dX7_longestWay_16 ?_
        refine tp_i (y := (nI (T0 >>> k1))) (ni_shr (by omega) (by omega)) ?_
        refine lv_iconst (v := (nI 1)) hx hb dX7_longestWay_17 (by decide) ?_
        refine lv_iand hx hb dX7_longestWay_18 ?_
        refine tp_i (y := (nI ((Nat.testBit T0 k1).toNat))) (ni_bit _ _) ?_
        refine lv_iconst (v := (nI 1)) hx hb dX7_longestWay_19 (by decide) ?_
        refine nb_icmp_ne (tgt := 59) hx hb (tn_lt _) (by omega) dX7_longestWay_20 (by decide) (fun c_20 => ?_) (fun c_20 => ?_)
        · skip
          have hb9 : T0.testBit k1 = false := ts_f (fun q9 => c_20 (tn_1.mpr q9))
          have hl : lv_has ls 6 [(3, .int (nI k1)), (2, .int (nI (lwA (gS ss) T0 (k1 + 1)))), (0, .ref ma), (1, .int (nI T0))] := lv_cast hl (by rw [lwA, if_f hb9])
          refine lv_iinc (v := (nI (k1 + 1))) (lv' := [(3, .int (nI (k1 + 1))), (2, .int (nI (lwA (gS ss) T0 (k1 + 1)))), (0, .ref ma), (1, .int (nI T0))]) hx hb dX7_longestWay_59 hl (k := 0) rfl (nI_1 _) (by decide) rfl (fun ls hl => ?_)
          refine lv_goto (tgt := 4) hx hb dX7_longestWay_62 (by decide) ?_
          exact ih4 (k1 + 1) q1 p1 (by first | omega | assumption) (by omega) _ _ hP hD hS ls (lv_sub hl [0, 1, 2, 3] rfl)
        · skip
          have hb9 : T0.testBit k1 = true := tn_1.mp c_20
          refine lv_aload_n hx hb dX7_longestWay_23 rfl (lv_at hl 2 rfl) ?_
          refine lv_iload_n hx hb dX7_longestWay_24 rfl (lv_at hl 0 rfl) ?_
          refine lv_iload_n hx hb dX7_longestWay_25 rfl (lv_at hl 3 rfl) ?_
          refine wr_fini (va_runV (As := [.int (nI k1), .int (nI T0)]) (rest := []) ⟨hx, hb, hml, hown, hts⟩ (c_X7_walks l Γ ma ms sn0 mk tw0 mt ty0 mb il0 me mr my0 mq mp mw mc ss q1 p1 k1 T0 (by first | omega | assumption) (by first | omega | assumption) (hb9) (by first | omega | assumption)) (kcwV 2 hts kv_X7_walks mw_458 (rm_le hR (Nat.le_of_ble_eq_true rfl) (Nat.le_of_ble_eq_true rfl))) (kPw_V hK (va_recv hK.1 hP (ci := 7) (q0 := 0) rfl rfl) (hP.sub (ws' := [(ma, .inr (7, [.ref ms, .int (nI sn0), .ref mk, .int (nI tw0), .ref mt, .int (nI ty0), .ref mb, .int (bI il0), .ref me, .ref mr, .int (nI my0), .ref mq, .ref mp, .ref mw, .ref mc])), (ms, .inl (Γ.2 0, 162, .inl (aN ss))), (mq, .inl (Γ.2 0, 14, .inl (aN q1))), (mp, .inl (Γ.2 0, 14, .inl p1))]) [0, 1, 2, 3] rfl) (hD.sub (ws' := [(ma, .inr (7, [.ref ms, .int (nI sn0), .ref mk, .int (nI tw0), .ref mt, .int (nI ty0), .ref mb, .int (bI il0), .ref me, .ref mr, .int (nI my0), .ref mq, .ref mp, .ref mw, .ref mc])), (ms, .inl (Γ.2 0, 162, .inl (aN ss))), (mq, .inl (Γ.2 0, 14, .inl (aN q1))), (mp, .inl (Γ.2 0, 14, .inl p1))]) [0, 1, 2, 3] (by decide) rfl)) rfl rfl hl.1 rfl (lv_room (Nat.le_of_ble_eq_true rfl)) dX7_longestWay_26 ⟨Nat.zero_le _, Nat.zero_le _⟩) hP hD hS [0, 1, 2, 3] rfl (fun _ => rfl) (fun r u H locs hw hP hD hS => ?_)
          obtain ⟨n7, q7, p7⟩ := u
          obtain ⟨rfl, hQ7⟩ := hw
          have hP : va_P Γ.1 vwCl [(ma, .inr (7, [.ref ms, .int (nI sn0), .ref mk, .int (nI tw0), .ref mt, .int (nI ty0), .ref mb, .int (bI il0), .ref me, .ref mr, .int (nI my0), .ref mq, .ref mp, .ref mw, .ref mc])), (ms, .inl (Γ.2 0, 162, .inl (aN ss))), (mq, .inl (Γ.2 0, 14, .inl (aN q7))), (mp, .inl (Γ.2 0, 14, .inl p7))] H := hP
          have hD : va_D A [(ma, .inr (7, [.ref ms, .int (nI sn0), .ref mk, .int (nI tw0), .ref mt, .int (nI ty0), .ref mb, .int (bI il0), .ref me, .ref mr, .int (nI my0), .ref mq, .ref mp, .ref mw, .ref mc])), (ms, .inl (Γ.2 0, 162, .inl (aN ss))), (mq, .inl (Γ.2 0, 14, .inl (aN q7))), (mp, .inl (Γ.2 0, 14, .inl p7))] := hD
          refine lv_istore (lv' := [(4, .int (nI n7)), (3, .int (nI k1)), (2, .int (nI (lwA (gS ss) T0 k1))), (0, .ref ma), (1, .int (nI T0))]) hx hb dX7_longestWay_29 hl (by decide) rfl (fun ls hl => ?_)
          refine lv_aload_n hx hb dX7_longestWay_31 rfl (lv_at hl 3 rfl) ?_
          refine lv_aload_n hx hb dX7_longestWay_32 rfl (lv_at hl 3 rfl) ?_
          refine va_get (D := Γ.1) (ci := 7) (v := .ref mq) (C := RX7) (T := TX7) (N := 15) hx hb hts hinX7 hown hK.1 hP 0 rfl rfl 11 (by decide) (hts _ mw_407) (fun _ h9 => h9) rfl dX7_longestWay_33 ?_
          refine lv_iload hx hb dX7_longestWay_36 (lv_at hl 0 rfl) ?_
          refine lv_iconst (v := (nI 1)) hx hb dX7_longestWay_38 (by decide) ?_
          have hn7 := hQ7.n14
          have hn6 := hQ7.n0
          have hd7 := dp_last hfg.1 hT9 hQ7
          have hl7 := lwW_le (gS ss) T0 k1 13
          have hl6 := lwA_le (gS ss) T0 k1
          refine lv_isub hx hb dX7_longestWay_39 ?_
          refine tp_i (y := (nI (n7 - 1))) (ni_sub (by omega)) ?_
          refine iald_N hx hb hK.1 hP 2 0 rfl rfl (by omega) (by first | decide | assumption) dX7_longestWay_40 ?_
          refine ro_fin (va_runV (As := [.int (nI (q7 (n7 - 1)))]) (rest := []) ⟨hx, hb, hml, hown, hts⟩ (c_X7_depth l Γ _ ma ms sn0 mk tw0 mt ty0 mb il0 me mr my0 mq mp mw mc q7 p7 (gS ss) T0 k1 n7 (n7 - 1) (hP.sub (ws' := [(ma, .inr (7, [.ref ms, .int (nI sn0), .ref mk, .int (nI tw0), .ref mt, .int (nI ty0), .ref mb, .int (bI il0), .ref me, .ref mr, .int (nI my0), .ref mq, .ref mp, .ref mw, .ref mc])), (mp, .inl (Γ.2 0, 14, .inl p7))]) [0, 3] rfl) (hQ7) (by omega)) (kcwV 1 hts kv_X7_depth mw_488 (rm_le hR (Nat.le_of_ble_eq_true rfl) (Nat.le_of_ble_eq_true rfl))) (kPc_V hK (va_recv hK.1 hP (ci := 7) (q0 := 0) rfl rfl)) rfl rfl hl.1 rfl (lv_room (Nat.le_of_ble_eq_true rfl)) dX7_longestWay_41 ⟨Nat.zero_le _, Nat.zero_le _⟩) hS (fun locs hS => ?_)
          refine tp_i (y := (nI (lwW (gS ss) T0 k1 13))) (by rw [hd7]) ?_
          refine lv_istore (lv' := [(5, .int (nI (lwW (gS ss) T0 k1 13))), (4, .int (nI n7)), (3, .int (nI k1)), (2, .int (nI (lwA (gS ss) T0 k1))), (0, .ref ma), (1, .int (nI T0))]) hx hb dX7_longestWay_44 hl (by decide) rfl (fun ls hl => ?_)
          refine lv_iload hx hb dX7_longestWay_46 (lv_at hl 0 rfl) ?_
          refine lv_iload_n hx hb dX7_longestWay_48 rfl (lv_at hl 3 rfl) ?_
          refine nb_icmp_le (tgt := 57) hx hb (by omega) (by omega) dX7_longestWay_49 (by decide) (fun c_49 => ?_) (fun c_49 => ?_)
          · skip
            refine lv_iload_n hx hb dX7_longestWay_57 rfl (lv_at hl 3 rfl) ?_
            refine tp_i (y := (nI (lwA (gS ss) T0 (k1 + 1)))) (by rw [lwA, if_t hb9, Nat.max_eq_left (by omega)]) ?_
            refine lv_istore_n (lv' := [(2, .int (nI (lwA (gS ss) T0 (k1 + 1)))), (5, .int (nI (lwW (gS ss) T0 k1 13))), (4, .int (nI n7)), (3, .int (nI k1)), (0, .ref ma), (1, .int (nI T0))]) hx hb dX7_longestWay_58 rfl hl (by decide) rfl (fun ls hl => ?_)
            refine lv_iinc (v := (nI (k1 + 1))) (lv' := [(3, .int (nI (k1 + 1))), (2, .int (nI (lwA (gS ss) T0 (k1 + 1)))), (5, .int (nI (lwW (gS ss) T0 k1 13))), (4, .int (nI n7)), (0, .ref ma), (1, .int (nI T0))]) hx hb dX7_longestWay_59 hl (k := 3) rfl (nI_1 _) (by decide) rfl (fun ls hl => ?_)
            refine lv_goto (tgt := 4) hx hb dX7_longestWay_62 (by decide) ?_
            exact ih4 (k1 + 1) q7 p7 (by first | omega | assumption) (by omega) _ _ hP hD hS ls (lv_sub hl [0, 1, 4, 5] rfl)
          · skip
            refine lv_iload hx hb dX7_longestWay_52 (lv_at hl 0 rfl) ?_
            refine tp_i (y := (nI (lwA (gS ss) T0 (k1 + 1)))) (by rw [lwA, if_t hb9, Nat.max_eq_right (by omega)]) ?_
            refine lv_goto (tgt := 58) hx hb dX7_longestWay_54 (by decide) ?_
            refine lv_istore_n (lv' := [(2, .int (nI (lwA (gS ss) T0 (k1 + 1)))), (5, .int (nI (lwW (gS ss) T0 k1 13))), (4, .int (nI n7)), (3, .int (nI k1)), (0, .ref ma), (1, .int (nI T0))]) hx hb dX7_longestWay_58 rfl hl (by decide) rfl (fun ls hl => ?_)
            refine lv_iinc (v := (nI (k1 + 1))) (lv' := [(3, .int (nI (k1 + 1))), (2, .int (nI (lwA (gS ss) T0 (k1 + 1)))), (5, .int (nI (lwW (gS ss) T0 k1 13))), (4, .int (nI n7)), (0, .ref ma), (1, .int (nI T0))]) hx hb dX7_longestWay_59 hl (k := 3) rfl (nI_1 _) (by decide) rfl (fun ls hl => ?_)
            refine lv_goto (tgt := 4) hx hb dX7_longestWay_62 (by decide) ?_
            exact ih4 (k1 + 1) q7 p7 (by first | omega | assumption) (by omega) _ _ hP hD hS ls (lv_sub hl [0, 1, 4, 5] rfl)
  exact LP4 ((ss 0 - 0) + 1) 0 qu pj (by first | omega | assumption) (Nat.lt_succ_self _) _ _ hP hD hS ls (lv_cast (lv_sub hl [0, 1, 2, 3] rfl) (by rfl))
