theorem mi_dec {g : Nat → Nat} {S : Nat} : (!Mi g S) = decide (T g S < 4096) := by
  rw [Mi]
  by_cases h : 4096 ≤ T g S
  · rw [decide_eq_true h, decide_eq_false (by omega)]; rfl
  · rw [decide_eq_false h, decide_eq_true (by omega)]; rfl

set_option maxHeartbeats 16000000 in
set_option maxRecDepth 100000 in
theorem c_L_hangs (l : Launch) (hls : l.stackTraces = false) (Γ : kG) (z : tAD) (w : tST) {n th mv : Nat} {g : Nat → Nat} {k : Nat} (h : OKW n th mv g k w)   : WY l yL_hangs (wsq yL_hangs cL_hangs 19 (some .boolean)) (rmX 40 3 18) Γ z [.ref (z.1 0)] w 3 18 (fun r w' => r = nI 1 ∧ OKW n th mv g k w') := by
  refine wy_of (cc := cL_hangs) (maxL := 19) (by decide +kernel) (Nat.le_of_ble_eq_true rfl) rfl (Or.inr rfl) ?_
  intro p ev R st mi args below meth cd Q A ls C0 hR hret hP hD hS hl
  obtain ⟨hx, hb, hr, hml, hown, hts, hlk, hK, hnm⟩ := C0
  have hown : st.vm.findClass RL = some mi.cls := hown
  obtain ⟨hXS, hXN, hret⟩ := hret
  have hC := h.2.2.1
  have hfg := hC.1
  have hn0 := hC.2.1
  have hth := hC.2.2.1
  have hw14 := w14 hth hn0
  have hc := (trC_spec g hw14).1
  have hk6 : k ≤ 6 := h.2.2.2.2.1
  refine lv_aload_n hx hb dL_hangs_0 rfl (lv_at hl 0 rfl) ?_
  refine lv_iconst (v := (nI 0)) hx hb dL_hangs_1 (by decide) ?_
  refine wy_fin (vx_runSW (As := [.ref (z.1 0), .int (nI 0)]) (rest := []) ⟨hx, hb, hml, hown, hts⟩ (d_L_count_a l Γ z w h 0 (by decide)) (kcwSW 2 hts kw_L_count mw_454 (rm_le hR (Nat.le_of_ble_eq_true rfl) (Nat.le_of_ble_eq_true rfl))) (kPy_S hK hP hD hXS hXN hS) rfl rfl hl.1 rfl (lv_room (Nat.le_of_ble_eq_true rfl)) dL_hangs_2 (by subst hR; exact ⟨Nat.le_of_ble_eq_true rfl, Nat.le_of_ble_eq_true rfl⟩)) hP hD hS (fun r w H locs hw hP hD hS => ?_)
  obtain ⟨rfl, h⟩ := hw
  refine tp_i (y := (nI n)) (rfl) ?_
  refine lv_istore_n (lv' := [(1, .int (nI n)), (0, .ref (z.1 0))]) hx hb dL_hangs_5 rfl hl (by decide) rfl (fun ls hl => ?_)
  refine lv_aload_n hx hb dL_hangs_6 rfl (lv_at hl 1 rfl) ?_
  refine lv_iconst (v := (nI 3)) hx hb dL_hangs_7 (by decide) ?_
  refine wy_fin (vx_runSW (As := [.ref (z.1 0), .int (nI 3)]) (rest := []) ⟨hx, hb, hml, hown, hts⟩ (d_L_count_a l Γ z w h 3 (by decide)) (kcwSW 2 hts kw_L_count mw_454 (rm_le hR (Nat.le_of_ble_eq_true rfl) (Nat.le_of_ble_eq_true rfl))) (kPy_S hK hP hD hXS hXN hS) rfl rfl hl.1 rfl (lv_room (Nat.le_of_ble_eq_true rfl)) dL_hangs_8 (by subst hR; exact ⟨Nat.le_of_ble_eq_true rfl, Nat.le_of_ble_eq_true rfl⟩)) hP hD hS (fun r w H locs hw hP hD hS => ?_)
  obtain ⟨rfl, h⟩ := hw
  refine tp_i (y := (nI (trC g th))) (rfl) ?_
  refine lv_istore_n (lv' := [(2, .int (nI (trC g th))), (1, .int (nI n)), (0, .ref (z.1 0))]) hx hb dL_hangs_11 rfl hl (by decide) rfl (fun ls hl => ?_)
  refine lv_iconst (v := (nI 0)) hx hb dL_hangs_12 (by decide) ?_
  refine lv_istore_n (lv' := [(3, .int (nI 0)), (2, .int (nI (trC g th))), (1, .int (nI n)), (0, .ref (z.1 0))]) hx hb dL_hangs_13 rfl hl (by decide) rfl (fun ls hl => ?_)
  refine lv_iconst (v := (nI 0)) hx hb dL_hangs_14 (by decide) ?_
  refine lv_istore (lv' := [(4, .int (nI 0)), (3, .int (nI 0)), (2, .int (nI (trC g th))), (1, .int (nI n)), (0, .ref (z.1 0))]) hx hb dL_hangs_15 hl (by decide) rfl (fun ls hl => ?_)
  refine lv_iconst (v := (nI 0)) hx hb dL_hangs_17 (by decide) ?_
  refine lv_istore (lv' := [(5, .int (nI 0)), (4, .int (nI 0)), (3, .int (nI 0)), (2, .int (nI (trC g th))), (1, .int (nI n)), (0, .ref (z.1 0))]) hx hb dL_hangs_18 hl (by decide) rfl (fun ls hl => ?_)
  refine lv_iconst (v := (-1)) hx hb dL_hangs_20 (by decide) ?_
  refine lv_istore (lv' := [(6, .int (-1)), (5, .int (nI 0)), (4, .int (nI 0)), (3, .int (nI 0)), (2, .int (nI (trC g th))), (1, .int (nI n)), (0, .ref (z.1 0))]) hx hb dL_hangs_21 hl (by decide) rfl (fun ls hl => ?_)
  refine lv_iconst (v := (nI 0)) hx hb dL_hangs_23 (by decide) ?_
  refine lv_istore (lv' := [(7, .int (nI 0)), (6, .int (-1)), (5, .int (nI 0)), (4, .int (nI 0)), (3, .int (nI 0)), (2, .int (nI (trC g th))), (1, .int (nI n)), (0, .ref (z.1 0))]) hx hb dL_hangs_24 hl (by decide) rfl (fun ls hl => ?_)
  refine lv_iconst (v := (nI 0)) hx hb dL_hangs_26 (by decide) ?_
  refine lv_istore (lv' := [(8, .int (nI 0)), (7, .int (nI 0)), (6, .int (-1)), (5, .int (nI 0)), (4, .int (nI 0)), (3, .int (nI 0)), (2, .int (nI (trC g th))), (1, .int (nI n)), (0, .ref (z.1 0))]) hx hb dL_hangs_27 hl (by decide) rfl (fun ls hl => ?_)
  refine lv_aload_n hx hb dL_hangs_29 rfl (lv_at hl 8 rfl) ?_
  refine lv_iload_n hx hb dL_hangs_30 rfl (lv_at hl 7 rfl) ?_
  refine lv_iconst (v := (nI 0)) hx hb dL_hangs_31 (by decide) ?_
  refine wy_fin (vx_runSW (As := [.ref (z.1 0), .int (nI n), .int (nI 0)]) (rest := []) ⟨hx, hb, hml, hown, hts⟩ (d_L_nodeOf_x l hls Γ z w h (nI n) (nI 0) (isN_self hn0)) (kcwSW 3 hts kw_L_nodeOf mw_459 (rm_le hR (Nat.le_of_ble_eq_true rfl) (Nat.le_of_ble_eq_true rfl))) (kPy_S hK hP hD hXS hXN hS) rfl rfl hl.1 rfl (lv_room (Nat.le_of_ble_eq_true rfl)) dL_hangs_32 (by subst hR; exact ⟨Nat.le_of_ble_eq_true rfl, Nat.le_of_ble_eq_true rfl⟩)) hP hD hS (fun r w H locs hw hP hD hS => ?_)
  obtain ⟨rfl, e9⟩ := hw
  rw [← e9] at h
  refine tp_i (y := (-2000001)) (rfl) ?_
  refine lv_ldc (v := (-2000001)) hx hb hown (hts _ mw_369) dL_hangs_35 ?_
  refine lv_icmp_ne (tgt := 55) hx hb dL_hangs_37 (by decide) (fun c_37 => by exfalso; exact c_37 rfl) (fun c_37 => ?_)
  refine lv_aload_n hx hb dL_hangs_40 rfl (lv_at hl 8 rfl) ?_
  refine lv_iload_n hx hb dL_hangs_41 rfl (lv_at hl 6 rfl) ?_
  refine lv_iconst (v := (nI 0)) hx hb dL_hangs_42 (by decide) ?_
  refine wy_fin (vx_runSW (As := [.ref (z.1 0), .int (nI (trC g th)), .int (nI 0)]) (rest := []) ⟨hx, hb, hml, hown, hts⟩ (d_L_tree_x l hls Γ z w h (trC g th) (nI 0) (by omega) (Nat.le_refl _)) (kcwSW 3 hts kw_L_treeOf mw_461 (rm_le hR (Nat.le_of_ble_eq_true rfl) (Nat.le_of_ble_eq_true rfl))) (kPy_S hK hP hD hXS hXN hS) rfl rfl hl.1 rfl (lv_room (Nat.le_of_ble_eq_true rfl)) dL_hangs_43 (by subst hR; exact ⟨Nat.le_of_ble_eq_true rfl, Nat.le_of_ble_eq_true rfl⟩)) hP hD hS (fun r w H locs hw hP hD hS => ?_)
  obtain ⟨rfl, e9⟩ := hw
  rw [← e9] at h
  refine tp_i (y := (-2000001)) (rfl) ?_
  refine lv_ldc (v := (-2000001)) hx hb hown (hts _ mw_369) dL_hangs_46 ?_
  refine lv_icmp_ne (tgt := 55) hx hb dL_hangs_48 (by decide) (fun c_48 => by exfalso; exact c_48 rfl) (fun c_48 => ?_)
  refine lv_iconst (v := (nI 1)) hx hb dL_hangs_51 (by decide) ?_
  refine lv_goto (tgt := 56) hx hb dL_hangs_52 (by decide) ?_
  refine lv_istore (lv' := [(9, .int (nI 1)), (8, .int (nI 0)), (7, .int (nI 0)), (6, .int (-1)), (5, .int (nI 0)), (4, .int (nI 0)), (3, .int (nI 0)), (2, .int (nI (trC g th))), (1, .int (nI n)), (0, .ref (z.1 0))]) hx hb dL_hangs_56 hl (by decide) rfl (fun ls hl => ?_)
  refine lv_iconst (v := (nI 0)) hx hb dL_hangs_58 (by decide) ?_
  refine lv_istore (lv' := [(10, .int (nI 0)), (9, .int (nI 1)), (8, .int (nI 0)), (7, .int (nI 0)), (6, .int (-1)), (5, .int (nI 0)), (4, .int (nI 0)), (3, .int (nI 0)), (2, .int (nI (trC g th))), (1, .int (nI n)), (0, .ref (z.1 0))]) hx hb dL_hangs_59 hl (by decide) rfl (fun ls hl => ?_)
  have LP61 : ∀ (fu : Nat) (k1 : Nat) (hk1 : k1 ≤ n), (n - k1) < fu → ∀ (w : tST), OKW n th mv g k w → ∀ (H : Heap) (locs : List Loc), va_P Γ.1 vwCl (LW Γ z w) H → va_D A (LW Γ z w) → va_S A st.heap H locs → ∀ (ls : Array Slot), lv_has ls 19 [(10, .int (nI k1)), (9, .int (nI 1)), (8, .int (nI ((wonF g (T g) th k1).toNat))), (7, .int (nI (seenF g (T g) th k1))), (6, .int (bst (wnP g th) k1)), (5, .int (nI (cnt (wnP g th) k1))), (4, .int (nI (eIn g th k1))), (3, .int (nI (mk (fun i => th.testBit i) k1))), (2, .int (nI (trC g th))), (1, .int (nI n)), (0, .ref (z.1 0))] → W p l ev R st mi args below meth cd H locs 2 12 Q (F0 mi 61 ls []) := by
    intro fu
    induction fu with
    | zero => intro k1 hk1 hfu; exact absurd hfu (Nat.not_lt_zero _)
    | succ fu ih61 =>
      intro k1 hk1 hfu w h H locs hP hD hS ls hl
      refine lv_iload hx hb dL_hangs_61 (lv_at hl 0 rfl) ?_
      refine lv_iload_n hx hb dL_hangs_63 rfl (lv_at hl 9 rfl) ?_
      refine nb_icmp_ge (tgt := 351) hx hb (by first | omega | assumption) (by first | omega | assumption) dL_hangs_64 (by decide) (fun c_64 => ?_) (fun c_64 => ?_)
      · skip
        have he9 : n = k1 := by omega
        subst he9
        have hl : lv_has ls 19 [(10, .int (nI n)), (9, .int (nI 1)), (8, .int (nI ((wonF g (T g) th n).toNat))), (7, .int (nI (seenF g (T g) th n))), (6, .int (bst (wnP g th) n)), (5, .int (nI (cnt (wnP g th) n))), (4, .int (nI (eIn g th 14))), (3, .int (nI th)), (2, .int (nI (trC g th))), (1, .int (nI n)), (0, .ref (z.1 0))] := lv_cast hl (by rw [mk_all hth, eIn_14 hth hn0])
        refine lv_iconst (v := (nI 0)) hx hb dL_hangs_351 (by decide) ?_
        refine lv_istore (lv' := [(10, .int (nI 0)), (9, .int (nI 1)), (8, .int (nI ((wonF g (T g) th n).toNat))), (7, .int (nI (seenF g (T g) th n))), (6, .int (bst (wnP g th) n)), (5, .int (nI (cnt (wnP g th) n))), (4, .int (nI (eIn g th 14))), (3, .int (nI th)), (2, .int (nI (trC g th))), (1, .int (nI n)), (0, .ref (z.1 0))]) hx hb dL_hangs_352 hl (by decide) rfl (fun ls hl => ?_)
        refine lv_iconst (v := (nI 0)) hx hb dL_hangs_354 (by decide) ?_
        refine lv_istore (lv' := [(11, .int (nI 0)), (10, .int (nI 0)), (9, .int (nI 1)), (8, .int (nI ((wonF g (T g) th n).toNat))), (7, .int (nI (seenF g (T g) th n))), (6, .int (bst (wnP g th) n)), (5, .int (nI (cnt (wnP g th) n))), (4, .int (nI (eIn g th 14))), (3, .int (nI th)), (2, .int (nI (trC g th))), (1, .int (nI n)), (0, .ref (z.1 0))]) hx hb dL_hangs_355 hl (by decide) rfl (fun ls hl => ?_)
        refine lv_iconst (v := (nI 0)) hx hb dL_hangs_357 (by decide) ?_
        refine lv_istore (lv' := [(12, .int (nI 0)), (11, .int (nI 0)), (10, .int (nI 0)), (9, .int (nI 1)), (8, .int (nI ((wonF g (T g) th n).toNat))), (7, .int (nI (seenF g (T g) th n))), (6, .int (bst (wnP g th) n)), (5, .int (nI (cnt (wnP g th) n))), (4, .int (nI (eIn g th 14))), (3, .int (nI th)), (2, .int (nI (trC g th))), (1, .int (nI n)), (0, .ref (z.1 0))]) hx hb dL_hangs_358 hl (by decide) rfl (fun ls hl => ?_)
        refine lv_iconst (v := (nI 0)) hx hb dL_hangs_360 (by decide) ?_
        refine lv_istore (lv' := [(13, .int (nI 0)), (12, .int (nI 0)), (11, .int (nI 0)), (10, .int (nI 0)), (9, .int (nI 1)), (8, .int (nI ((wonF g (T g) th n).toNat))), (7, .int (nI (seenF g (T g) th n))), (6, .int (bst (wnP g th) n)), (5, .int (nI (cnt (wnP g th) n))), (4, .int (nI (eIn g th 14))), (3, .int (nI th)), (2, .int (nI (trC g th))), (1, .int (nI n)), (0, .ref (z.1 0))]) hx hb dL_hangs_361 hl (by decide) rfl (fun ls hl => ?_)
        refine lv_iconst (v := (-1)) hx hb dL_hangs_363 (by decide) ?_
        refine lv_istore (lv' := [(14, .int (-1)), (13, .int (nI 0)), (12, .int (nI 0)), (11, .int (nI 0)), (10, .int (nI 0)), (9, .int (nI 1)), (8, .int (nI ((wonF g (T g) th n).toNat))), (7, .int (nI (seenF g (T g) th n))), (6, .int (bst (wnP g th) n)), (5, .int (nI (cnt (wnP g th) n))), (4, .int (nI (eIn g th 14))), (3, .int (nI th)), (2, .int (nI (trC g th))), (1, .int (nI n)), (0, .ref (z.1 0))]) hx hb dL_hangs_364 hl (by decide) rfl (fun ls hl => ?_)
        refine lv_iconst (v := (nI 0)) hx hb dL_hangs_366 (by decide) ?_
        refine lv_istore (lv' := [(15, .int (nI 0)), (14, .int (-1)), (13, .int (nI 0)), (12, .int (nI 0)), (11, .int (nI 0)), (10, .int (nI 0)), (9, .int (nI 1)), (8, .int (nI ((wonF g (T g) th n).toNat))), (7, .int (nI (seenF g (T g) th n))), (6, .int (bst (wnP g th) n)), (5, .int (nI (cnt (wnP g th) n))), (4, .int (nI (eIn g th 14))), (3, .int (nI th)), (2, .int (nI (trC g th))), (1, .int (nI n)), (0, .ref (z.1 0))]) hx hb dL_hangs_367 hl (by decide) rfl (fun ls hl => ?_)
        have LP369 : ∀ (fu : Nat) (t1 : Nat) (ht1 : t1 ≤ trC g th), (trC g th - t1) < fu → ∀ (w : tST), OKW n th mv g k w → ∀ (H : Heap) (locs : List Loc), va_P Γ.1 vwCl (LW Γ z w) H → va_D A (LW Γ z w) → va_S A st.heap H locs → ∀ (ls : Array Slot), lv_has ls 19 [(15, .int (nI t1)), (14, .int (bfT g th t1)), (13, .int (nI (smT (fun S => cnM (miQ g th 14 S) 14 14) g th t1))), (12, .int (nI (clN g (trA g th) 14 t1))), (11, .int (nI (mxS g th t1))), (10, .int (nI (sd th (trL g th t1)))), (9, .int (nI 1)), (8, .int (nI ((wonF g (T g) th n).toNat))), (7, .int (nI (seenF g (T g) th n))), (6, .int (bst (wnP g th) n)), (5, .int (nI (cnt (wnP g th) n))), (4, .int (nI (eIn g th 14))), (3, .int (nI th)), (2, .int (nI (trC g th))), (1, .int (nI n)), (0, .ref (z.1 0))] → W p l ev R st mi args below meth cd H locs 2 12 Q (F0 mi 369 ls []) := by
          intro fu
          induction fu with
          | zero => intro t1 ht1 hfu; exact absurd hfu (Nat.not_lt_zero _)
          | succ fu ih369 =>
            intro t1 ht1 hfu w h H locs hP hD hS ls hl
            refine lv_iload hx hb dL_hangs_369 (lv_at hl 0 rfl) ?_
            refine lv_iload_n hx hb dL_hangs_371 rfl (lv_at hl 13 rfl) ?_
            refine nb_icmp_ge (tgt := 618) hx hb (by first | omega | assumption) (by first | omega | assumption) dL_hangs_372 (by decide) (fun c_372 => ?_) (fun c_372 => ?_)
            · skip
              have he9 : trC g th = t1 := by omega
              subst he9
              refine lv_iload hx hb dL_hangs_618 (lv_at hl 6 rfl) ?_
              refine nb_if_eq (tgt := 793) hx hb (by omega) dL_hangs_620 (by decide) (fun c_620 => by exfalso; omega) (fun c_620 => ?_)
              refine lv_iload hx hb dL_hangs_623 (lv_at hl 5 rfl) ?_
              refine lv_iload_n hx hb dL_hangs_625 rfl (lv_at hl 12 rfl) ?_
              refine nb_icmp_ne (tgt := 793) hx hb (Nat.lt_trans (sd_14 _ hw14) (by decide)) (by omega) dL_hangs_626 (by decide) (fun c_626 => by exfalso; exact c_626 (all_end hw14)) (fun c_626 => ?_)
              refine lv_iload_n hx hb dL_hangs_629 rfl (lv_at hl 12 rfl) ?_
              refine ro_fin (va_runS (As := [.int (nI th)]) (rest := []) ⟨hx, hb, hml, hown, hts⟩ (c_L_bits l Γ _ th (hw14)) (kcwS 1 hts kv_L_bits mw_463 (rm_le hR (Nat.le_of_ble_eq_true rfl) (Nat.le_of_ble_eq_true rfl))) (kPc_S hK) rfl rfl hl.1 rfl (lv_room (Nat.le_of_ble_eq_true rfl)) dL_hangs_630 (by subst hR; exact ⟨Nat.le_of_ble_eq_true rfl, Nat.le_of_ble_eq_true rfl⟩)) hS (fun locs hS => ?_)
              refine lv_aload_n hx hb dL_hangs_633 rfl (lv_at hl 15 rfl) ?_
              refine lv_iconst (v := (nI 1)) hx hb dL_hangs_634 (by decide) ?_
              refine wy_fin (vx_runSW (As := [.ref (z.1 0), .int (nI 1)]) (rest := [.int (nI (pc th))]) ⟨hx, hb, hml, hown, hts⟩ (d_L_count_a l Γ z w h 1 (by decide)) (kcwSW 2 hts kw_L_count mw_454 (rm_le hR (Nat.le_of_ble_eq_true rfl) (Nat.le_of_ble_eq_true rfl))) (kPy_S hK hP hD hXS hXN hS) rfl rfl hl.1 rfl (lv_room (Nat.le_of_ble_eq_true rfl)) dL_hangs_635 (by subst hR; exact ⟨Nat.le_of_ble_eq_true rfl, Nat.le_of_ble_eq_true rfl⟩)) hP hD hS (fun r w H locs hw hP hD hS => ?_)
              obtain ⟨rfl, h⟩ := hw
              refine tp_i (y := (nI (pc th))) (rfl) ?_
              refine nb_icmp_ne (tgt := 793) hx hb (Nat.lt_of_le_of_lt (pc_le _) (by decide)) (Nat.lt_of_le_of_lt (pc_le _) (by decide)) dL_hangs_638 (by decide) (fun c_638 => by exfalso; exact c_638 rfl) (fun c_638 => ?_)
              have hev := even_e hfg hw14
              have hel := eIn_le g th 14
              have hpl := pc_le th
              have hcl := clN_le g (trA g th) 14 (trC g th)
              have hct := cnt_le (wnP g th) n
              refine lv_iload hx hb dL_hangs_641 (lv_at hl 11 rfl) ?_
              refine lv_iconst (v := (nI 2)) hx hb dL_hangs_643 (by decide) ?_
              refine lv_aload_n hx hb dL_hangs_644 rfl (lv_at hl 15 rfl) ?_
              refine lv_iconst (v := (nI 2)) hx hb dL_hangs_645 (by decide) ?_
              refine wy_fin (vx_runSW (As := [.ref (z.1 0), .int (nI 2)]) (rest := [.int (nI 2), .int (nI (eIn g th 14))]) ⟨hx, hb, hml, hown, hts⟩ (d_L_count_a l Γ z w h 2 (by decide)) (kcwSW 2 hts kw_L_count mw_454 (rm_le hR (Nat.le_of_ble_eq_true rfl) (Nat.le_of_ble_eq_true rfl))) (kPy_S hK hP hD hXS hXN hS) rfl rfl hl.1 rfl (lv_room (Nat.le_of_ble_eq_true rfl)) dL_hangs_646 (by subst hR; exact ⟨Nat.le_of_ble_eq_true rfl, Nat.le_of_ble_eq_true rfl⟩)) hP hD hS (fun r w H locs hw hP hD hS => ?_)
              obtain ⟨rfl, h⟩ := hw
              refine tp_i (y := (nI (eIn g th 14 / 2))) (rfl) ?_
              refine lv_imul hx hb dL_hangs_649 ?_
              refine tp_i (y := (nI (2 * (eIn g th 14 / 2)))) (pk_mul _ _) ?_
              refine nb_icmp_ne (tgt := 793) hx hb (by omega) (by omega) dL_hangs_650 (by decide) (fun c_650 => by exfalso; exact c_650 hev.1.symm) (fun c_650 => ?_)
              refine lv_aload_n hx hb dL_hangs_653 rfl (lv_at hl 15 rfl) ?_
              refine lv_iconst (v := (nI 2)) hx hb dL_hangs_654 (by decide) ?_
              refine wy_fin (vx_runSW (As := [.ref (z.1 0), .int (nI 2)]) (rest := []) ⟨hx, hb, hml, hown, hts⟩ (d_L_count_a l Γ z w h 2 (by decide)) (kcwSW 2 hts kw_L_count mw_454 (rm_le hR (Nat.le_of_ble_eq_true rfl) (Nat.le_of_ble_eq_true rfl))) (kPy_S hK hP hD hXS hXN hS) rfl rfl hl.1 rfl (lv_room (Nat.le_of_ble_eq_true rfl)) dL_hangs_655 (by subst hR; exact ⟨Nat.le_of_ble_eq_true rfl, Nat.le_of_ble_eq_true rfl⟩)) hP hD hS (fun r w H locs hw hP hD hS => ?_)
              obtain ⟨rfl, h⟩ := hw
              refine tp_i (y := (nI (eIn g th 14 / 2))) (rfl) ?_
              refine lv_iload_n hx hb dL_hangs_658 rfl (lv_at hl 13 rfl) ?_
              refine lv_iadd hx hb dL_hangs_659 ?_
              refine tp_i (y := (nI ((eIn g th 14 / 2) + (trC g th)))) (nI_add _ _) ?_
              refine lv_aload_n hx hb dL_hangs_660 rfl (lv_at hl 15 rfl) ?_
              refine lv_iconst (v := (nI 1)) hx hb dL_hangs_661 (by decide) ?_
              refine wy_fin (vx_runSW (As := [.ref (z.1 0), .int (nI 1)]) (rest := [.int (nI ((eIn g th 14 / 2) + (trC g th)))]) ⟨hx, hb, hml, hown, hts⟩ (d_L_count_a l Γ z w h 1 (by decide)) (kcwSW 2 hts kw_L_count mw_454 (rm_le hR (Nat.le_of_ble_eq_true rfl) (Nat.le_of_ble_eq_true rfl))) (kPy_S hK hP hD hXS hXN hS) rfl rfl hl.1 rfl (lv_room (Nat.le_of_ble_eq_true rfl)) dL_hangs_662 (by subst hR; exact ⟨Nat.le_of_ble_eq_true rfl, Nat.le_of_ble_eq_true rfl⟩)) hP hD hS (fun r w H locs hw hP hD hS => ?_)
              obtain ⟨rfl, h⟩ := hw
              refine tp_i (y := (nI (pc th))) (rfl) ?_
              refine nb_icmp_ne (tgt := 793) hx hb (by omega) (by omega) dL_hangs_665 (by decide) (fun c_665 => by exfalso; exact c_665 hev.2) (fun c_665 => ?_)
              refine lv_iload hx hb dL_hangs_668 (lv_at hl 3 rfl) ?_
              refine lv_aload_n hx hb dL_hangs_670 rfl (lv_at hl 15 rfl) ?_
              refine lv_iconst (v := (nI 4)) hx hb dL_hangs_671 (by decide) ?_
              refine wy_fin (vx_runSW (As := [.ref (z.1 0), .int (nI 4)]) (rest := [.int (nI (clN g (trA g th) 14 (trC g th)))]) ⟨hx, hb, hml, hown, hts⟩ (d_L_count_a l Γ z w h 4 (by decide)) (kcwSW 2 hts kw_L_count mw_454 (rm_le hR (Nat.le_of_ble_eq_true rfl) (Nat.le_of_ble_eq_true rfl))) (kPy_S hK hP hD hXS hXN hS) rfl rfl hl.1 rfl (lv_room (Nat.le_of_ble_eq_true rfl)) dL_hangs_672 (by subst hR; exact ⟨Nat.le_of_ble_eq_true rfl, Nat.le_of_ble_eq_true rfl⟩)) hP hD hS (fun r w H locs hw hP hD hS => ?_)
              obtain ⟨rfl, h⟩ := hw
              refine tp_i (y := (nI (clN g (trA g th) 14 (trC g th)))) (rfl) ?_
              refine nb_icmp_ne (tgt := 793) hx hb (by omega) (by omega) dL_hangs_675 (by decide) (fun c_675 => by exfalso; exact c_675 rfl) (fun c_675 => ?_)
              refine lv_iload hx hb dL_hangs_678 (lv_at hl 4 rfl) ?_
              refine lv_aload_n hx hb dL_hangs_680 rfl (lv_at hl 15 rfl) ?_
              refine lv_bipush (v := (nI 6)) hx hb dL_hangs_681 (by decide) ?_
              refine wy_fin (vx_runSW (As := [.ref (z.1 0), .int (nI 6)]) (rest := [.int (nI (mxS g th (trC g th)))]) ⟨hx, hb, hml, hown, hts⟩ (d_L_count_a l Γ z w h 6 (by decide)) (kcwSW 2 hts kw_L_count mw_454 (rm_le hR (Nat.le_of_ble_eq_true rfl) (Nat.le_of_ble_eq_true rfl))) (kPy_S hK hP hD hXS hXN hS) rfl rfl hl.1 rfl (lv_room (Nat.le_of_ble_eq_true rfl)) dL_hangs_683 (by subst hR; exact ⟨Nat.le_of_ble_eq_true rfl, Nat.le_of_ble_eq_true rfl⟩)) hP hD hS (fun r w H locs hw hP hD hS => ?_)
              obtain ⟨rfl, h⟩ := hw
              refine tp_i (y := (nI (mxS g th (trC g th)))) (rfl) ?_
              refine nb_icmp_ne (tgt := 793) hx hb (Nat.lt_trans (mxS_16 _ _ _) (by decide)) (Nat.lt_trans (mxS_16 _ _ _) (by decide)) dL_hangs_686 (by decide) (fun c_686 => by exfalso; exact c_686 rfl) (fun c_686 => ?_)
              refine lv_iload hx hb dL_hangs_689 (lv_at hl 4 rfl) ?_
              refine lv_aload_n hx hb dL_hangs_691 rfl (lv_at hl 15 rfl) ?_
              refine lv_iconst (v := (nI 5)) hx hb dL_hangs_692 (by decide) ?_
              refine wy_fin (vx_runSW (As := [.ref (z.1 0), .int (nI 5)]) (rest := [.int (nI (mxS g th (trC g th)))]) ⟨hx, hb, hml, hown, hts⟩ (d_L_count_a l Γ z w h 5 (by decide)) (kcwSW 2 hts kw_L_count mw_454 (rm_le hR (Nat.le_of_ble_eq_true rfl) (Nat.le_of_ble_eq_true rfl))) (kPy_S hK hP hD hXS hXN hS) rfl rfl hl.1 rfl (lv_room (Nat.le_of_ble_eq_true rfl)) dL_hangs_693 (by subst hR; exact ⟨Nat.le_of_ble_eq_true rfl, Nat.le_of_ble_eq_true rfl⟩)) hP hD hS (fun r w H locs hw hP hD hS => ?_)
              obtain ⟨rfl, h⟩ := hw
              refine tp_i (y := (nI (V g th))) (rfl) ?_
              refine nb_icmp_ne (tgt := 793) hx hb (Nat.lt_trans (mxS_16 _ _ _) (by decide)) (Nat.lt_trans (V_16 _ _) (by decide)) dL_hangs_696 (by decide) (fun c_696 => by exfalso; exact c_696 (mxS_all hfg.2.1 hw14)) (fun c_696 => ?_)
              refine lv_iload hx hb dL_hangs_699 (lv_at hl 10 rfl) ?_
              refine lv_aload_n hx hb dL_hangs_701 rfl (lv_at hl 15 rfl) ?_
              refine lv_bipush (v := (nI 10)) hx hb dL_hangs_702 (by decide) ?_
              refine wy_fin (vx_runSW (As := [.ref (z.1 0), .int (nI 10)]) (rest := [.int (nI (cnt (wnP g th) n))]) ⟨hx, hb, hml, hown, hts⟩ (d_L_count_a l Γ z w h 10 (by decide)) (kcwSW 2 hts kw_L_count mw_454 (rm_le hR (Nat.le_of_ble_eq_true rfl) (Nat.le_of_ble_eq_true rfl))) (kPy_S hK hP hD hXS hXN hS) rfl rfl hl.1 rfl (lv_room (Nat.le_of_ble_eq_true rfl)) dL_hangs_704 (by subst hR; exact ⟨Nat.le_of_ble_eq_true rfl, Nat.le_of_ble_eq_true rfl⟩)) hP hD hS (fun r w H locs hw hP hD hS => ?_)
              obtain ⟨rfl, h⟩ := hw
              refine tp_i (y := (nI (cnt (wnP g th) n))) (rfl) ?_
              refine nb_icmp_ne (tgt := 793) hx hb (by omega) (by omega) dL_hangs_707 (by decide) (fun c_707 => by exfalso; exact c_707 rfl) (fun c_707 => ?_)
              refine lv_aload_n hx hb dL_hangs_710 rfl (lv_at hl 15 rfl) ?_
              refine wy_fin (va_runV (As := []) (rest := []) ⟨hx, hb, hml, hown, hts⟩ (d_X6_best l Γ z w h) (kcwV 0 hts kv_X6_best mw_467 (rm_le hR (Nat.le_of_ble_eq_true rfl) (Nat.le_of_ble_eq_true rfl))) (kPy_V hK (va_recv hK.1 hP (ci := 6) (q0 := 0) rfl rfl) hP hD hXS hXN hS) rfl rfl hl.1 rfl (lv_room (Nat.le_of_ble_eq_true rfl)) dL_hangs_711 (by subst hR; exact ⟨Nat.le_of_ble_eq_true rfl, Nat.le_of_ble_eq_true rfl⟩)) hP hD hS (fun r w H locs hw hP hD hS => ?_)
              obtain ⟨rfl, h⟩ := hw
              refine tp_i (y := (bst (wnP g th) n)) (rfl) ?_
              refine lv_iload hx hb dL_hangs_714 (lv_at hl 9 rfl) ?_
              refine lv_icmp_ne (tgt := 793) hx hb dL_hangs_716 (by decide) (fun c_716 => by exfalso; exact c_716 rfl) (fun c_716 => ?_)
              have CT768 : ∀ (w : tST), OKW n th mv g k w → ∀ (H : Heap) (locs : List Loc), va_P Γ.1 vwCl (LW Γ z w) H → va_D A (LW Γ z w) → va_S A st.heap H locs → ∀ (ls : Array Slot), lv_has ls 19 [(15, .int (nI (trC g th))), (14, .int (bfT g th (trC g th))), (13, .int (nI (smT (fun S => cnM (miQ g th 14 S) 14 14) g th (trC g th)))), (12, .int (nI (clN g (trA g th) 14 (trC g th)))), (11, .int (nI (mxS g th (trC g th)))), (10, .int (nI (sd th (trL g th (trC g th))))), (9, .int (nI 1)), (8, .int (nI ((wonF g (T g) th n).toNat))), (7, .int (nI (seenF g (T g) th n))), (6, .int (bst (wnP g th) n)), (5, .int (nI (cnt (wnP g th) n))), (4, .int (nI (eIn g th 14))), (3, .int (nI th)), (2, .int (nI (trC g th))), (1, .int (nI n)), (0, .ref (z.1 0))] → W p l ev R st mi args below meth cd H locs 2 12 Q (F0 mi 768 ls []) := by
                intro  w h H locs hP hD hS ls hl
                refine lv_aload_n hx hb dL_hangs_768 rfl (lv_at hl 15 rfl) ?_
                refine lv_iload_n hx hb dL_hangs_769 rfl (lv_at hl 12 rfl) ?_
                refine wy_fin (vx_runSW (As := [.ref (z.1 0), .int (nI th)]) (rest := []) ⟨hx, hb, hml, hown, hts⟩ (d_L_value_a l Γ z w h th (sd_self th) (hw14)) (kcwSW 2 hts kw_L_value mw_465 (rm_le hR (Nat.le_of_ble_eq_true rfl) (Nat.le_of_ble_eq_true rfl))) (kPy_S hK hP hD hXS hXN hS) rfl rfl hl.1 rfl (lv_room (Nat.le_of_ble_eq_true rfl)) dL_hangs_770 (by subst hR; exact ⟨Nat.le_of_ble_eq_true rfl, Nat.le_of_ble_eq_true rfl⟩)) hP hD hS (fun r w H locs hw hP hD hS => ?_)
                obtain ⟨rfl, h⟩ := hw
                refine tp_i (y := (nI (V g th))) (rfl) ?_
                refine lv_aload_n hx hb dL_hangs_773 rfl (lv_at hl 15 rfl) ?_
                refine lv_iconst (v := (nI 5)) hx hb dL_hangs_774 (by decide) ?_
                refine wy_fin (vx_runSW (As := [.ref (z.1 0), .int (nI 5)]) (rest := [.int (nI (V g th))]) ⟨hx, hb, hml, hown, hts⟩ (d_L_count_a l Γ z w h 5 (by decide)) (kcwSW 2 hts kw_L_count mw_454 (rm_le hR (Nat.le_of_ble_eq_true rfl) (Nat.le_of_ble_eq_true rfl))) (kPy_S hK hP hD hXS hXN hS) rfl rfl hl.1 rfl (lv_room (Nat.le_of_ble_eq_true rfl)) dL_hangs_775 (by subst hR; exact ⟨Nat.le_of_ble_eq_true rfl, Nat.le_of_ble_eq_true rfl⟩)) hP hD hS (fun r w H locs hw hP hD hS => ?_)
                obtain ⟨rfl, h⟩ := hw
                refine tp_i (y := (nI (V g th))) (rfl) ?_
                refine nb_icmp_ne (tgt := 793) hx hb (Nat.lt_trans (V_16 _ _) (by decide)) (Nat.lt_trans (V_16 _ _) (by decide)) dL_hangs_778 (by decide) (fun c_778 => by exfalso; exact c_778 rfl) (fun c_778 => ?_)
                refine lv_aload_n hx hb dL_hangs_781 rfl (lv_at hl 15 rfl) ?_
                refine lv_iconst (v := (nI 0)) hx hb dL_hangs_782 (by decide) ?_
                refine wy_fin (vx_runSW (As := [.ref (z.1 0), .int (nI 0)]) (rest := []) ⟨hx, hb, hml, hown, hts⟩ (d_L_value_a l Γ z w h 0 (sd_0 th) (by decide)) (kcwSW 2 hts kw_L_value mw_465 (rm_le hR (Nat.le_of_ble_eq_true rfl) (Nat.le_of_ble_eq_true rfl))) (kPy_S hK hP hD hXS hXN hS) rfl rfl hl.1 rfl (lv_room (Nat.le_of_ble_eq_true rfl)) dL_hangs_783 (by subst hR; exact ⟨Nat.le_of_ble_eq_true rfl, Nat.le_of_ble_eq_true rfl⟩)) hP hD hS (fun r w H locs hw hP hD hS => ?_)
                obtain ⟨rfl, h⟩ := hw
                refine tp_i (y := (nI (V g 0))) (rfl) ?_
                refine nb_if_ne (tgt := 793) hx hb (Nat.lt_trans (V_16 _ _) (by decide)) dL_hangs_786 (by decide) (fun c_786 => by exfalso; exact c_786 (V_0 g)) (fun c_786 => ?_)
                refine lv_iconst (v := (nI 1)) hx hb dL_hangs_789 (by decide) ?_
                refine lv_goto (tgt := 794) hx hb dL_hangs_790 (by decide) ?_
                refine lv_istore (lv' := [(9, .int (nI 1)), (15, .int (nI (trC g th))), (14, .int (bfT g th (trC g th))), (13, .int (nI (smT (fun S => cnM (miQ g th 14 S) 14 14) g th (trC g th)))), (12, .int (nI (clN g (trA g th) 14 (trC g th)))), (11, .int (nI (mxS g th (trC g th)))), (10, .int (nI (sd th (trL g th (trC g th))))), (8, .int (nI ((wonF g (T g) th n).toNat))), (7, .int (nI (seenF g (T g) th n))), (6, .int (bst (wnP g th) n)), (5, .int (nI (cnt (wnP g th) n))), (4, .int (nI (eIn g th 14))), (3, .int (nI th)), (2, .int (nI (trC g th))), (1, .int (nI n)), (0, .ref (z.1 0))]) hx hb dL_hangs_794 hl (by decide) rfl (fun ls hl => ?_)
                refine lv_aload_n hx hb dL_hangs_796 rfl (lv_at hl 15 rfl) ?_
                refine lv_iconst (v := (nI 1)) hx hb dL_hangs_797 (by decide) ?_
                refine wy_fin (va_runV (As := [.int (nI 1)]) (rest := []) ⟨hx, hb, hml, hown, hts⟩ (d_X6_length l Γ z w h true) (kcwV 1 hts kv_X6_length mw_472 (rm_le hR (Nat.le_of_ble_eq_true rfl) (Nat.le_of_ble_eq_true rfl))) (kPy_V hK (va_recv hK.1 hP (ci := 6) (q0 := 0) rfl rfl) hP hD hXS hXN hS) rfl rfl hl.1 rfl (lv_room (Nat.le_of_ble_eq_true rfl)) dL_hangs_798 (by subst hR; exact ⟨Nat.le_of_ble_eq_true rfl, Nat.le_of_ble_eq_true rfl⟩)) hP hD hS (fun r w H locs hw hP hD hS => ?_)
                obtain ⟨rfl, h⟩ := hw
                refine tp_i (y := (nI (Sh g th))) (rfl) ?_
                refine lv_istore (lv' := [(15, .int (nI (Sh g th))), (9, .int (nI 1)), (14, .int (bfT g th (trC g th))), (13, .int (nI (smT (fun S => cnM (miQ g th 14 S) 14 14) g th (trC g th)))), (12, .int (nI (clN g (trA g th) 14 (trC g th)))), (11, .int (nI (mxS g th (trC g th)))), (10, .int (nI (sd th (trL g th (trC g th))))), (8, .int (nI ((wonF g (T g) th n).toNat))), (7, .int (nI (seenF g (T g) th n))), (6, .int (bst (wnP g th) n)), (5, .int (nI (cnt (wnP g th) n))), (4, .int (nI (eIn g th 14))), (3, .int (nI th)), (2, .int (nI (trC g th))), (1, .int (nI n)), (0, .ref (z.1 0))]) hx hb dL_hangs_801 hl (by decide) rfl (fun ls hl => ?_)
                refine lv_aload_n hx hb dL_hangs_803 rfl (lv_at hl 15 rfl) ?_
                refine lv_iconst (v := (nI 0)) hx hb dL_hangs_804 (by decide) ?_
                refine wy_fin (va_runV (As := [.int (nI 0)]) (rest := []) ⟨hx, hb, hml, hown, hts⟩ (d_X6_length l Γ z w h false) (kcwV 1 hts kv_X6_length mw_472 (rm_le hR (Nat.le_of_ble_eq_true rfl) (Nat.le_of_ble_eq_true rfl))) (kPy_V hK (va_recv hK.1 hP (ci := 6) (q0 := 0) rfl rfl) hP hD hXS hXN hS) rfl rfl hl.1 rfl (lv_room (Nat.le_of_ble_eq_true rfl)) dL_hangs_805 (by subst hR; exact ⟨Nat.le_of_ble_eq_true rfl, Nat.le_of_ble_eq_true rfl⟩)) hP hD hS (fun r w H locs hw hP hD hS => ?_)
                obtain ⟨rfl, h⟩ := hw
                refine tp_i (y := (nI (Lo g th))) (rfl) ?_
                refine lv_istore (lv' := [(16, .int (nI (Lo g th))), (15, .int (nI (Sh g th))), (9, .int (nI 1)), (14, .int (bfT g th (trC g th))), (13, .int (nI (smT (fun S => cnM (miQ g th 14 S) 14 14) g th (trC g th)))), (12, .int (nI (clN g (trA g th) 14 (trC g th)))), (11, .int (nI (mxS g th (trC g th)))), (10, .int (nI (sd th (trL g th (trC g th))))), (8, .int (nI ((wonF g (T g) th n).toNat))), (7, .int (nI (seenF g (T g) th n))), (6, .int (bst (wnP g th) n)), (5, .int (nI (cnt (wnP g th) n))), (4, .int (nI (eIn g th 14))), (3, .int (nI th)), (2, .int (nI (trC g th))), (1, .int (nI n)), (0, .ref (z.1 0))]) hx hb dL_hangs_808 hl (by decide) rfl (fun ls hl => ?_)
                refine lv_iload hx hb dL_hangs_810 (lv_at hl 2 rfl) ?_
                refine nb_if_eq (tgt := 909) hx hb (by omega) dL_hangs_812 (by decide) (fun c_812 => by exfalso; omega) (fun c_812 => ?_)
                refine lv_iload hx hb dL_hangs_815 (lv_at hl 1 rfl) ?_
                refine lv_iload hx hb dL_hangs_817 (lv_at hl 0 rfl) ?_
                refine nb_icmp_gt (tgt := 909) hx hb (Nat.lt_trans (Sh_16 _ _) (by decide)) (Nat.lt_trans (Lo_16 _ _) (by decide)) dL_hangs_819 (by decide) (fun c_819 => by exfalso; have q9 := Sh_Lo (g := g) 14 th hw14 (pc_le _); omega) (fun c_819 => ?_)
                refine lv_iload hx hb dL_hangs_822 (lv_at hl 0 rfl) ?_
                refine lv_aload_n hx hb dL_hangs_824 rfl (lv_at hl 16 rfl) ?_
                refine lv_iconst (v := (nI 1)) hx hb dL_hangs_825 (by decide) ?_
                refine wy_fin (vx_runSW (As := [.ref (z.1 0), .int (nI 1)]) (rest := [.int (nI (Lo g th))]) ⟨hx, hb, hml, hown, hts⟩ (d_L_count_a l Γ z w h 1 (by decide)) (kcwSW 2 hts kw_L_count mw_454 (rm_le hR (Nat.le_of_ble_eq_true rfl) (Nat.le_of_ble_eq_true rfl))) (kPy_S hK hP hD hXS hXN hS) rfl rfl hl.1 rfl (lv_room (Nat.le_of_ble_eq_true rfl)) dL_hangs_826 (by subst hR; exact ⟨Nat.le_of_ble_eq_true rfl, Nat.le_of_ble_eq_true rfl⟩)) hP hD hS (fun r w H locs hw hP hD hS => ?_)
                obtain ⟨rfl, h⟩ := hw
                refine tp_i (y := (nI (pc th))) (rfl) ?_
                refine nb_icmp_gt (tgt := 909) hx hb (Nat.lt_trans (Lo_16 _ _) (by decide)) (Nat.lt_of_le_of_lt (pc_le _) (by decide)) dL_hangs_829 (by decide) (fun c_829 => by exfalso; have q9 := Lo_le g hw14; omega) (fun c_829 => ?_)
                have CT854 : ∀ (w : tST), OKW n th mv g k w → ∀ (H : Heap) (locs : List Loc), va_P Γ.1 vwCl (LW Γ z w) H → va_D A (LW Γ z w) → va_S A st.heap H locs → ∀ (ls : Array Slot), lv_has ls 19 [(16, .int (nI (Lo g th))), (15, .int (nI (Sh g th))), (9, .int (nI 1)), (14, .int (bfT g th (trC g th))), (13, .int (nI (smT (fun S => cnM (miQ g th 14 S) 14 14) g th (trC g th)))), (12, .int (nI (clN g (trA g th) 14 (trC g th)))), (11, .int (nI (mxS g th (trC g th)))), (10, .int (nI (sd th (trL g th (trC g th))))), (8, .int (nI ((wonF g (T g) th n).toNat))), (7, .int (nI (seenF g (T g) th n))), (6, .int (bst (wnP g th) n)), (5, .int (nI (cnt (wnP g th) n))), (4, .int (nI (eIn g th 14))), (3, .int (nI th)), (2, .int (nI (trC g th))), (1, .int (nI n)), (0, .ref (z.1 0))] → W p l ev R st mi args below meth cd H locs 2 12 Q (F0 mi 854 ls []) := by
                  intro  w h H locs hP hD hS ls hl
                  have hs16 := Sh_16 g th
                  have ho16 := Lo_16 g th
                  refine lv_iload hx hb dL_hangs_854 (lv_at hl 1 rfl) ?_
                  refine lv_iload_n hx hb dL_hangs_856 rfl (lv_at hl 14 rfl) ?_
                  refine lv_bipush (v := (nI 7)) hx hb dL_hangs_857 (by decide) ?_
                  refine lv_imul hx hb dL_hangs_859 ?_
                  refine tp_i (y := (nI ((trC g th) * 7))) (pk_mul _ _) ?_
                  refine nb_icmp_gt (tgt := 909) hx hb (by omega) (by omega) dL_hangs_860 (by decide) (fun c_860 => by exfalso; have q9 := Sh_tr hfg hw14; omega) (fun c_860 => ?_)
                  refine lv_iload hx hb dL_hangs_863 (lv_at hl 0 rfl) ?_
                  refine lv_iload_n hx hb dL_hangs_865 rfl (lv_at hl 14 rfl) ?_
                  refine nb_icmp_lt (tgt := 909) hx hb (by omega) (by omega) dL_hangs_866 (by decide) (fun c_866 => by exfalso; have q9 := Lo_tr hfg hw14; omega) (fun c_866 => ?_)
                  have CT885 : ∀ (w : tST), OKW n th mv g k w → ∀ (H : Heap) (locs : List Loc), va_P Γ.1 vwCl (LW Γ z w) H → va_D A (LW Γ z w) → va_S A st.heap H locs → ∀ (ls : Array Slot), lv_has ls 19 [(16, .int (nI (Lo g th))), (15, .int (nI (Sh g th))), (9, .int (nI 1)), (14, .int (bfT g th (trC g th))), (13, .int (nI (smT (fun S => cnM (miQ g th 14 S) 14 14) g th (trC g th)))), (12, .int (nI (clN g (trA g th) 14 (trC g th)))), (11, .int (nI (mxS g th (trC g th)))), (10, .int (nI (sd th (trL g th (trC g th))))), (8, .int (nI ((wonF g (T g) th n).toNat))), (7, .int (nI (seenF g (T g) th n))), (6, .int (bst (wnP g th) n)), (5, .int (nI (cnt (wnP g th) n))), (4, .int (nI (eIn g th 14))), (3, .int (nI th)), (2, .int (nI (trC g th))), (1, .int (nI n)), (0, .ref (z.1 0))] → W p l ev R st mi args below meth cd H locs 2 12 Q (F0 mi 885 ls []) := by
                    intro  w h H locs hP hD hS ls hl
                    have hms := mir_sum hfg hw14
                    have hmm := smM_le hfg hw14 (trC g th) (Nat.le_refl _)
                    refine lv_aload_n hx hb dL_hangs_885 rfl (lv_at hl 16 rfl) ?_
                    refine lv_iload hx hb dL_hangs_886 (lv_at hl 4 rfl) ?_
                    refine wy_fin (vx_runSW (As := [.ref (z.1 0), .int (nI (smT (fun S => cnM (miQ g th 14 S) 14 14) g th (trC g th)))]) (rest := []) ⟨hx, hb, hml, hown, hts⟩ (d_L_mirror_a l Γ z w h (nI (smT (fun S => cnM (miQ g th 14 S) 14 14) g th (trC g th))) (nI_pos (by omega))) (kcwSW 2 hts kw_L_mirror mw_475 (rm_le hR (Nat.le_of_ble_eq_true rfl) (Nat.le_of_ble_eq_true rfl))) (kPy_S hK hP hD hXS hXN hS) rfl rfl hl.1 rfl (lv_room (Nat.le_of_ble_eq_true rfl)) dL_hangs_888 (by subst hR; exact ⟨Nat.le_of_ble_eq_true rfl, Nat.le_of_ble_eq_true rfl⟩)) hP hD hS (fun r w H locs hw hP hD hS => ?_)
                    obtain ⟨rfl, h⟩ := hw
                    refine tp_i (y := (-1)) (mir_no hth hn0 (by omega) (Nat.le_of_eq hms.symm)) ?_
                    refine lv_iconst (v := (-1)) hx hb dL_hangs_891 (by decide) ?_
                    refine lv_icmp_ne (tgt := 909) hx hb dL_hangs_892 (by decide) (fun c_892 => by exfalso; exact c_892 rfl) (fun c_892 => ?_)
                    refine lv_aload_n hx hb dL_hangs_895 rfl (lv_at hl 16 rfl) ?_
                    refine lv_iconst (v := (-1)) hx hb dL_hangs_896 (by decide) ?_
                    refine wy_fin (vx_runSW (As := [.ref (z.1 0), .int (-1)]) (rest := []) ⟨hx, hb, hml, hown, hts⟩ (d_L_mirror_x l hls Γ z w h (-1) (by decide)) (kcwSW 2 hts kw_L_mirror mw_475 (rm_le hR (Nat.le_of_ble_eq_true rfl) (Nat.le_of_ble_eq_true rfl))) (kPy_S hK hP hD hXS hXN hS) rfl rfl hl.1 rfl (lv_room (Nat.le_of_ble_eq_true rfl)) dL_hangs_897 (by subst hR; exact ⟨Nat.le_of_ble_eq_true rfl, Nat.le_of_ble_eq_true rfl⟩)) hP hD hS (fun r w H locs hw hP hD hS => ?_)
                    obtain ⟨rfl, e9⟩ := hw
                    rw [← e9] at h
                    refine tp_i (y := (-2000001)) (rfl) ?_
                    refine lv_ldc (v := (-2000001)) hx hb hown (hts _ mw_369) dL_hangs_900 ?_
                    refine lv_icmp_ne (tgt := 909) hx hb dL_hangs_902 (by decide) (fun c_902 => by exfalso; exact c_902 rfl) (fun c_902 => ?_)
                    refine lv_iconst (v := (nI 1)) hx hb dL_hangs_905 (by decide) ?_
                    refine lv_goto (tgt := 910) hx hb dL_hangs_906 (by decide) ?_
                    exact hret w hP hS (⟨rfl, h⟩) (fun q9 => ⟨true, rfl⟩) dL_hangs_910
                  have hms := mir_sum hfg hw14
                  have hmm := smM_le hfg hw14 (trC g th) (Nat.le_refl _)
                  refine lv_iload hx hb dL_hangs_869 (lv_at hl 4 rfl) ?_
                  refine nb_if_eq (tgt := 885) hx hb (by omega) dL_hangs_871 (by decide) (fun c_871 => ?_) (fun c_871 => ?_)
                  · skip
                    exact CT885   _ h _ _ hP hD hS ls (lv_sub hl [0, 1, 2, 3, 4, 5, 6, 7, 8, 9, 10, 11, 12, 13, 14, 15, 16] rfl)
                  · skip
                    refine lv_aload_n hx hb dL_hangs_874 rfl (lv_at hl 16 rfl) ?_
                    refine lv_iload hx hb dL_hangs_875 (lv_at hl 4 rfl) ?_
                    refine lv_iconst (v := (nI 1)) hx hb dL_hangs_877 (by decide) ?_
                    refine lv_isub hx hb dL_hangs_878 ?_
                    refine tp_i (y := (nI ((smT (fun S => cnM (miQ g th 14 S) 14 14) g th (trC g th)) - 1))) (ni_sub (by omega)) ?_
                    refine wy_fin (vx_runSW (As := [.ref (z.1 0), .int (nI ((smT (fun S => cnM (miQ g th 14 S) 14 14) g th (trC g th)) - 1))]) (rest := []) ⟨hx, hb, hml, hown, hts⟩ (d_L_mirror_a l Γ z w h (nI ((smT (fun S => cnM (miQ g th 14 S) 14 14) g th (trC g th)) - 1)) (nI_pos (by omega))) (kcwSW 2 hts kw_L_mirror mw_475 (rm_le hR (Nat.le_of_ble_eq_true rfl) (Nat.le_of_ble_eq_true rfl))) (kPy_S hK hP hD hXS hXN hS) rfl rfl hl.1 rfl (lv_room (Nat.le_of_ble_eq_true rfl)) dL_hangs_879 (by subst hR; exact ⟨Nat.le_of_ble_eq_true rfl, Nat.le_of_ble_eq_true rfl⟩)) hP hD hS (fun r w H locs hw hP hD hS => ?_)
                    obtain ⟨rfl, h⟩ := hw
                    obtain ⟨a9, ha9, hm9⟩ := mir_hi (R := (smT (fun S => cnM (miQ g th 14 S) 14 14) g th (trC g th)) - 1) hth hn0 (by omega) (by rw [← hms]; omega)
                    refine tp_i (y := (nI a9)) (hm9) ?_
                    refine nb_if_lt (tgt := 909) hx hb (by omega) dL_hangs_882 (by decide) ?_
                    exact CT885   _ h _ _ hP hD hS ls (lv_sub hl [0, 1, 2, 3, 4, 5, 6, 7, 8, 9, 10, 11, 12, 13, 14, 15, 16] rfl)
                by_cases hz9 : th = 0
                · skip
                  refine lv_iload hx hb dL_hangs_832 (lv_at hl 1 rfl) ?_
                  refine nb_if_ne (tgt := 841) hx hb (Nat.lt_trans (Sh_16 _ _) (by decide)) dL_hangs_834 (by decide) (fun c_834 => by exfalso; exact c_834 ((Sh_z hw14).mpr hz9)) (fun c_834 => ?_)
                  refine lv_iconst (v := (nI 1)) hx hb dL_hangs_837 (by decide) ?_
                  refine lv_goto (tgt := 842) hx hb dL_hangs_838 (by decide) ?_
                  refine lv_iload_n hx hb dL_hangs_842 rfl (lv_at hl 13 rfl) ?_
                  refine nb_if_ne (tgt := 850) hx hb (by omega) dL_hangs_843 (by decide) (fun c_843 => by exfalso; exact c_843 hz9) (fun c_843 => ?_)
                  refine lv_iconst (v := (nI 1)) hx hb dL_hangs_846 (by decide) ?_
                  refine lv_goto (tgt := 851) hx hb dL_hangs_847 (by decide) ?_
                  refine nb_icmp_ne (tgt := 909) hx hb (by omega) (by omega) dL_hangs_851 (by decide) (fun c_851 => by exfalso; exact c_851 rfl) (fun c_851 => ?_)
                  exact CT854   _ h _ _ hP hD hS ls (lv_sub hl [0, 1, 2, 3, 4, 5, 6, 7, 8, 9, 10, 11, 12, 13, 14, 15, 16] rfl)
                · skip
                  refine lv_iload hx hb dL_hangs_832 (lv_at hl 1 rfl) ?_
                  refine nb_if_ne (tgt := 841) hx hb (Nat.lt_trans (Sh_16 _ _) (by decide)) dL_hangs_834 (by decide) (fun c_834 => ?_) (fun c_834 => by exfalso; exact hz9 ((Sh_z hw14).mp c_834))
                  refine lv_iconst (v := (nI 0)) hx hb dL_hangs_841 (by decide) ?_
                  refine lv_iload_n hx hb dL_hangs_842 rfl (lv_at hl 13 rfl) ?_
                  refine nb_if_ne (tgt := 850) hx hb (by omega) dL_hangs_843 (by decide) (fun c_843 => ?_) (fun c_843 => by exfalso; exact hz9 c_843)
                  refine lv_iconst (v := (nI 0)) hx hb dL_hangs_850 (by decide) ?_
                  refine nb_icmp_ne (tgt := 909) hx hb (by omega) (by omega) dL_hangs_851 (by decide) (fun c_851 => by exfalso; exact c_851 rfl) (fun c_851 => ?_)
                  exact CT854   _ h _ _ hP hD hS ls (lv_sub hl [0, 1, 2, 3, 4, 5, 6, 7, 8, 9, 10, 11, 12, 13, 14, 15, 16] rfl)
              refine lv_iload_n hx hb dL_hangs_719 rfl (lv_at hl 12 rfl) ?_
              refine nb_if_ne (tgt := 744) hx hb (by omega) dL_hangs_720 (by decide) (fun c_720 => ?_) (fun c_720 => ?_)
              · skip
                refine lv_aload_n hx hb dL_hangs_744 rfl (lv_at hl 15 rfl) ?_
                refine lv_iconst (v := (nI 5)) hx hb dL_hangs_745 (by decide) ?_
                refine wy_fin (vx_runSW (As := [.ref (z.1 0), .int (nI 5)]) (rest := []) ⟨hx, hb, hml, hown, hts⟩ (d_L_count_a l Γ z w h 5 (by decide)) (kcwSW 2 hts kw_L_count mw_454 (rm_le hR (Nat.le_of_ble_eq_true rfl) (Nat.le_of_ble_eq_true rfl))) (kPy_S hK hP hD hXS hXN hS) rfl rfl hl.1 rfl (lv_room (Nat.le_of_ble_eq_true rfl)) dL_hangs_746 (by subst hR; exact ⟨Nat.le_of_ble_eq_true rfl, Nat.le_of_ble_eq_true rfl⟩)) hP hD hS (fun r w H locs hw hP hD hS => ?_)
                obtain ⟨rfl, h⟩ := hw
                refine tp_i (y := (nI (V g th))) (rfl) ?_
                refine lv_iload hx hb dL_hangs_749 (lv_at hl 8 rfl) ?_
                refine ro_fin (va_runS (As := [.int (nI (seenF g (T g) th n))]) (rest := [.int (nI (V g th))]) ⟨hx, hb, hml, hown, hts⟩ (c_L_least l Γ _ (seenF g (T g) th n) (seen_lt _)) (kcwS 1 hts kv_L_least mw_470 (rm_le hR (Nat.le_of_ble_eq_true rfl) (Nat.le_of_ble_eq_true rfl))) (kPc_S hK) rfl rfl hl.1 rfl (lv_room (Nat.le_of_ble_eq_true rfl)) dL_hangs_751 (by subst hR; exact ⟨Nat.le_of_ble_eq_true rfl, Nat.le_of_ble_eq_true rfl⟩)) hS (fun locs hS => ?_)
                refine nb_icmp_ne (tgt := 793) hx hb (Nat.lt_trans (V_16 _ _) (by decide)) (by rw [← (V_mex hth hn0 c_720).1]; exact (Nat.lt_trans (V_16 _ _) (by decide))) dL_hangs_754 (by decide) (fun c_754 => by exfalso; exact c_754 (V_mex hth hn0 c_720).1) (fun c_754 => ?_)
                refine lv_aload_n hx hb dL_hangs_757 rfl (lv_at hl 15 rfl) ?_
                refine lv_bipush (v := (nI 7)) hx hb dL_hangs_758 (by decide) ?_
                refine wy_fin (vx_runSW (As := [.ref (z.1 0), .int (nI 7)]) (rest := []) ⟨hx, hb, hml, hown, hts⟩ (d_L_count_a l Γ z w h 7 (by decide)) (kcwSW 2 hts kw_L_count mw_454 (rm_le hR (Nat.le_of_ble_eq_true rfl) (Nat.le_of_ble_eq_true rfl))) (kPy_S hK hP hD hXS hXN hS) rfl rfl hl.1 rfl (lv_room (Nat.le_of_ble_eq_true rfl)) dL_hangs_760 (by subst hR; exact ⟨Nat.le_of_ble_eq_true rfl, Nat.le_of_ble_eq_true rfl⟩)) hP hD hS (fun r w H locs hw hP hD hS => ?_)
                obtain ⟨rfl, h⟩ := hw
                refine tp_i (y := (bI (Mi g th))) (rfl) ?_
                refine lv_iload hx hb dL_hangs_763 (lv_at hl 7 rfl) ?_
                refine lv_icmp_ne (tgt := 793) hx hb dL_hangs_765 (by decide) (fun c_765 => by exfalso; exact c_765 (by rw [(V_mex hth hn0 c_720).2]; cases wonF g (T g) th n <;> rfl)) (fun c_765 => ?_)
                exact CT768   _ h _ _ hP hD hS ls (lv_sub hl [0, 1, 2, 3, 4, 5, 6, 7, 8, 9, 10, 11, 12, 13, 14, 15] rfl)
              · skip
                refine lv_aload_n hx hb dL_hangs_723 rfl (lv_at hl 15 rfl) ?_
                refine lv_iconst (v := (nI 5)) hx hb dL_hangs_724 (by decide) ?_
                refine wy_fin (vx_runSW (As := [.ref (z.1 0), .int (nI 5)]) (rest := []) ⟨hx, hb, hml, hown, hts⟩ (d_L_count_a l Γ z w h 5 (by decide)) (kcwSW 2 hts kw_L_count mw_454 (rm_le hR (Nat.le_of_ble_eq_true rfl) (Nat.le_of_ble_eq_true rfl))) (kPy_S hK hP hD hXS hXN hS) rfl rfl hl.1 rfl (lv_room (Nat.le_of_ble_eq_true rfl)) dL_hangs_725 (by subst hR; exact ⟨Nat.le_of_ble_eq_true rfl, Nat.le_of_ble_eq_true rfl⟩)) hP hD hS (fun r w H locs hw hP hD hS => ?_)
                obtain ⟨rfl, h⟩ := hw
                refine tp_i (y := (nI (V g th))) (rfl) ?_
                refine nb_if_ne (tgt := 793) hx hb (Nat.lt_trans (V_16 _ _) (by decide)) dL_hangs_728 (by decide) (fun c_728 => by exfalso; exact c_728 (by rw [c_720]; exact V_0 g)) (fun c_728 => ?_)
                refine lv_aload_n hx hb dL_hangs_731 rfl (lv_at hl 15 rfl) ?_
                refine lv_bipush (v := (nI 7)) hx hb dL_hangs_732 (by decide) ?_
                refine wy_fin (vx_runSW (As := [.ref (z.1 0), .int (nI 7)]) (rest := []) ⟨hx, hb, hml, hown, hts⟩ (d_L_count_a l Γ z w h 7 (by decide)) (kcwSW 2 hts kw_L_count mw_454 (rm_le hR (Nat.le_of_ble_eq_true rfl) (Nat.le_of_ble_eq_true rfl))) (kPy_S hK hP hD hXS hXN hS) rfl rfl hl.1 rfl (lv_room (Nat.le_of_ble_eq_true rfl)) dL_hangs_734 (by subst hR; exact ⟨Nat.le_of_ble_eq_true rfl, Nat.le_of_ble_eq_true rfl⟩)) hP hD hS (fun r w H locs hw hP hD hS => ?_)
                obtain ⟨rfl, h⟩ := hw
                refine tp_i (y := (bI (Mi g th))) (rfl) ?_
                refine lv_iconst (v := (nI 1)) hx hb dL_hangs_737 (by decide) ?_
                refine lv_icmp_ne (tgt := 793) hx hb dL_hangs_738 (by decide) (fun c_738 => by exfalso; exact c_738 (by rw [c_720, Mi_0]; rfl)) (fun c_738 => ?_)
                refine lv_goto (tgt := 768) hx hb dL_hangs_741 (by decide) ?_
                exact CT768   _ h _ _ hP hD hS ls (lv_sub hl [0, 1, 2, 3, 4, 5, 6, 7, 8, 9, 10, 11, 12, 13, 14, 15] rfl)
            · skip
              refine lv_iload hx hb dL_hangs_375 (lv_at hl 6 rfl) ?_
              refine nb_if_eq (tgt := 618) hx hb (by omega) dL_hangs_377 (by decide) (fun c_377 => by exfalso; omega) (fun c_377 => ?_)
              have ho9 := trA_one hfg.2.1 hw14 (show t1 < trC g th by omega)
              have hs9 := trA_lt g th t1
              have hp9 := pow_14 (low_spec ho9.1 ho9.2.1).1
              have hal9 := alk_le g (trA g th) 14 t1
              have hal8 := alk_le g (trA g th) 14 (alk g (trA g th) 14 t1)
              refine lv_aload_n hx hb dL_hangs_380 rfl (lv_at hl 15 rfl) ?_
              refine lv_iload hx hb dL_hangs_381 (lv_at hl 0 rfl) ?_
              refine lv_iconst (v := (nI 0)) hx hb dL_hangs_383 (by decide) ?_
              refine wy_fin (vx_runSW (As := [.ref (z.1 0), .int (nI t1), .int (nI 0)]) (rest := []) ⟨hx, hb, hml, hown, hts⟩ (d_L_tree_a l Γ z w h t1 0 (by omega) (by decide)) (kcwSW 3 hts kw_L_treeOf mw_461 (rm_le hR (Nat.le_of_ble_eq_true rfl) (Nat.le_of_ble_eq_true rfl))) (kPy_S hK hP hD hXS hXN hS) rfl rfl hl.1 rfl (lv_room (Nat.le_of_ble_eq_true rfl)) dL_hangs_384 (by subst hR; exact ⟨Nat.le_of_ble_eq_true rfl, Nat.le_of_ble_eq_true rfl⟩)) hP hD hS (fun r w H locs hw hP hD hS => ?_)
              obtain ⟨rfl, h⟩ := hw
              refine tp_i (y := (nI (trA g th t1))) (rfl) ?_
              refine lv_istore (lv' := [(16, .int (nI (trA g th t1))), (15, .int (nI t1)), (14, .int (bfT g th t1)), (13, .int (nI (smT (fun S => cnM (miQ g th 14 S) 14 14) g th t1))), (12, .int (nI (clN g (trA g th) 14 t1))), (11, .int (nI (mxS g th t1))), (10, .int (nI (sd th (trL g th t1)))), (9, .int (nI 1)), (8, .int (nI ((wonF g (T g) th n).toNat))), (7, .int (nI (seenF g (T g) th n))), (6, .int (bst (wnP g th) n)), (5, .int (nI (cnt (wnP g th) n))), (4, .int (nI (eIn g th 14))), (3, .int (nI th)), (2, .int (nI (trC g th))), (1, .int (nI n)), (0, .ref (z.1 0))]) hx hb dL_hangs_387 hl (by decide) rfl (fun ls hl => ?_)
              refine lv_iload hx hb dL_hangs_389 (lv_at hl 0 rfl) ?_
              refine lv_iload hx hb dL_hangs_391 (lv_at hl 0 rfl) ?_
              refine lv_ineg hx hb dL_hangs_393 ?_
              refine lv_iand hx hb dL_hangs_394 ?_
              refine tp_i (y := (nI (2 ^ low (trA g th t1)))) (low_neg hs9 ho9.2.1) ?_
              refine lv_istore (lv' := [(17, .int (nI (2 ^ low (trA g th t1)))), (16, .int (nI (trA g th t1))), (15, .int (nI t1)), (14, .int (bfT g th t1)), (13, .int (nI (smT (fun S => cnM (miQ g th 14 S) 14 14) g th t1))), (12, .int (nI (clN g (trA g th) 14 t1))), (11, .int (nI (mxS g th t1))), (10, .int (nI (sd th (trL g th t1)))), (9, .int (nI 1)), (8, .int (nI ((wonF g (T g) th n).toNat))), (7, .int (nI (seenF g (T g) th n))), (6, .int (bst (wnP g th) n)), (5, .int (nI (cnt (wnP g th) n))), (4, .int (nI (eIn g th 14))), (3, .int (nI th)), (2, .int (nI (trC g th))), (1, .int (nI n)), (0, .ref (z.1 0))]) hx hb dL_hangs_395 hl (by decide) rfl (fun ls hl => ?_)
              refine lv_aload_n hx hb dL_hangs_397 rfl (lv_at hl 17 rfl) ?_
              refine lv_iload hx hb dL_hangs_398 (lv_at hl 2 rfl) ?_
              refine lv_iconst (v := (nI 3)) hx hb dL_hangs_400 (by decide) ?_
              refine wy_fin (vx_runSW (As := [.ref (z.1 0), .int (nI t1), .int (nI 3)]) (rest := []) ⟨hx, hb, hml, hown, hts⟩ (d_L_tree_a l Γ z w h t1 3 (by omega) (by decide)) (kcwSW 3 hts kw_L_treeOf mw_461 (rm_le hR (Nat.le_of_ble_eq_true rfl) (Nat.le_of_ble_eq_true rfl))) (kPy_S hK hP hD hXS hXN hS) rfl rfl hl.1 rfl (lv_room (Nat.le_of_ble_eq_true rfl)) dL_hangs_401 (by subst hR; exact ⟨Nat.le_of_ble_eq_true rfl, Nat.le_of_ble_eq_true rfl⟩)) hP hD hS (fun r w H locs hw hP hD hS => ?_)
              obtain ⟨rfl, h⟩ := hw
              refine tp_i (y := (nI (alk g (trA g th) 14 t1))) (rfl) ?_
              refine lv_istore (lv' := [(18, .int (nI (alk g (trA g th) 14 t1))), (17, .int (nI (2 ^ low (trA g th t1)))), (16, .int (nI (trA g th t1))), (15, .int (nI t1)), (14, .int (bfT g th t1)), (13, .int (nI (smT (fun S => cnM (miQ g th 14 S) 14 14) g th t1))), (12, .int (nI (clN g (trA g th) 14 t1))), (11, .int (nI (mxS g th t1))), (10, .int (nI (sd th (trL g th t1)))), (9, .int (nI 1)), (8, .int (nI ((wonF g (T g) th n).toNat))), (7, .int (nI (seenF g (T g) th n))), (6, .int (bst (wnP g th) n)), (5, .int (nI (cnt (wnP g th) n))), (4, .int (nI (eIn g th 14))), (3, .int (nI th)), (2, .int (nI (trC g th))), (1, .int (nI n)), (0, .ref (z.1 0))]) hx hb dL_hangs_404 hl (by decide) rfl (fun ls hl => ?_)
              refine lv_iload hx hb dL_hangs_406 (lv_at hl 2 rfl) ?_
              refine nb_if_le (tgt := 557) hx hb (by omega) dL_hangs_408 (by decide) (fun c_408 => by exfalso; exact ho9.2.1 c_408) (fun c_408 => ?_)
              refine lv_iload hx hb dL_hangs_411 (lv_at hl 2 rfl) ?_
              refine lv_iload hx hb dL_hangs_413 (lv_at hl 8 rfl) ?_
              refine lv_iand hx hb dL_hangs_415 ?_
              refine tp_i (y := (nI ((trA g th t1) &&& (sd th (trL g th t1))))) (ni_and _ _) ?_
              refine nb_if_ne (tgt := 557) hx hb (Nat.lt_trans (and_lt _ hs9) (by decide)) dL_hangs_416 (by decide) (fun c_416 => by exfalso; exact c_416 (all_0 hfg.2.1 hw14 t1)) (fun c_416 => ?_)
              refine lv_iload hx hb dL_hangs_419 (lv_at hl 1 rfl) ?_
              refine lv_iload hx hb dL_hangs_421 (lv_at hl 4 rfl) ?_
              refine lv_icmp_le (tgt := 557) hx hb dL_hangs_423 (by decide) (fun c_423 => by exfalso; exact bfT_lt hfg.2.1 hw14 (by omega) c_423) (fun c_423 => ?_)
              refine lv_aload_n hx hb dL_hangs_426 rfl (lv_at hl 18 rfl) ?_
              refine lv_iload hx hb dL_hangs_427 (lv_at hl 3 rfl) ?_
              refine lv_iconst (v := (nI 1)) hx hb dL_hangs_429 (by decide) ?_
              refine wy_fin (vx_runSW (As := [.ref (z.1 0), .int (nI t1), .int (nI 1)]) (rest := []) ⟨hx, hb, hml, hown, hts⟩ (d_L_tree_a l Γ z w h t1 1 (by omega) (by decide)) (kcwSW 3 hts kw_L_treeOf mw_461 (rm_le hR (Nat.le_of_ble_eq_true rfl) (Nat.le_of_ble_eq_true rfl))) (kPy_S hK hP hD hXS hXN hS) rfl rfl hl.1 rfl (lv_room (Nat.le_of_ble_eq_true rfl)) dL_hangs_430 (by subst hR; exact ⟨Nat.le_of_ble_eq_true rfl, Nat.le_of_ble_eq_true rfl⟩)) hP hD hS (fun r w H locs hw hP hD hS => ?_)
              obtain ⟨rfl, h⟩ := hw
              refine tp_i (y := (nI (pc (trA g th t1)))) (rfl) ?_
              refine lv_iload hx hb dL_hangs_433 (lv_at hl 2 rfl) ?_
              refine ro_fin (va_runS (As := [.int (nI (trA g th t1))]) (rest := [.int (nI (pc (trA g th t1)))]) ⟨hx, hb, hml, hown, hts⟩ (c_L_bits l Γ _ (trA g th t1) (hs9)) (kcwS 1 hts kv_L_bits mw_463 (rm_le hR (Nat.le_of_ble_eq_true rfl) (Nat.le_of_ble_eq_true rfl))) (kPc_S hK) rfl rfl hl.1 rfl (lv_room (Nat.le_of_ble_eq_true rfl)) dL_hangs_435 (by subst hR; exact ⟨Nat.le_of_ble_eq_true rfl, Nat.le_of_ble_eq_true rfl⟩)) hS (fun locs hS => ?_)
              refine nb_icmp_ne (tgt := 557) hx hb (Nat.lt_of_le_of_lt (pc_le _) (by decide)) (Nat.lt_of_le_of_lt (pc_le _) (by decide)) dL_hangs_438 (by decide) (fun c_438 => by exfalso; exact c_438 rfl) (fun c_438 => ?_)
              refine lv_aload_n hx hb dL_hangs_441 rfl (lv_at hl 18 rfl) ?_
              refine lv_iload hx hb dL_hangs_442 (lv_at hl 2 rfl) ?_
              refine wy_fin (vx_runSW (As := [.ref (z.1 0), .int (nI (trA g th t1))]) (rest := []) ⟨hx, hb, hml, hown, hts⟩ (d_L_value_a l Γ z w h (trA g th t1) (sd_sub0 (fun i9 h9 => trA_in hw14 h9)) (hs9)) (kcwSW 2 hts kw_L_value mw_465 (rm_le hR (Nat.le_of_ble_eq_true rfl) (Nat.le_of_ble_eq_true rfl))) (kPy_S hK hP hD hXS hXN hS) rfl rfl hl.1 rfl (lv_room (Nat.le_of_ble_eq_true rfl)) dL_hangs_444 (by subst hR; exact ⟨Nat.le_of_ble_eq_true rfl, Nat.le_of_ble_eq_true rfl⟩)) hP hD hS (fun r w H locs hw hP hD hS => ?_)
              obtain ⟨rfl, h⟩ := hw
              refine tp_i (y := (nI (V g (trA g th t1)))) (rfl) ?_
              refine lv_aload_n hx hb dL_hangs_447 rfl (lv_at hl 18 rfl) ?_
              refine lv_iload hx hb dL_hangs_448 (lv_at hl 3 rfl) ?_
              refine lv_iconst (v := (nI 2)) hx hb dL_hangs_450 (by decide) ?_
              refine wy_fin (vx_runSW (As := [.ref (z.1 0), .int (nI t1), .int (nI 2)]) (rest := [.int (nI (V g (trA g th t1)))]) ⟨hx, hb, hml, hown, hts⟩ (d_L_tree_a l Γ z w h t1 2 (by omega) (by decide)) (kcwSW 3 hts kw_L_treeOf mw_461 (rm_le hR (Nat.le_of_ble_eq_true rfl) (Nat.le_of_ble_eq_true rfl))) (kPy_S hK hP hD hXS hXN hS) rfl rfl hl.1 rfl (lv_room (Nat.le_of_ble_eq_true rfl)) dL_hangs_451 (by subst hR; exact ⟨Nat.le_of_ble_eq_true rfl, Nat.le_of_ble_eq_true rfl⟩)) hP hD hS (fun r w H locs hw hP hD hS => ?_)
              obtain ⟨rfl, h⟩ := hw
              refine tp_i (y := (nI (V g (trA g th t1)))) (rfl) ?_
              refine nb_icmp_ne (tgt := 557) hx hb (Nat.lt_trans (V_16 _ _) (by decide)) (Nat.lt_trans (V_16 _ _) (by decide)) dL_hangs_454 (by decide) (fun c_454 => by exfalso; exact c_454 rfl) (fun c_454 => ?_)
              refine lv_iload hx hb dL_hangs_457 (lv_at hl 0 rfl) ?_
              refine lv_iload hx hb dL_hangs_459 (lv_at hl 3 rfl) ?_
              refine nb_icmp_gt (tgt := 557) hx hb (by omega) (by omega) dL_hangs_461 (by decide) (fun c_461 => by exfalso; omega) (fun c_461 => ?_)
              refine lv_aload_n hx hb dL_hangs_464 rfl (lv_at hl 18 rfl) ?_
              refine lv_iload hx hb dL_hangs_465 (lv_at hl 0 rfl) ?_
              refine lv_iconst (v := (nI 3)) hx hb dL_hangs_467 (by decide) ?_
              refine wy_fin (vx_runSW (As := [.ref (z.1 0), .int (nI (alk g (trA g th) 14 t1)), .int (nI 3)]) (rest := []) ⟨hx, hb, hml, hown, hts⟩ (d_L_tree_a l Γ z w h (alk g (trA g th) 14 t1) 3 (by omega) (by decide)) (kcwSW 3 hts kw_L_treeOf mw_461 (rm_le hR (Nat.le_of_ble_eq_true rfl) (Nat.le_of_ble_eq_true rfl))) (kPy_S hK hP hD hXS hXN hS) rfl rfl hl.1 rfl (lv_room (Nat.le_of_ble_eq_true rfl)) dL_hangs_468 (by subst hR; exact ⟨Nat.le_of_ble_eq_true rfl, Nat.le_of_ble_eq_true rfl⟩)) hP hD hS (fun r w H locs hw hP hD hS => ?_)
              obtain ⟨rfl, h⟩ := hw
              refine tp_i (y := (nI (alk g (trA g th) 14 (alk g (trA g th) 14 t1)))) (rfl) ?_
              refine lv_iload hx hb dL_hangs_471 (lv_at hl 0 rfl) ?_
              refine nb_icmp_ne (tgt := 557) hx hb (by omega) (by omega) dL_hangs_473 (by decide) (fun c_473 => by exfalso; exact c_473 alk_alk) (fun c_473 => ?_)
              refine lv_aload_n hx hb dL_hangs_476 rfl (lv_at hl 18 rfl) ?_
              refine lv_iload hx hb dL_hangs_477 (lv_at hl 0 rfl) ?_
              refine lv_iconst (v := (nI 1)) hx hb dL_hangs_479 (by decide) ?_
              refine wy_fin (vx_runSW (As := [.ref (z.1 0), .int (nI (alk g (trA g th) 14 t1)), .int (nI 1)]) (rest := []) ⟨hx, hb, hml, hown, hts⟩ (d_L_tree_a l Γ z w h (alk g (trA g th) 14 t1) 1 (by omega) (by decide)) (kcwSW 3 hts kw_L_treeOf mw_461 (rm_le hR (Nat.le_of_ble_eq_true rfl) (Nat.le_of_ble_eq_true rfl))) (kPy_S hK hP hD hXS hXN hS) rfl rfl hl.1 rfl (lv_room (Nat.le_of_ble_eq_true rfl)) dL_hangs_480 (by subst hR; exact ⟨Nat.le_of_ble_eq_true rfl, Nat.le_of_ble_eq_true rfl⟩)) hP hD hS (fun r w H locs hw hP hD hS => ?_)
              obtain ⟨rfl, h⟩ := hw
              refine tp_i (y := (nI (pc (trA g th (alk g (trA g th) 14 t1))))) (rfl) ?_
              refine lv_aload_n hx hb dL_hangs_483 rfl (lv_at hl 18 rfl) ?_
              refine lv_iload hx hb dL_hangs_484 (lv_at hl 3 rfl) ?_
              refine lv_iconst (v := (nI 1)) hx hb dL_hangs_486 (by decide) ?_
              refine wy_fin (vx_runSW (As := [.ref (z.1 0), .int (nI t1), .int (nI 1)]) (rest := [.int (nI (pc (trA g th (alk g (trA g th) 14 t1))))]) ⟨hx, hb, hml, hown, hts⟩ (d_L_tree_a l Γ z w h t1 1 (by omega) (by decide)) (kcwSW 3 hts kw_L_treeOf mw_461 (rm_le hR (Nat.le_of_ble_eq_true rfl) (Nat.le_of_ble_eq_true rfl))) (kPy_S hK hP hD hXS hXN hS) rfl rfl hl.1 rfl (lv_room (Nat.le_of_ble_eq_true rfl)) dL_hangs_487 (by subst hR; exact ⟨Nat.le_of_ble_eq_true rfl, Nat.le_of_ble_eq_true rfl⟩)) hP hD hS (fun r w H locs hw hP hD hS => ?_)
              obtain ⟨rfl, h⟩ := hw
              refine tp_i (y := (nI (pc (trA g th t1)))) (rfl) ?_
              refine nb_icmp_ne (tgt := 557) hx hb (Nat.lt_of_le_of_lt (pc_le _) (by decide)) (Nat.lt_of_le_of_lt (pc_le _) (by decide)) dL_hangs_490 (by decide) (fun c_490 => by exfalso; exact c_490 (alk_same hfg hw14 (by omega)).1) (fun c_490 => ?_)
              refine lv_aload_n hx hb dL_hangs_493 rfl (lv_at hl 18 rfl) ?_
              refine lv_iload hx hb dL_hangs_494 (lv_at hl 0 rfl) ?_
              refine lv_iconst (v := (nI 2)) hx hb dL_hangs_496 (by decide) ?_
              refine wy_fin (vx_runSW (As := [.ref (z.1 0), .int (nI (alk g (trA g th) 14 t1)), .int (nI 2)]) (rest := []) ⟨hx, hb, hml, hown, hts⟩ (d_L_tree_a l Γ z w h (alk g (trA g th) 14 t1) 2 (by omega) (by decide)) (kcwSW 3 hts kw_L_treeOf mw_461 (rm_le hR (Nat.le_of_ble_eq_true rfl) (Nat.le_of_ble_eq_true rfl))) (kPy_S hK hP hD hXS hXN hS) rfl rfl hl.1 rfl (lv_room (Nat.le_of_ble_eq_true rfl)) dL_hangs_497 (by subst hR; exact ⟨Nat.le_of_ble_eq_true rfl, Nat.le_of_ble_eq_true rfl⟩)) hP hD hS (fun r w H locs hw hP hD hS => ?_)
              obtain ⟨rfl, h⟩ := hw
              refine tp_i (y := (nI (V g (trA g th (alk g (trA g th) 14 t1))))) (rfl) ?_
              refine lv_aload_n hx hb dL_hangs_500 rfl (lv_at hl 18 rfl) ?_
              refine lv_iload hx hb dL_hangs_501 (lv_at hl 3 rfl) ?_
              refine lv_iconst (v := (nI 2)) hx hb dL_hangs_503 (by decide) ?_
              refine wy_fin (vx_runSW (As := [.ref (z.1 0), .int (nI t1), .int (nI 2)]) (rest := [.int (nI (V g (trA g th (alk g (trA g th) 14 t1))))]) ⟨hx, hb, hml, hown, hts⟩ (d_L_tree_a l Γ z w h t1 2 (by omega) (by decide)) (kcwSW 3 hts kw_L_treeOf mw_461 (rm_le hR (Nat.le_of_ble_eq_true rfl) (Nat.le_of_ble_eq_true rfl))) (kPy_S hK hP hD hXS hXN hS) rfl rfl hl.1 rfl (lv_room (Nat.le_of_ble_eq_true rfl)) dL_hangs_504 (by subst hR; exact ⟨Nat.le_of_ble_eq_true rfl, Nat.le_of_ble_eq_true rfl⟩)) hP hD hS (fun r w H locs hw hP hD hS => ?_)
              obtain ⟨rfl, h⟩ := hw
              refine tp_i (y := (nI (V g (trA g th t1)))) (rfl) ?_
              refine nb_icmp_ne (tgt := 557) hx hb (Nat.lt_trans (V_16 _ _) (by decide)) (Nat.lt_trans (V_16 _ _) (by decide)) dL_hangs_507 (by decide) (fun c_507 => by exfalso; exact c_507 (alk_same hfg hw14 (by omega)).2.1) (fun c_507 => ?_)
              refine lv_aload_n hx hb dL_hangs_510 rfl (lv_at hl 18 rfl) ?_
              refine lv_iload hx hb dL_hangs_511 (lv_at hl 0 rfl) ?_
              refine lv_iconst (v := (nI 5)) hx hb dL_hangs_513 (by decide) ?_
              refine wy_fin (vx_runSW (As := [.ref (z.1 0), .int (nI (alk g (trA g th) 14 t1)), .int (nI 5)]) (rest := []) ⟨hx, hb, hml, hown, hts⟩ (d_L_tree_a l Γ z w h (alk g (trA g th) 14 t1) 5 (by omega) (by decide)) (kcwSW 3 hts kw_L_treeOf mw_461 (rm_le hR (Nat.le_of_ble_eq_true rfl) (Nat.le_of_ble_eq_true rfl))) (kPy_S hK hP hD hXS hXN hS) rfl rfl hl.1 rfl (lv_room (Nat.le_of_ble_eq_true rfl)) dL_hangs_514 (by subst hR; exact ⟨Nat.le_of_ble_eq_true rfl, Nat.le_of_ble_eq_true rfl⟩)) hP hD hS (fun r w H locs hw hP hD hS => ?_)
              obtain ⟨rfl, h⟩ := hw
              refine tp_i (y := (nI (lwA g (trA g th (alk g (trA g th) 14 t1)) 14))) (rfl) ?_
              refine lv_aload_n hx hb dL_hangs_517 rfl (lv_at hl 18 rfl) ?_
              refine lv_iload hx hb dL_hangs_518 (lv_at hl 3 rfl) ?_
              refine lv_iconst (v := (nI 5)) hx hb dL_hangs_520 (by decide) ?_
              refine wy_fin (vx_runSW (As := [.ref (z.1 0), .int (nI t1), .int (nI 5)]) (rest := [.int (nI (lwA g (trA g th (alk g (trA g th) 14 t1)) 14))]) ⟨hx, hb, hml, hown, hts⟩ (d_L_tree_a l Γ z w h t1 5 (by omega) (by decide)) (kcwSW 3 hts kw_L_treeOf mw_461 (rm_le hR (Nat.le_of_ble_eq_true rfl) (Nat.le_of_ble_eq_true rfl))) (kPy_S hK hP hD hXS hXN hS) rfl rfl hl.1 rfl (lv_room (Nat.le_of_ble_eq_true rfl)) dL_hangs_521 (by subst hR; exact ⟨Nat.le_of_ble_eq_true rfl, Nat.le_of_ble_eq_true rfl⟩)) hP hD hS (fun r w H locs hw hP hD hS => ?_)
              obtain ⟨rfl, h⟩ := hw
              refine tp_i (y := (nI (lwA g (trA g th t1) 14))) (rfl) ?_
              refine nb_icmp_ne (tgt := 557) hx hb (Nat.lt_of_le_of_lt (lwA_le _ _ _) (by decide)) (Nat.lt_of_le_of_lt (lwA_le _ _ _) (by decide)) dL_hangs_524 (by decide) (fun c_524 => by exfalso; exact c_524 (alk_same hfg hw14 (by omega)).2.2) (fun c_524 => ?_)
              refine lv_aload_n hx hb dL_hangs_527 rfl (lv_at hl 18 rfl) ?_
              refine lv_iload hx hb dL_hangs_528 (lv_at hl 3 rfl) ?_
              refine lv_iconst (v := (nI 5)) hx hb dL_hangs_530 (by decide) ?_
              refine wy_fin (vx_runSW (As := [.ref (z.1 0), .int (nI t1), .int (nI 5)]) (rest := []) ⟨hx, hb, hml, hown, hts⟩ (d_L_tree_a l Γ z w h t1 5 (by omega) (by decide)) (kcwSW 3 hts kw_L_treeOf mw_461 (rm_le hR (Nat.le_of_ble_eq_true rfl) (Nat.le_of_ble_eq_true rfl))) (kPy_S hK hP hD hXS hXN hS) rfl rfl hl.1 rfl (lv_room (Nat.le_of_ble_eq_true rfl)) dL_hangs_531 (by subst hR; exact ⟨Nat.le_of_ble_eq_true rfl, Nat.le_of_ble_eq_true rfl⟩)) hP hD hS (fun r w H locs hw hP hD hS => ?_)
              obtain ⟨rfl, h⟩ := hw
              refine tp_i (y := (nI (lwA g (trA g th t1) 14))) (rfl) ?_
              refine lv_iload hx hb dL_hangs_534 (lv_at hl 2 rfl) ?_
              refine ro_fin (va_runS (As := [.int (nI (trA g th t1))]) (rest := [.int (nI (lwA g (trA g th t1) 14))]) ⟨hx, hb, hml, hown, hts⟩ (c_L_bits l Γ _ (trA g th t1) (hs9)) (kcwS 1 hts kv_L_bits mw_463 (rm_le hR (Nat.le_of_ble_eq_true rfl) (Nat.le_of_ble_eq_true rfl))) (kPc_S hK) rfl rfl hl.1 rfl (lv_room (Nat.le_of_ble_eq_true rfl)) dL_hangs_536 (by subst hR; exact ⟨Nat.le_of_ble_eq_true rfl, Nat.le_of_ble_eq_true rfl⟩)) hS (fun locs hS => ?_)
              refine nb_icmp_ge (tgt := 557) hx hb (Nat.lt_of_le_of_lt (lwA_le _ _ _) (by decide)) (Nat.lt_of_le_of_lt (pc_le _) (by decide)) dL_hangs_539 (by decide) (fun c_539 => by exfalso; have q9 := lwA_pc (g := g) ho9.1 ho9.2.1; omega) (fun c_539 => ?_)
              refine lv_aload_n hx hb dL_hangs_542 rfl (lv_at hl 18 rfl) ?_
              refine lv_iload hx hb dL_hangs_543 (lv_at hl 3 rfl) ?_
              refine lv_iconst (v := (nI 4)) hx hb dL_hangs_545 (by decide) ?_
              refine wy_fin (vx_runSW (As := [.ref (z.1 0), .int (nI t1), .int (nI 4)]) (rest := []) ⟨hx, hb, hml, hown, hts⟩ (d_L_tree_a l Γ z w h t1 4 (by omega) (by decide)) (kcwSW 3 hts kw_L_treeOf mw_461 (rm_le hR (Nat.le_of_ble_eq_true rfl) (Nat.le_of_ble_eq_true rfl))) (kPy_S hK hP hD hXS hXN hS) rfl rfl hl.1 rfl (lv_room (Nat.le_of_ble_eq_true rfl)) dL_hangs_546 (by subst hR; exact ⟨Nat.le_of_ble_eq_true rfl, Nat.le_of_ble_eq_true rfl⟩)) hP hD hS (fun r w H locs hw hP hD hS => ?_)
              obtain ⟨rfl, h⟩ := hw
              refine tp_i (y := (nI (cnM (miQ g th 14 (trA g th t1)) 14 14))) (rfl) ?_
              refine lv_iconst (v := (nI 1)) hx hb dL_hangs_549 (by decide) ?_
              refine nb_icmp_gt (tgt := 557) hx hb (by have q9 := mir_le1 hfg hw14 (show t1 < trC g th by omega); omega) (by omega) dL_hangs_550 (by decide) (fun c_550 => by exfalso; have q9 := mir_le1 hfg hw14 (show t1 < trC g th by omega); omega) (fun c_550 => ?_)
              refine lv_iconst (v := (nI 1)) hx hb dL_hangs_553 (by decide) ?_
              refine lv_goto (tgt := 558) hx hb dL_hangs_554 (by decide) ?_
              refine lv_istore (lv' := [(9, .int (nI 1)), (18, .int (nI (alk g (trA g th) 14 t1))), (17, .int (nI (2 ^ low (trA g th t1)))), (16, .int (nI (trA g th t1))), (15, .int (nI t1)), (14, .int (bfT g th t1)), (13, .int (nI (smT (fun S => cnM (miQ g th 14 S) 14 14) g th t1))), (12, .int (nI (clN g (trA g th) 14 t1))), (11, .int (nI (mxS g th t1))), (10, .int (nI (sd th (trL g th t1)))), (8, .int (nI ((wonF g (T g) th n).toNat))), (7, .int (nI (seenF g (T g) th n))), (6, .int (bst (wnP g th) n)), (5, .int (nI (cnt (wnP g th) n))), (4, .int (nI (eIn g th 14))), (3, .int (nI th)), (2, .int (nI (trC g th))), (1, .int (nI n)), (0, .ref (z.1 0))]) hx hb dL_hangs_558 hl (by decide) rfl (fun ls hl => ?_)
              refine lv_iload hx hb dL_hangs_560 (lv_at hl 2 rfl) ?_
              refine lv_istore (lv' := [(14, .int (nI (2 ^ low (trA g th t1)))), (9, .int (nI 1)), (18, .int (nI (alk g (trA g th) 14 t1))), (17, .int (nI (2 ^ low (trA g th t1)))), (16, .int (nI (trA g th t1))), (15, .int (nI t1)), (13, .int (nI (smT (fun S => cnM (miQ g th 14 S) 14 14) g th t1))), (12, .int (nI (clN g (trA g th) 14 t1))), (11, .int (nI (mxS g th t1))), (10, .int (nI (sd th (trL g th t1)))), (8, .int (nI ((wonF g (T g) th n).toNat))), (7, .int (nI (seenF g (T g) th n))), (6, .int (bst (wnP g th) n)), (5, .int (nI (cnt (wnP g th) n))), (4, .int (nI (eIn g th 14))), (3, .int (nI th)), (2, .int (nI (trC g th))), (1, .int (nI n)), (0, .ref (z.1 0))]) hx hb dL_hangs_562 hl (by decide) rfl (fun ls hl => ?_)
              refine lv_iload hx hb dL_hangs_564 (lv_at hl 9 rfl) ?_
              refine lv_iload hx hb dL_hangs_566 (lv_at hl 4 rfl) ?_
              refine lv_ior hx hb dL_hangs_568 ?_
              refine tp_i (y := (nI ((sd th (trL g th t1)) ||| (trA g th t1)))) (ni_or _ _) ?_
              refine tp_i (y := (nI (sd th (trL g th (t1 + 1))))) (congrArg nI (all_s hfg.2.1 hw14 t1)) ?_
              refine lv_istore (lv' := [(10, .int (nI (sd th (trL g th (t1 + 1))))), (14, .int (nI (2 ^ low (trA g th t1)))), (9, .int (nI 1)), (18, .int (nI (alk g (trA g th) 14 t1))), (17, .int (nI (2 ^ low (trA g th t1)))), (16, .int (nI (trA g th t1))), (15, .int (nI t1)), (13, .int (nI (smT (fun S => cnM (miQ g th 14 S) 14 14) g th t1))), (12, .int (nI (clN g (trA g th) 14 t1))), (11, .int (nI (mxS g th t1))), (8, .int (nI ((wonF g (T g) th n).toNat))), (7, .int (nI (seenF g (T g) th n))), (6, .int (bst (wnP g th) n)), (5, .int (nI (cnt (wnP g th) n))), (4, .int (nI (eIn g th 14))), (3, .int (nI th)), (2, .int (nI (trC g th))), (1, .int (nI n)), (0, .ref (z.1 0))]) hx hb dL_hangs_569 hl (by decide) rfl (fun ls hl => ?_)
              refine lv_iload hx hb dL_hangs_571 (lv_at hl 9 rfl) ?_
              refine lv_aload_n hx hb dL_hangs_573 rfl (lv_at hl 18 rfl) ?_
              refine lv_iload hx hb dL_hangs_574 (lv_at hl 6 rfl) ?_
              refine lv_iconst (v := (nI 2)) hx hb dL_hangs_576 (by decide) ?_
              refine wy_fin (vx_runSW (As := [.ref (z.1 0), .int (nI t1), .int (nI 2)]) (rest := [.int (nI (mxS g th t1))]) ⟨hx, hb, hml, hown, hts⟩ (d_L_tree_a l Γ z w h t1 2 (by omega) (by decide)) (kcwSW 3 hts kw_L_treeOf mw_461 (rm_le hR (Nat.le_of_ble_eq_true rfl) (Nat.le_of_ble_eq_true rfl))) (kPy_S hK hP hD hXS hXN hS) rfl rfl hl.1 rfl (lv_room (Nat.le_of_ble_eq_true rfl)) dL_hangs_577 (by subst hR; exact ⟨Nat.le_of_ble_eq_true rfl, Nat.le_of_ble_eq_true rfl⟩)) hP hD hS (fun r w H locs hw hP hD hS => ?_)
              obtain ⟨rfl, h⟩ := hw
              refine tp_i (y := (nI (V g (trA g th t1)))) (rfl) ?_
              refine lv_ixor hx hb dL_hangs_580 ?_
              refine tp_i (y := (nI ((mxS g th t1) ^^^ (V g (trA g th t1))))) (ni_xor _ _) ?_
              refine tp_i (y := (nI (mxS g th (t1 + 1)))) (rfl) ?_
              refine lv_istore (lv' := [(11, .int (nI (mxS g th (t1 + 1)))), (10, .int (nI (sd th (trL g th (t1 + 1))))), (14, .int (nI (2 ^ low (trA g th t1)))), (9, .int (nI 1)), (18, .int (nI (alk g (trA g th) 14 t1))), (17, .int (nI (2 ^ low (trA g th t1)))), (16, .int (nI (trA g th t1))), (15, .int (nI t1)), (13, .int (nI (smT (fun S => cnM (miQ g th 14 S) 14 14) g th t1))), (12, .int (nI (clN g (trA g th) 14 t1))), (8, .int (nI ((wonF g (T g) th n).toNat))), (7, .int (nI (seenF g (T g) th n))), (6, .int (bst (wnP g th) n)), (5, .int (nI (cnt (wnP g th) n))), (4, .int (nI (eIn g th 14))), (3, .int (nI th)), (2, .int (nI (trC g th))), (1, .int (nI n)), (0, .ref (z.1 0))]) hx hb dL_hangs_581 hl (by decide) rfl (fun ls hl => ?_)
              have CT600 : ∀ (w : tST), OKW n th mv g k w → ∀ (H : Heap) (locs : List Loc), va_P Γ.1 vwCl (LW Γ z w) H → va_D A (LW Γ z w) → va_S A st.heap H locs → ∀ (ls : Array Slot), lv_has ls 19 [(11, .int (nI (mxS g th (t1 + 1)))), (10, .int (nI (sd th (trL g th (t1 + 1))))), (14, .int (nI (2 ^ low (trA g th t1)))), (9, .int (nI 1)), (18, .int (nI (alk g (trA g th) 14 t1))), (17, .int (nI (2 ^ low (trA g th t1)))), (16, .int (nI (trA g th t1))), (15, .int (nI t1)), (13, .int (nI (smT (fun S => cnM (miQ g th 14 S) 14 14) g th t1))), (12, .int (nI (clN g (trA g th) 14 (t1 + 1)))), (8, .int (nI ((wonF g (T g) th n).toNat))), (7, .int (nI (seenF g (T g) th n))), (6, .int (bst (wnP g th) n)), (5, .int (nI (cnt (wnP g th) n))), (4, .int (nI (eIn g th 14))), (3, .int (nI th)), (2, .int (nI (trC g th))), (1, .int (nI n)), (0, .ref (z.1 0))] → W p l ev R st mi args below meth cd H locs 2 12 Q (F0 mi 600 ls []) := by
                intro  w h H locs hP hD hS ls hl
                refine lv_iload hx hb dL_hangs_600 (lv_at hl 8 rfl) ?_
                refine lv_aload_n hx hb dL_hangs_602 rfl (lv_at hl 18 rfl) ?_
                refine lv_iload hx hb dL_hangs_603 (lv_at hl 7 rfl) ?_
                refine lv_iconst (v := (nI 4)) hx hb dL_hangs_605 (by decide) ?_
                refine wy_fin (vx_runSW (As := [.ref (z.1 0), .int (nI t1), .int (nI 4)]) (rest := [.int (nI (smT (fun S => cnM (miQ g th 14 S) 14 14) g th t1))]) ⟨hx, hb, hml, hown, hts⟩ (d_L_tree_a l Γ z w h t1 4 (by omega) (by decide)) (kcwSW 3 hts kw_L_treeOf mw_461 (rm_le hR (Nat.le_of_ble_eq_true rfl) (Nat.le_of_ble_eq_true rfl))) (kPy_S hK hP hD hXS hXN hS) rfl rfl hl.1 rfl (lv_room (Nat.le_of_ble_eq_true rfl)) dL_hangs_606 (by subst hR; exact ⟨Nat.le_of_ble_eq_true rfl, Nat.le_of_ble_eq_true rfl⟩)) hP hD hS (fun r w H locs hw hP hD hS => ?_)
                obtain ⟨rfl, h⟩ := hw
                refine tp_i (y := (nI (cnM (miQ g th 14 (trA g th t1)) 14 14))) (rfl) ?_
                refine lv_iadd hx hb dL_hangs_609 ?_
                refine tp_i (y := (nI ((smT (fun S => cnM (miQ g th 14 S) 14 14) g th t1) + (cnM (miQ g th 14 (trA g th t1)) 14 14)))) (nI_add _ _) ?_
                refine tp_i (y := (nI (smT (fun S => cnM (miQ g th 14 S) 14 14) g th (t1 + 1)))) (rfl) ?_
                refine lv_istore (lv' := [(13, .int (nI (smT (fun S => cnM (miQ g th 14 S) 14 14) g th (t1 + 1)))), (11, .int (nI (mxS g th (t1 + 1)))), (10, .int (nI (sd th (trL g th (t1 + 1))))), (14, .int (nI (2 ^ low (trA g th t1)))), (9, .int (nI 1)), (18, .int (nI (alk g (trA g th) 14 t1))), (17, .int (nI (2 ^ low (trA g th t1)))), (16, .int (nI (trA g th t1))), (15, .int (nI t1)), (12, .int (nI (clN g (trA g th) 14 (t1 + 1)))), (8, .int (nI ((wonF g (T g) th n).toNat))), (7, .int (nI (seenF g (T g) th n))), (6, .int (bst (wnP g th) n)), (5, .int (nI (cnt (wnP g th) n))), (4, .int (nI (eIn g th 14))), (3, .int (nI th)), (2, .int (nI (trC g th))), (1, .int (nI n)), (0, .ref (z.1 0))]) hx hb dL_hangs_610 hl (by decide) rfl (fun ls hl => ?_)
                refine lv_iinc (v := (nI (t1 + 1))) (lv' := [(15, .int (nI (t1 + 1))), (13, .int (nI (smT (fun S => cnM (miQ g th 14 S) 14 14) g th (t1 + 1)))), (11, .int (nI (mxS g th (t1 + 1)))), (10, .int (nI (sd th (trL g th (t1 + 1))))), (14, .int (nI (2 ^ low (trA g th t1)))), (9, .int (nI 1)), (18, .int (nI (alk g (trA g th) 14 t1))), (17, .int (nI (2 ^ low (trA g th t1)))), (16, .int (nI (trA g th t1))), (12, .int (nI (clN g (trA g th) 14 (t1 + 1)))), (8, .int (nI ((wonF g (T g) th n).toNat))), (7, .int (nI (seenF g (T g) th n))), (6, .int (bst (wnP g th) n)), (5, .int (nI (cnt (wnP g th) n))), (4, .int (nI (eIn g th 14))), (3, .int (nI th)), (2, .int (nI (trC g th))), (1, .int (nI n)), (0, .ref (z.1 0))]) hx hb dL_hangs_612 hl (k := 8) rfl (nI_1 _) (by decide) rfl (fun ls hl => ?_)
                refine lv_goto (tgt := 369) hx hb dL_hangs_615 (by decide) ?_
                exact ih369 (t1 + 1) (by omega) (by omega) _ h _ _ hP hD hS ls (lv_cast (lv_sub hl [0, 4, 1, 9, 2, 3, 5, 10, 11, 12, 13, 14, 15, 16, 17, 18] rfl) (by rw [bfT_s]; rfl))
              have hal9 := alk_le g (trA g th) 14 t1
              refine lv_iload hx hb dL_hangs_583 (lv_at hl 9 rfl) ?_
              refine lv_iload hx hb dL_hangs_585 (lv_at hl 4 rfl) ?_
              refine lv_iload hx hb dL_hangs_587 (lv_at hl 7 rfl) ?_
              refine nb_icmp_ne (tgt := 596) hx hb (by omega) (by omega) dL_hangs_589 (by decide) (fun c_589 => ?_) (fun c_589 => ?_)
              · skip
                refine lv_iconst (v := (nI 0)) hx hb dL_hangs_596 (by decide) ?_
                refine lv_iadd hx hb dL_hangs_597 ?_
                refine tp_i (y := (nI ((clN g (trA g th) 14 t1) + 0))) (nI_add _ _) ?_
                refine tp_i (y := (nI (clN g (trA g th) 14 (t1 + 1)))) (congrArg nI (by rw [clN, if_neg c_589])) ?_
                refine lv_istore (lv' := [(12, .int (nI (clN g (trA g th) 14 (t1 + 1)))), (11, .int (nI (mxS g th (t1 + 1)))), (10, .int (nI (sd th (trL g th (t1 + 1))))), (14, .int (nI (2 ^ low (trA g th t1)))), (9, .int (nI 1)), (18, .int (nI (alk g (trA g th) 14 t1))), (17, .int (nI (2 ^ low (trA g th t1)))), (16, .int (nI (trA g th t1))), (15, .int (nI t1)), (13, .int (nI (smT (fun S => cnM (miQ g th 14 S) 14 14) g th t1))), (8, .int (nI ((wonF g (T g) th n).toNat))), (7, .int (nI (seenF g (T g) th n))), (6, .int (bst (wnP g th) n)), (5, .int (nI (cnt (wnP g th) n))), (4, .int (nI (eIn g th 14))), (3, .int (nI th)), (2, .int (nI (trC g th))), (1, .int (nI n)), (0, .ref (z.1 0))]) hx hb dL_hangs_598 hl (by decide) rfl (fun ls hl => ?_)
                exact CT600   _ h _ _ hP hD hS ls (lv_sub hl [1, 2, 3, 4, 5, 6, 7, 8, 9, 0, 10, 11, 12, 13, 14, 15, 16, 17, 18] rfl)
              · skip
                refine lv_iconst (v := (nI 1)) hx hb dL_hangs_592 (by decide) ?_
                refine lv_goto (tgt := 597) hx hb dL_hangs_593 (by decide) ?_
                refine lv_iadd hx hb dL_hangs_597 ?_
                refine tp_i (y := (nI ((clN g (trA g th) 14 t1) + 1))) (nI_add _ _) ?_
                refine tp_i (y := (nI (clN g (trA g th) 14 (t1 + 1)))) (congrArg nI (by rw [clN, if_pos c_589])) ?_
                refine lv_istore (lv' := [(12, .int (nI (clN g (trA g th) 14 (t1 + 1)))), (11, .int (nI (mxS g th (t1 + 1)))), (10, .int (nI (sd th (trL g th (t1 + 1))))), (14, .int (nI (2 ^ low (trA g th t1)))), (9, .int (nI 1)), (18, .int (nI (alk g (trA g th) 14 t1))), (17, .int (nI (2 ^ low (trA g th t1)))), (16, .int (nI (trA g th t1))), (15, .int (nI t1)), (13, .int (nI (smT (fun S => cnM (miQ g th 14 S) 14 14) g th t1))), (8, .int (nI ((wonF g (T g) th n).toNat))), (7, .int (nI (seenF g (T g) th n))), (6, .int (bst (wnP g th) n)), (5, .int (nI (cnt (wnP g th) n))), (4, .int (nI (eIn g th 14))), (3, .int (nI th)), (2, .int (nI (trC g th))), (1, .int (nI n)), (0, .ref (z.1 0))]) hx hb dL_hangs_598 hl (by decide) rfl (fun ls hl => ?_)
                exact CT600   _ h _ _ hP hD hS ls (lv_sub hl [1, 2, 3, 4, 5, 6, 7, 8, 9, 0, 10, 11, 12, 13, 14, 15, 16, 17, 18] rfl)
        exact LP369 ((trC g th - 0) + 1) 0 (by first | omega | assumption) (Nat.lt_succ_self _) _ h _ _ hP hD hS ls (lv_cast (lv_sub hl [0, 1, 2, 3, 4, 5, 6, 7, 8, 9, 10, 11, 12, 13, 14, 15] rfl) (by rw [show sd th (trL g th 0) = 0 from sd_self th]; rfl))
      · skip
        refine lv_iload hx hb dL_hangs_67 (lv_at hl 1 rfl) ?_
        refine nb_if_eq (tgt := 351) hx hb (by omega) dL_hangs_69 (by decide) (fun c_69 => by exfalso; omega) (fun c_69 => ?_)
        cases hb9 : th.testBit k1
        · skip
          refine lv_aload_n hx hb dL_hangs_72 rfl (lv_at hl 10 rfl) ?_
          refine lv_iload hx hb dL_hangs_73 (lv_at hl 0 rfl) ?_
          refine lv_iconst (v := (nI 0)) hx hb dL_hangs_75 (by decide) ?_
          refine wy_fin (vx_runSW (As := [.ref (z.1 0), .int (nI k1), .int (nI 0)]) (rest := []) ⟨hx, hb, hml, hown, hts⟩ (d_L_nodeOf_a l Γ z w h k1 0 (by omega) (by decide)) (kcwSW 3 hts kw_L_nodeOf mw_459 (rm_le hR (Nat.le_of_ble_eq_true rfl) (Nat.le_of_ble_eq_true rfl))) (kPy_S hK hP hD hXS hXN hS) rfl rfl hl.1 rfl (lv_room (Nat.le_of_ble_eq_true rfl)) dL_hangs_76 (by subst hR; exact ⟨Nat.le_of_ble_eq_true rfl, Nat.le_of_ble_eq_true rfl⟩)) hP hD hS (fun r w H locs hw hP hD hS => ?_)
          obtain ⟨rfl, h⟩ := hw
          refine tp_i (y := (nI 0)) (by rw [ndT, hb9]; rfl) ?_
          refine lv_istore (lv' := [(11, .int (nI 0)), (10, .int (nI k1)), (9, .int (nI 1)), (8, .int (nI ((wonF g (T g) th k1).toNat))), (7, .int (nI (seenF g (T g) th k1))), (6, .int (bst (wnP g th) k1)), (5, .int (nI (cnt (wnP g th) k1))), (4, .int (nI (eIn g th k1))), (3, .int (nI (mk (fun i => th.testBit i) k1))), (2, .int (nI (trC g th))), (1, .int (nI n)), (0, .ref (z.1 0))]) hx hb dL_hangs_79 hl (by decide) rfl (fun ls hl => ?_)
          refine lv_aload_n hx hb dL_hangs_81 rfl (lv_at hl 11 rfl) ?_
          refine lv_iload hx hb dL_hangs_82 (lv_at hl 1 rfl) ?_
          refine lv_iconst (v := (nI 1)) hx hb dL_hangs_84 (by decide) ?_
          refine wy_fin (vx_runSW (As := [.ref (z.1 0), .int (nI k1), .int (nI 1)]) (rest := []) ⟨hx, hb, hml, hown, hts⟩ (d_L_nodeOf_a l Γ z w h k1 1 (by omega) (by decide)) (kcwSW 3 hts kw_L_nodeOf mw_459 (rm_le hR (Nat.le_of_ble_eq_true rfl) (Nat.le_of_ble_eq_true rfl))) (kPy_S hK hP hD hXS hXN hS) rfl rfl hl.1 rfl (lv_room (Nat.le_of_ble_eq_true rfl)) dL_hangs_85 (by subst hR; exact ⟨Nat.le_of_ble_eq_true rfl, Nat.le_of_ble_eq_true rfl⟩)) hP hD hS (fun r w H locs hw hP hD hS => ?_)
          obtain ⟨rfl, h⟩ := hw
          refine tp_i (y := (nI 0)) (by rw [ndT, if_f hb9]) ?_
          refine lv_istore (lv' := [(12, .int (nI 0)), (11, .int (nI 0)), (10, .int (nI k1)), (9, .int (nI 1)), (8, .int (nI ((wonF g (T g) th k1).toNat))), (7, .int (nI (seenF g (T g) th k1))), (6, .int (bst (wnP g th) k1)), (5, .int (nI (cnt (wnP g th) k1))), (4, .int (nI (eIn g th k1))), (3, .int (nI (mk (fun i => th.testBit i) k1))), (2, .int (nI (trC g th))), (1, .int (nI n)), (0, .ref (z.1 0))]) hx hb dL_hangs_88 hl (by decide) rfl (fun ls hl => ?_)
          refine lv_aload_n hx hb dL_hangs_90 rfl (lv_at hl 12 rfl) ?_
          refine lv_iload hx hb dL_hangs_91 (lv_at hl 2 rfl) ?_
          refine lv_iconst (v := (nI 3)) hx hb dL_hangs_93 (by decide) ?_
          refine wy_fin (vx_runSW (As := [.ref (z.1 0), .int (nI k1), .int (nI 3)]) (rest := []) ⟨hx, hb, hml, hown, hts⟩ (d_L_nodeOf_a l Γ z w h k1 3 (by omega) (by decide)) (kcwSW 3 hts kw_L_nodeOf mw_459 (rm_le hR (Nat.le_of_ble_eq_true rfl) (Nat.le_of_ble_eq_true rfl))) (kPy_S hK hP hD hXS hXN hS) rfl rfl hl.1 rfl (lv_room (Nat.le_of_ble_eq_true rfl)) dL_hangs_94 (by subst hR; exact ⟨Nat.le_of_ble_eq_true rfl, Nat.le_of_ble_eq_true rfl⟩)) hP hD hS (fun r w H locs hw hP hD hS => ?_)
          obtain ⟨rfl, h⟩ := hw
          refine tp_i (y := (-1)) (by rw [ndT, if_f hb9]) ?_
          refine lv_istore (lv' := [(13, .int (-1)), (12, .int (nI 0)), (11, .int (nI 0)), (10, .int (nI k1)), (9, .int (nI 1)), (8, .int (nI ((wonF g (T g) th k1).toNat))), (7, .int (nI (seenF g (T g) th k1))), (6, .int (bst (wnP g th) k1)), (5, .int (nI (cnt (wnP g th) k1))), (4, .int (nI (eIn g th k1))), (3, .int (nI (mk (fun i => th.testBit i) k1))), (2, .int (nI (trC g th))), (1, .int (nI n)), (0, .ref (z.1 0))]) hx hb dL_hangs_97 hl (by decide) rfl (fun ls hl => ?_)
          refine lv_iload_n hx hb dL_hangs_99 rfl (lv_at hl 10 rfl) ?_
          refine lv_iload hx hb dL_hangs_100 (lv_at hl 2 rfl) ?_
          refine lv_iload hx hb dL_hangs_102 (lv_at hl 3 rfl) ?_
          have hp9 : 2 ^ k1 < 16384 := pow_14 (by omega)
          refine lv_ishl hx hb dL_hangs_104 ?_
          refine tp_i (y := (nI (0 * 2 ^ k1))) (ni_shl (by omega) (by omega)) ?_
          refine lv_ior hx hb dL_hangs_105 ?_
          refine tp_i (y := (nI ((mk (fun i => th.testBit i) k1) ||| (0 * 2 ^ k1)))) (ni_or _ _) ?_
          refine tp_i (y := (nI (mk (fun i => th.testBit i) (k1 + 1)))) (congrArg nI (by rw [mk, if_f hb9, Nat.zero_mul])) ?_
          refine lv_istore_n (lv' := [(3, .int (nI (mk (fun i => th.testBit i) (k1 + 1)))), (13, .int (-1)), (12, .int (nI 0)), (11, .int (nI 0)), (10, .int (nI k1)), (9, .int (nI 1)), (8, .int (nI ((wonF g (T g) th k1).toNat))), (7, .int (nI (seenF g (T g) th k1))), (6, .int (bst (wnP g th) k1)), (5, .int (nI (cnt (wnP g th) k1))), (4, .int (nI (eIn g th k1))), (2, .int (nI (trC g th))), (1, .int (nI n)), (0, .ref (z.1 0))]) hx hb dL_hangs_106 rfl hl (by decide) rfl (fun ls hl => ?_)
          refine lv_iload hx hb dL_hangs_107 (lv_at hl 10 rfl) ?_
          refine lv_iload hx hb dL_hangs_109 (lv_at hl 2 rfl) ?_
          refine ro_fin (va_runS (As := [.int (nI 0)]) (rest := [.int (nI (eIn g th k1))]) ⟨hx, hb, hml, hown, hts⟩ (c_L_bits l Γ _ 0 (by decide)) (kcwS 1 hts kv_L_bits mw_463 (rm_le hR (Nat.le_of_ble_eq_true rfl) (Nat.le_of_ble_eq_true rfl))) (kPc_S hK) rfl rfl hl.1 rfl (lv_room (Nat.le_of_ble_eq_true rfl)) dL_hangs_111 (by subst hR; exact ⟨Nat.le_of_ble_eq_true rfl, Nat.le_of_ble_eq_true rfl⟩)) hS (fun locs hS => ?_)
          refine lv_iadd hx hb dL_hangs_114 ?_
          refine tp_i (y := (nI ((eIn g th k1) + (pc 0)))) (nI_add _ _) ?_
          refine tp_i (y := (nI (eIn g th (k1 + 1)))) (congrArg nI (by rw [eIn, if_f hb9, show pc 0 = 0 from pcn_zero 14, Nat.add_zero])) ?_
          refine lv_istore (lv' := [(4, .int (nI (eIn g th (k1 + 1)))), (3, .int (nI (mk (fun i => th.testBit i) (k1 + 1)))), (13, .int (-1)), (12, .int (nI 0)), (11, .int (nI 0)), (10, .int (nI k1)), (9, .int (nI 1)), (8, .int (nI ((wonF g (T g) th k1).toNat))), (7, .int (nI (seenF g (T g) th k1))), (6, .int (bst (wnP g th) k1)), (5, .int (nI (cnt (wnP g th) k1))), (2, .int (nI (trC g th))), (1, .int (nI n)), (0, .ref (z.1 0))]) hx hb dL_hangs_115 hl (by decide) rfl (fun ls hl => ?_)
          refine lv_iload hx hb dL_hangs_117 (lv_at hl 4 rfl) ?_
          refine lv_iconst (v := (nI 1)) hx hb dL_hangs_119 (by decide) ?_
          refine nb_icmp_ne (tgt := 207) hx hb (by omega) (by omega) dL_hangs_120 (by decide) (fun c_120 => ?_) (fun c_120 => by exfalso; omega)
          refine lv_iload hx hb dL_hangs_207 (lv_at hl 3 rfl) ?_
          refine nb_if_ne (tgt := 255) hx hb (by omega) dL_hangs_209 (by decide) (fun c_209 => by exfalso; omega) (fun c_209 => ?_)
          refine lv_iload hx hb dL_hangs_212 (lv_at hl 2 rfl) ?_
          refine lv_iconst (v := (-1)) hx hb dL_hangs_214 (by decide) ?_
          refine lv_icmp_ne (tgt := 255) hx hb dL_hangs_215 (by decide) (fun c_215 => by exfalso; exact c_215 rfl) (fun c_215 => ?_)
          refine lv_aload_n hx hb dL_hangs_218 rfl (lv_at hl 13 rfl) ?_
          refine lv_iload hx hb dL_hangs_219 (lv_at hl 5 rfl) ?_
          refine lv_iconst (v := (nI 2)) hx hb dL_hangs_221 (by decide) ?_
          refine wy_fin (vx_runSW (As := [.ref (z.1 0), .int (nI k1), .int (nI 2)]) (rest := []) ⟨hx, hb, hml, hown, hts⟩ (d_L_nodeOf_a l Γ z w h k1 2 (by omega) (by decide)) (kcwSW 3 hts kw_L_nodeOf mw_459 (rm_le hR (Nat.le_of_ble_eq_true rfl) (Nat.le_of_ble_eq_true rfl))) (kPy_S hK hP hD hXS hXN hS) rfl rfl hl.1 rfl (lv_room (Nat.le_of_ble_eq_true rfl)) dL_hangs_222 (by subst hR; exact ⟨Nat.le_of_ble_eq_true rfl, Nat.le_of_ble_eq_true rfl⟩)) hP hD hS (fun r w H locs hw hP hD hS => ?_)
          obtain ⟨rfl, h⟩ := hw
          refine tp_i (y := (-1)) (by rw [ndT, if_f hb9]) ?_
          refine lv_iconst (v := (-1)) hx hb dL_hangs_225 (by decide) ?_
          refine lv_icmp_ne (tgt := 255) hx hb dL_hangs_226 (by decide) (fun c_226 => by exfalso; exact c_226 rfl) (fun c_226 => ?_)
          refine lv_aload_n hx hb dL_hangs_229 rfl (lv_at hl 13 rfl) ?_
          refine lv_iload hx hb dL_hangs_230 (lv_at hl 5 rfl) ?_
          refine lv_iconst (v := (nI 4)) hx hb dL_hangs_232 (by decide) ?_
          refine wy_fin (vx_runSW (As := [.ref (z.1 0), .int (nI k1), .int (nI 4)]) (rest := []) ⟨hx, hb, hml, hown, hts⟩ (d_L_nodeOf_a l Γ z w h k1 4 (by omega) (by decide)) (kcwSW 3 hts kw_L_nodeOf mw_459 (rm_le hR (Nat.le_of_ble_eq_true rfl) (Nat.le_of_ble_eq_true rfl))) (kPy_S hK hP hD hXS hXN hS) rfl rfl hl.1 rfl (lv_room (Nat.le_of_ble_eq_true rfl)) dL_hangs_233 (by subst hR; exact ⟨Nat.le_of_ble_eq_true rfl, Nat.le_of_ble_eq_true rfl⟩)) hP hD hS (fun r w H locs hw hP hD hS => ?_)
          obtain ⟨rfl, h⟩ := hw
          refine tp_i (y := (-1)) (by rw [ndT, if_f hb9]) ?_
          refine lv_iconst (v := (-1)) hx hb dL_hangs_236 (by decide) ?_
          refine lv_icmp_ne (tgt := 255) hx hb dL_hangs_237 (by decide) (fun c_237 => by exfalso; exact c_237 rfl) (fun c_237 => ?_)
          refine lv_aload_n hx hb dL_hangs_240 rfl (lv_at hl 13 rfl) ?_
          refine lv_iload hx hb dL_hangs_241 (lv_at hl 5 rfl) ?_
          refine lv_iconst (v := (nI 5)) hx hb dL_hangs_243 (by decide) ?_
          refine wy_fin (vx_runSW (As := [.ref (z.1 0), .int (nI k1), .int (nI 5)]) (rest := []) ⟨hx, hb, hml, hown, hts⟩ (d_L_nodeOf_a l Γ z w h k1 5 (by omega) (by decide)) (kcwSW 3 hts kw_L_nodeOf mw_459 (rm_le hR (Nat.le_of_ble_eq_true rfl) (Nat.le_of_ble_eq_true rfl))) (kPy_S hK hP hD hXS hXN hS) rfl rfl hl.1 rfl (lv_room (Nat.le_of_ble_eq_true rfl)) dL_hangs_244 (by subst hR; exact ⟨Nat.le_of_ble_eq_true rfl, Nat.le_of_ble_eq_true rfl⟩)) hP hD hS (fun r w H locs hw hP hD hS => ?_)
          obtain ⟨rfl, h⟩ := hw
          refine tp_i (y := (-1)) (by rw [ndT, if_f hb9]) ?_
          refine lv_iconst (v := (-1)) hx hb dL_hangs_247 (by decide) ?_
          refine lv_icmp_ne (tgt := 255) hx hb dL_hangs_248 (by decide) (fun c_248 => by exfalso; exact c_248 rfl) (fun c_248 => ?_)
          refine lv_iconst (v := (nI 1)) hx hb dL_hangs_251 (by decide) ?_
          refine lv_goto (tgt := 256) hx hb dL_hangs_252 (by decide) ?_
          refine lv_istore (lv' := [(9, .int (nI 1)), (4, .int (nI (eIn g th (k1 + 1)))), (3, .int (nI (mk (fun i => th.testBit i) (k1 + 1)))), (13, .int (-1)), (12, .int (nI 0)), (11, .int (nI 0)), (10, .int (nI k1)), (8, .int (nI ((wonF g (T g) th k1).toNat))), (7, .int (nI (seenF g (T g) th k1))), (6, .int (bst (wnP g th) k1)), (5, .int (nI (cnt (wnP g th) k1))), (2, .int (nI (trC g th))), (1, .int (nI n)), (0, .ref (z.1 0))]) hx hb dL_hangs_256 hl (by decide) rfl (fun ls hl => ?_)
          have CT279 : ∀ (w : tST), OKW n th mv g k w → ∀ (H : Heap) (locs : List Loc), va_P Γ.1 vwCl (LW Γ z w) H → va_D A (LW Γ z w) → va_S A st.heap H locs → ∀ (ls : Array Slot), lv_has ls 19 [(9, .int (nI 1)), (4, .int (nI (eIn g th (k1 + 1)))), (3, .int (nI (mk (fun i => th.testBit i) (k1 + 1)))), (13, .int (-1)), (12, .int (nI 0)), (11, .int (nI 0)), (10, .int (nI k1)), (8, .int (nI ((wonF g (T g) th k1).toNat))), (7, .int (nI (seenF g (T g) th k1))), (6, .int (bst (wnP g th) k1)), (5, .int (nI (cnt (wnP g th) (k1 + 1)))), (2, .int (nI (trC g th))), (1, .int (nI n)), (0, .ref (z.1 0))] → W p l ev R st mi args below meth cd H locs 2 12 Q (F0 mi 279 ls []) := by
            intro  w h H locs hP hD hS ls hl
            have CT304 : ∀ (w : tST), OKW n th mv g k w → ∀ (H : Heap) (locs : List Loc), va_P Γ.1 vwCl (LW Γ z w) H → va_D A (LW Γ z w) → va_S A st.heap H locs → ∀ (ls : Array Slot), lv_has ls 19 [(9, .int (nI 1)), (4, .int (nI (eIn g th (k1 + 1)))), (3, .int (nI (mk (fun i => th.testBit i) (k1 + 1)))), (13, .int (-1)), (12, .int (nI 0)), (11, .int (nI 0)), (10, .int (nI k1)), (8, .int (nI ((wonF g (T g) th k1).toNat))), (7, .int (nI (seenF g (T g) th k1))), (6, .int (bst (wnP g th) (k1 + 1))), (5, .int (nI (cnt (wnP g th) (k1 + 1)))), (2, .int (nI (trC g th))), (1, .int (nI n)), (0, .ref (z.1 0))] → W p l ev R st mi args below meth cd H locs 2 12 Q (F0 mi 304 ls []) := by
              intro  w h H locs hP hD hS ls hl
              refine lv_iload hx hb dL_hangs_304 (lv_at hl 8 rfl) ?_
              refine lv_iload hx hb dL_hangs_306 (lv_at hl 5 rfl) ?_
              refine lv_iconst (v := (nI 1)) hx hb dL_hangs_308 (by decide) ?_
              refine nb_icmp_ne (tgt := 319) hx hb (by omega) (by omega) dL_hangs_309 (by decide) (fun c_309 => ?_) (fun c_309 => by exfalso; omega)
              refine lv_iconst (v := (nI 0)) hx hb dL_hangs_319 (by decide) ?_
              refine lv_ior hx hb dL_hangs_320 ?_
              refine tp_i (y := (nI ((seenF g (T g) th k1) ||| 0))) (ni_or _ _) ?_
              refine tp_i (y := (nI (seenF g (T g) th (k1 + 1)))) (congrArg nI (by rw [seenF, if_f hb9, Nat.or_zero])) ?_
              refine lv_istore (lv' := [(7, .int (nI (seenF g (T g) th (k1 + 1)))), (9, .int (nI 1)), (4, .int (nI (eIn g th (k1 + 1)))), (3, .int (nI (mk (fun i => th.testBit i) (k1 + 1)))), (13, .int (-1)), (12, .int (nI 0)), (11, .int (nI 0)), (10, .int (nI k1)), (8, .int (nI ((wonF g (T g) th k1).toNat))), (6, .int (bst (wnP g th) (k1 + 1))), (5, .int (nI (cnt (wnP g th) (k1 + 1)))), (2, .int (nI (trC g th))), (1, .int (nI n)), (0, .ref (z.1 0))]) hx hb dL_hangs_321 hl (by decide) rfl (fun ls hl => ?_)
              refine lv_iload hx hb dL_hangs_323 (lv_at hl 8 rfl) ?_
              refine lv_iload hx hb dL_hangs_325 (lv_at hl 6 rfl) ?_
              refine lv_iconst (v := (nI 1)) hx hb dL_hangs_327 (by decide) ?_
              refine nb_icmp_ne (tgt := 341) hx hb (by omega) (by omega) dL_hangs_328 (by decide) (fun c_328 => ?_) (fun c_328 => by exfalso; omega)
              refine lv_iconst (v := (nI 0)) hx hb dL_hangs_341 (by decide) ?_
              refine lv_ior hx hb dL_hangs_342 ?_
              refine tp_i (y := (nI ((wonF g (T g) th (k1 + 1)).toNat))) (by rw [ni_or, Nat.or_zero, wonF, if_f hb9]) ?_
              refine lv_istore (lv' := [(8, .int (nI ((wonF g (T g) th (k1 + 1)).toNat))), (7, .int (nI (seenF g (T g) th (k1 + 1)))), (9, .int (nI 1)), (4, .int (nI (eIn g th (k1 + 1)))), (3, .int (nI (mk (fun i => th.testBit i) (k1 + 1)))), (13, .int (-1)), (12, .int (nI 0)), (11, .int (nI 0)), (10, .int (nI k1)), (6, .int (bst (wnP g th) (k1 + 1))), (5, .int (nI (cnt (wnP g th) (k1 + 1)))), (2, .int (nI (trC g th))), (1, .int (nI n)), (0, .ref (z.1 0))]) hx hb dL_hangs_343 hl (by decide) rfl (fun ls hl => ?_)
              refine lv_iinc (v := (nI (k1 + 1))) (lv' := [(10, .int (nI (k1 + 1))), (8, .int (nI ((wonF g (T g) th (k1 + 1)).toNat))), (7, .int (nI (seenF g (T g) th (k1 + 1)))), (9, .int (nI 1)), (4, .int (nI (eIn g th (k1 + 1)))), (3, .int (nI (mk (fun i => th.testBit i) (k1 + 1)))), (13, .int (-1)), (12, .int (nI 0)), (11, .int (nI 0)), (6, .int (bst (wnP g th) (k1 + 1))), (5, .int (nI (cnt (wnP g th) (k1 + 1)))), (2, .int (nI (trC g th))), (1, .int (nI n)), (0, .ref (z.1 0))]) hx hb dL_hangs_345 hl (k := 8) rfl (nI_1 _) (by decide) rfl (fun ls hl => ?_)
              refine lv_goto (tgt := 61) hx hb dL_hangs_348 (by decide) ?_
              exact ih61 (k1 + 1) (by omega) (by omega) _ h _ _ hP hD hS ls (lv_sub hl [0, 3, 1, 2, 9, 10, 4, 5, 11, 12, 13] rfl)
            have hwn9 : wnP g th k1 = false := by rw [wnP, hb9]; rfl
            refine lv_iload hx hb dL_hangs_279 (lv_at hl 9 rfl) ?_
            refine lv_if_ge (tgt := 300) hx hb dL_hangs_281 (by decide) (fun c_281 => ?_) (fun c_281 => ?_)
            · skip
              have hbs9 := bst_s1 (by omega) c_281
              refine lv_iload hx hb dL_hangs_300 (lv_at hl 9 rfl) ?_
              refine lv_istore (lv' := [(6, .int (bst (wnP g th) k1)), (9, .int (nI 1)), (4, .int (nI (eIn g th (k1 + 1)))), (3, .int (nI (mk (fun i => th.testBit i) (k1 + 1)))), (13, .int (-1)), (12, .int (nI 0)), (11, .int (nI 0)), (10, .int (nI k1)), (8, .int (nI ((wonF g (T g) th k1).toNat))), (7, .int (nI (seenF g (T g) th k1))), (5, .int (nI (cnt (wnP g th) (k1 + 1)))), (2, .int (nI (trC g th))), (1, .int (nI n)), (0, .ref (z.1 0))]) hx hb dL_hangs_302 hl (by decide) rfl (fun ls hl => ?_)
              exact CT304   _ h _ _ hP hD hS ls (lv_cast (lv_sub hl [1, 2, 3, 4, 5, 6, 7, 8, 9, 0, 10, 11, 12, 13] rfl) (by rw [hbs9]; rfl))
            · skip
              have hbs9 := bst_s2 hwn9
              refine lv_iload hx hb dL_hangs_284 (lv_at hl 5 rfl) ?_
              refine lv_iconst (v := (nI 1)) hx hb dL_hangs_286 (by decide) ?_
              refine nb_icmp_ne (tgt := 300) hx hb (by omega) (by omega) dL_hangs_287 (by decide) (fun c_287 => ?_) (fun c_287 => by exfalso; omega)
              refine lv_iload hx hb dL_hangs_300 (lv_at hl 9 rfl) ?_
              refine lv_istore (lv' := [(6, .int (bst (wnP g th) k1)), (9, .int (nI 1)), (4, .int (nI (eIn g th (k1 + 1)))), (3, .int (nI (mk (fun i => th.testBit i) (k1 + 1)))), (13, .int (-1)), (12, .int (nI 0)), (11, .int (nI 0)), (10, .int (nI k1)), (8, .int (nI ((wonF g (T g) th k1).toNat))), (7, .int (nI (seenF g (T g) th k1))), (5, .int (nI (cnt (wnP g th) (k1 + 1)))), (2, .int (nI (trC g th))), (1, .int (nI n)), (0, .ref (z.1 0))]) hx hb dL_hangs_302 hl (by decide) rfl (fun ls hl => ?_)
              exact CT304   _ h _ _ hP hD hS ls (lv_cast (lv_sub hl [1, 2, 3, 4, 5, 6, 7, 8, 9, 0, 10, 11, 12, 13] rfl) (by rw [hbs9]; rfl))
          have hwn9 : wnP g th k1 = false := by rw [wnP, hb9]; rfl
          refine lv_iload hx hb dL_hangs_258 (lv_at hl 10 rfl) ?_
          refine lv_iload hx hb dL_hangs_260 (lv_at hl 5 rfl) ?_
          refine lv_iconst (v := (nI 1)) hx hb dL_hangs_262 (by decide) ?_
          refine nb_icmp_ne (tgt := 275) hx hb (by omega) (by omega) dL_hangs_263 (by decide) (fun c_263 => ?_) (fun c_263 => by exfalso; omega)
          refine lv_iconst (v := (nI 0)) hx hb dL_hangs_275 (by decide) ?_
          refine lv_iadd hx hb dL_hangs_276 ?_
          refine tp_i (y := (nI ((cnt (wnP g th) k1) + 0))) (nI_add _ _) ?_
          refine tp_i (y := (nI (cnt (wnP g th) (k1 + 1)))) (congrArg nI (by rw [cnt, if_f hwn9, Nat.add_zero])) ?_
          refine lv_istore (lv' := [(5, .int (nI (cnt (wnP g th) (k1 + 1)))), (9, .int (nI 1)), (4, .int (nI (eIn g th (k1 + 1)))), (3, .int (nI (mk (fun i => th.testBit i) (k1 + 1)))), (13, .int (-1)), (12, .int (nI 0)), (11, .int (nI 0)), (10, .int (nI k1)), (8, .int (nI ((wonF g (T g) th k1).toNat))), (7, .int (nI (seenF g (T g) th k1))), (6, .int (bst (wnP g th) k1)), (2, .int (nI (trC g th))), (1, .int (nI n)), (0, .ref (z.1 0))]) hx hb dL_hangs_277 hl (by decide) rfl (fun ls hl => ?_)
          exact CT279   _ h _ _ hP hD hS ls (lv_sub hl [1, 2, 3, 4, 5, 6, 7, 8, 9, 10, 0, 11, 12, 13] rfl)
        · skip
          refine lv_aload_n hx hb dL_hangs_72 rfl (lv_at hl 10 rfl) ?_
          refine lv_iload hx hb dL_hangs_73 (lv_at hl 0 rfl) ?_
          refine lv_iconst (v := (nI 0)) hx hb dL_hangs_75 (by decide) ?_
          refine wy_fin (vx_runSW (As := [.ref (z.1 0), .int (nI k1), .int (nI 0)]) (rest := []) ⟨hx, hb, hml, hown, hts⟩ (d_L_nodeOf_a l Γ z w h k1 0 (by omega) (by decide)) (kcwSW 3 hts kw_L_nodeOf mw_459 (rm_le hR (Nat.le_of_ble_eq_true rfl) (Nat.le_of_ble_eq_true rfl))) (kPy_S hK hP hD hXS hXN hS) rfl rfl hl.1 rfl (lv_room (Nat.le_of_ble_eq_true rfl)) dL_hangs_76 (by subst hR; exact ⟨Nat.le_of_ble_eq_true rfl, Nat.le_of_ble_eq_true rfl⟩)) hP hD hS (fun r w H locs hw hP hD hS => ?_)
          obtain ⟨rfl, h⟩ := hw
          refine tp_i (y := (nI 1)) (by rw [ndT, hb9]; rfl) ?_
          refine lv_istore (lv' := [(11, .int (nI 1)), (10, .int (nI k1)), (9, .int (nI 1)), (8, .int (nI ((wonF g (T g) th k1).toNat))), (7, .int (nI (seenF g (T g) th k1))), (6, .int (bst (wnP g th) k1)), (5, .int (nI (cnt (wnP g th) k1))), (4, .int (nI (eIn g th k1))), (3, .int (nI (mk (fun i => th.testBit i) k1))), (2, .int (nI (trC g th))), (1, .int (nI n)), (0, .ref (z.1 0))]) hx hb dL_hangs_79 hl (by decide) rfl (fun ls hl => ?_)
          refine lv_aload_n hx hb dL_hangs_81 rfl (lv_at hl 11 rfl) ?_
          refine lv_iload hx hb dL_hangs_82 (lv_at hl 1 rfl) ?_
          refine lv_iconst (v := (nI 1)) hx hb dL_hangs_84 (by decide) ?_
          refine wy_fin (vx_runSW (As := [.ref (z.1 0), .int (nI k1), .int (nI 1)]) (rest := []) ⟨hx, hb, hml, hown, hts⟩ (d_L_nodeOf_a l Γ z w h k1 1 (by omega) (by decide)) (kcwSW 3 hts kw_L_nodeOf mw_459 (rm_le hR (Nat.le_of_ble_eq_true rfl) (Nat.le_of_ble_eq_true rfl))) (kPy_S hK hP hD hXS hXN hS) rfl rfl hl.1 rfl (lv_room (Nat.le_of_ble_eq_true rfl)) dL_hangs_85 (by subst hR; exact ⟨Nat.le_of_ble_eq_true rfl, Nat.le_of_ble_eq_true rfl⟩)) hP hD hS (fun r w H locs hw hP hD hS => ?_)
          obtain ⟨rfl, h⟩ := hw
          refine tp_i (y := (nI (g k1 &&& th))) (by rw [ndT, if_t hb9]) ?_
          refine lv_istore (lv' := [(12, .int (nI (g k1 &&& th))), (11, .int (nI 1)), (10, .int (nI k1)), (9, .int (nI 1)), (8, .int (nI ((wonF g (T g) th k1).toNat))), (7, .int (nI (seenF g (T g) th k1))), (6, .int (bst (wnP g th) k1)), (5, .int (nI (cnt (wnP g th) k1))), (4, .int (nI (eIn g th k1))), (3, .int (nI (mk (fun i => th.testBit i) k1))), (2, .int (nI (trC g th))), (1, .int (nI n)), (0, .ref (z.1 0))]) hx hb dL_hangs_88 hl (by decide) rfl (fun ls hl => ?_)
          refine lv_aload_n hx hb dL_hangs_90 rfl (lv_at hl 12 rfl) ?_
          refine lv_iload hx hb dL_hangs_91 (lv_at hl 2 rfl) ?_
          refine lv_iconst (v := (nI 3)) hx hb dL_hangs_93 (by decide) ?_
          refine wy_fin (vx_runSW (As := [.ref (z.1 0), .int (nI k1), .int (nI 3)]) (rest := []) ⟨hx, hb, hml, hown, hts⟩ (d_L_nodeOf_a l Γ z w h k1 3 (by omega) (by decide)) (kcwSW 3 hts kw_L_nodeOf mw_459 (rm_le hR (Nat.le_of_ble_eq_true rfl) (Nat.le_of_ble_eq_true rfl))) (kPy_S hK hP hD hXS hXN hS) rfl rfl hl.1 rfl (lv_room (Nat.le_of_ble_eq_true rfl)) dL_hangs_94 (by subst hR; exact ⟨Nat.le_of_ble_eq_true rfl, Nat.le_of_ble_eq_true rfl⟩)) hP hD hS (fun r w H locs hw hP hD hS => ?_)
          obtain ⟨rfl, h⟩ := hw
          refine tp_i (y := (nI (V g (lft g th k1)))) (by rw [ndT, if_t hb9]) ?_
          refine lv_istore (lv' := [(13, .int (nI (V g (lft g th k1)))), (12, .int (nI (g k1 &&& th))), (11, .int (nI 1)), (10, .int (nI k1)), (9, .int (nI 1)), (8, .int (nI ((wonF g (T g) th k1).toNat))), (7, .int (nI (seenF g (T g) th k1))), (6, .int (bst (wnP g th) k1)), (5, .int (nI (cnt (wnP g th) k1))), (4, .int (nI (eIn g th k1))), (3, .int (nI (mk (fun i => th.testBit i) k1))), (2, .int (nI (trC g th))), (1, .int (nI n)), (0, .ref (z.1 0))]) hx hb dL_hangs_97 hl (by decide) rfl (fun ls hl => ?_)
          refine lv_iload_n hx hb dL_hangs_99 rfl (lv_at hl 10 rfl) ?_
          refine lv_iload hx hb dL_hangs_100 (lv_at hl 2 rfl) ?_
          refine lv_iload hx hb dL_hangs_102 (lv_at hl 3 rfl) ?_
          have hp9 : 2 ^ k1 < 16384 := pow_14 (by omega)
          refine lv_ishl hx hb dL_hangs_104 ?_
          refine tp_i (y := (nI (2 ^ k1))) (ni_shl1 (by omega)) ?_
          refine lv_ior hx hb dL_hangs_105 ?_
          refine tp_i (y := (nI ((mk (fun i => th.testBit i) k1) ||| (2 ^ k1)))) (ni_or _ _) ?_
          refine tp_i (y := (nI (mk (fun i => th.testBit i) (k1 + 1)))) (congrArg nI (by rw [mk, if_t hb9])) ?_
          refine lv_istore_n (lv' := [(3, .int (nI (mk (fun i => th.testBit i) (k1 + 1)))), (13, .int (nI (V g (lft g th k1)))), (12, .int (nI (g k1 &&& th))), (11, .int (nI 1)), (10, .int (nI k1)), (9, .int (nI 1)), (8, .int (nI ((wonF g (T g) th k1).toNat))), (7, .int (nI (seenF g (T g) th k1))), (6, .int (bst (wnP g th) k1)), (5, .int (nI (cnt (wnP g th) k1))), (4, .int (nI (eIn g th k1))), (2, .int (nI (trC g th))), (1, .int (nI n)), (0, .ref (z.1 0))]) hx hb dL_hangs_106 rfl hl (by decide) rfl (fun ls hl => ?_)
          refine lv_iload hx hb dL_hangs_107 (lv_at hl 10 rfl) ?_
          refine lv_iload hx hb dL_hangs_109 (lv_at hl 2 rfl) ?_
          refine ro_fin (va_runS (As := [.int (nI (g k1 &&& th))]) (rest := [.int (nI (eIn g th k1))]) ⟨hx, hb, hml, hown, hts⟩ (c_L_bits l Γ _ (g k1 &&& th) (and_lt2 _ hw14)) (kcwS 1 hts kv_L_bits mw_463 (rm_le hR (Nat.le_of_ble_eq_true rfl) (Nat.le_of_ble_eq_true rfl))) (kPc_S hK) rfl rfl hl.1 rfl (lv_room (Nat.le_of_ble_eq_true rfl)) dL_hangs_111 (by subst hR; exact ⟨Nat.le_of_ble_eq_true rfl, Nat.le_of_ble_eq_true rfl⟩)) hS (fun locs hS => ?_)
          refine lv_iadd hx hb dL_hangs_114 ?_
          refine tp_i (y := (nI ((eIn g th k1) + (pc (g k1 &&& th))))) (nI_add _ _) ?_
          refine tp_i (y := (nI (eIn g th (k1 + 1)))) (congrArg nI (by rw [eIn, if_t hb9])) ?_
          refine lv_istore (lv' := [(4, .int (nI (eIn g th (k1 + 1)))), (3, .int (nI (mk (fun i => th.testBit i) (k1 + 1)))), (13, .int (nI (V g (lft g th k1)))), (12, .int (nI (g k1 &&& th))), (11, .int (nI 1)), (10, .int (nI k1)), (9, .int (nI 1)), (8, .int (nI ((wonF g (T g) th k1).toNat))), (7, .int (nI (seenF g (T g) th k1))), (6, .int (bst (wnP g th) k1)), (5, .int (nI (cnt (wnP g th) k1))), (2, .int (nI (trC g th))), (1, .int (nI n)), (0, .ref (z.1 0))]) hx hb dL_hangs_115 hl (by decide) rfl (fun ls hl => ?_)
          refine lv_iload hx hb dL_hangs_117 (lv_at hl 4 rfl) ?_
          refine lv_iconst (v := (nI 1)) hx hb dL_hangs_119 (by decide) ?_
          refine nb_icmp_ne (tgt := 207) hx hb (by omega) (by omega) dL_hangs_120 (by decide) (fun c_120 => by exfalso; omega) (fun c_120 => ?_)
          refine lv_iload hx hb dL_hangs_123 (lv_at hl 3 rfl) ?_
          refine lv_iload hx hb dL_hangs_125 (lv_at hl 5 rfl) ?_
          have hg9 : g k1 &&& th < 16384 := and_lt2 _ hw14
          refine lv_ishr hx hb dL_hangs_127 ?_
          refine tp_i (y := (nI ((g k1 &&& th) >>> k1))) (ni_shr (by omega) (by omega)) ?_
          refine lv_iconst (v := (nI 1)) hx hb dL_hangs_128 (by decide) ?_
          refine lv_iand hx hb dL_hangs_129 ?_
          refine tp_i (y := (nI ((Nat.testBit (g k1 &&& th) k1).toNat))) (ni_bit _ _) ?_
          refine nb_if_ne (tgt := 203) hx hb (tn_lt _) dL_hangs_130 (by decide) (fun c_130 => by exfalso; rw [Nat.testBit_and, FG_irr hfg (by omega)] at c_130; exact c_130 rfl) (fun c_130 => ?_)
          refine lv_iload hx hb dL_hangs_133 (lv_at hl 2 rfl) ?_
          refine nb_if_lt (tgt := 203) hx hb (Nat.lt_trans (V_16 _ _) (by decide)) dL_hangs_135 (by decide) ?_
          have CT158 : ∀ (w : tST), OKW n th mv g k w → ∀ (H : Heap) (locs : List Loc), va_P Γ.1 vwCl (LW Γ z w) H → va_D A (LW Γ z w) → va_S A st.heap H locs → ∀ (ls : Array Slot), lv_has ls 19 [(4, .int (nI (eIn g th (k1 + 1)))), (3, .int (nI (mk (fun i => th.testBit i) (k1 + 1)))), (13, .int (nI (V g (lft g th k1)))), (12, .int (nI (g k1 &&& th))), (11, .int (nI 1)), (10, .int (nI k1)), (9, .int (nI 1)), (8, .int (nI ((wonF g (T g) th k1).toNat))), (7, .int (nI (seenF g (T g) th k1))), (6, .int (bst (wnP g th) k1)), (5, .int (nI (cnt (wnP g th) k1))), (2, .int (nI (trC g th))), (1, .int (nI n)), (0, .ref (z.1 0))] → W p l ev R st mi args below meth cd H locs 2 12 Q (F0 mi 158 ls []) := by
            intro  w h H locs hP hD hS ls hl
            have hq9 := trN_ok (g := g) hw14 hb9
            have hg9 : g k1 &&& th < 16384 := and_lt2 _ hw14
            refine lv_aload_n hx hb dL_hangs_158 rfl (lv_at hl 13 rfl) ?_
            refine lv_aload_n hx hb dL_hangs_159 rfl (lv_at hl 13 rfl) ?_
            refine lv_iload hx hb dL_hangs_160 (lv_at hl 5 rfl) ?_
            refine lv_iconst (v := (nI 2)) hx hb dL_hangs_162 (by decide) ?_
            refine wy_fin (vx_runSW (As := [.ref (z.1 0), .int (nI k1), .int (nI 2)]) (rest := [.ref (z.1 0)]) ⟨hx, hb, hml, hown, hts⟩ (d_L_nodeOf_a l Γ z w h k1 2 (by omega) (by decide)) (kcwSW 3 hts kw_L_nodeOf mw_459 (rm_le hR (Nat.le_of_ble_eq_true rfl) (Nat.le_of_ble_eq_true rfl))) (kPy_S hK hP hD hXS hXN hS) rfl rfl hl.1 rfl (lv_room (Nat.le_of_ble_eq_true rfl)) dL_hangs_163 (by subst hR; exact ⟨Nat.le_of_ble_eq_true rfl, Nat.le_of_ble_eq_true rfl⟩)) hP hD hS (fun r w H locs hw hP hD hS => ?_)
            obtain ⟨rfl, h⟩ := hw
            refine tp_i (y := (nI (trN g th k1))) (by rw [ndT, if_t hb9]) ?_
            refine lv_iconst (v := (nI 0)) hx hb dL_hangs_166 (by decide) ?_
            refine wy_fin (vx_runSW (As := [.ref (z.1 0), .int (nI (trN g th k1)), .int (nI 0)]) (rest := []) ⟨hx, hb, hml, hown, hts⟩ (d_L_tree_a l Γ z w h (trN g th k1) 0 (hq9.1) (by decide)) (kcwSW 3 hts kw_L_treeOf mw_461 (rm_le hR (Nat.le_of_ble_eq_true rfl) (Nat.le_of_ble_eq_true rfl))) (kPy_S hK hP hD hXS hXN hS) rfl rfl hl.1 rfl (lv_room (Nat.le_of_ble_eq_true rfl)) dL_hangs_167 (by subst hR; exact ⟨Nat.le_of_ble_eq_true rfl, Nat.le_of_ble_eq_true rfl⟩)) hP hD hS (fun r w H locs hw hP hD hS => ?_)
            obtain ⟨rfl, h⟩ := hw
            refine tp_i (y := (nI (trA g th (trN g th k1)))) (rfl) ?_
            refine lv_iload hx hb dL_hangs_170 (lv_at hl 5 rfl) ?_
            refine lv_ishr hx hb dL_hangs_172 ?_
            refine tp_i (y := (nI ((trA g th (trN g th k1)) >>> k1))) (ni_shr (by omega) (Nat.lt_trans (trA_lt _ _ _) (by decide))) ?_
            refine lv_iconst (v := (nI 1)) hx hb dL_hangs_173 (by decide) ?_
            refine lv_iand hx hb dL_hangs_174 ?_
            refine tp_i (y := (nI ((Nat.testBit (trA g th (trN g th k1)) k1).toNat))) (ni_bit _ _) ?_
            refine lv_iconst (v := (nI 1)) hx hb dL_hangs_175 (by decide) ?_
            refine nb_icmp_ne (tgt := 203) hx hb (tn_lt _) (by omega) dL_hangs_176 (by decide) (fun c_176 => by exfalso; exact c_176 (tn_1.mpr hq9.2)) (fun c_176 => ?_)
            refine lv_aload_n hx hb dL_hangs_179 rfl (lv_at hl 13 rfl) ?_
            refine lv_aload_n hx hb dL_hangs_180 rfl (lv_at hl 13 rfl) ?_
            refine lv_iload hx hb dL_hangs_181 (lv_at hl 5 rfl) ?_
            refine lv_iconst (v := (nI 2)) hx hb dL_hangs_183 (by decide) ?_
            refine wy_fin (vx_runSW (As := [.ref (z.1 0), .int (nI k1), .int (nI 2)]) (rest := [.ref (z.1 0)]) ⟨hx, hb, hml, hown, hts⟩ (d_L_nodeOf_a l Γ z w h k1 2 (by omega) (by decide)) (kcwSW 3 hts kw_L_nodeOf mw_459 (rm_le hR (Nat.le_of_ble_eq_true rfl) (Nat.le_of_ble_eq_true rfl))) (kPy_S hK hP hD hXS hXN hS) rfl rfl hl.1 rfl (lv_room (Nat.le_of_ble_eq_true rfl)) dL_hangs_184 (by subst hR; exact ⟨Nat.le_of_ble_eq_true rfl, Nat.le_of_ble_eq_true rfl⟩)) hP hD hS (fun r w H locs hw hP hD hS => ?_)
            obtain ⟨rfl, h⟩ := hw
            refine tp_i (y := (nI (trN g th k1))) (by rw [ndT, if_t hb9]) ?_
            refine lv_iconst (v := (nI 0)) hx hb dL_hangs_187 (by decide) ?_
            refine wy_fin (vx_runSW (As := [.ref (z.1 0), .int (nI (trN g th k1)), .int (nI 0)]) (rest := []) ⟨hx, hb, hml, hown, hts⟩ (d_L_tree_a l Γ z w h (trN g th k1) 0 (hq9.1) (by decide)) (kcwSW 3 hts kw_L_treeOf mw_461 (rm_le hR (Nat.le_of_ble_eq_true rfl) (Nat.le_of_ble_eq_true rfl))) (kPy_S hK hP hD hXS hXN hS) rfl rfl hl.1 rfl (lv_room (Nat.le_of_ble_eq_true rfl)) dL_hangs_188 (by subst hR; exact ⟨Nat.le_of_ble_eq_true rfl, Nat.le_of_ble_eq_true rfl⟩)) hP hD hS (fun r w H locs hw hP hD hS => ?_)
            obtain ⟨rfl, h⟩ := hw
            refine tp_i (y := (nI (trA g th (trN g th k1)))) (rfl) ?_
            refine lv_iload hx hb dL_hangs_191 (lv_at hl 3 rfl) ?_
            refine lv_iand hx hb dL_hangs_193 ?_
            refine tp_i (y := (nI ((trA g th (trN g th k1)) &&& (g k1 &&& th)))) (ni_and _ _) ?_
            refine lv_iload hx hb dL_hangs_194 (lv_at hl 3 rfl) ?_
            refine nb_icmp_ne (tgt := 203) hx hb (Nat.lt_trans (and_lt2 _ hg9) (by decide)) (by omega) dL_hangs_196 (by decide) (fun c_196 => by exfalso; exact c_196 (near_in hw14 hb9)) (fun c_196 => ?_)
            refine lv_iconst (v := (nI 1)) hx hb dL_hangs_199 (by decide) ?_
            refine lv_goto (tgt := 256) hx hb dL_hangs_200 (by decide) ?_
            refine lv_istore (lv' := [(9, .int (nI 1)), (4, .int (nI (eIn g th (k1 + 1)))), (3, .int (nI (mk (fun i => th.testBit i) (k1 + 1)))), (13, .int (nI (V g (lft g th k1)))), (12, .int (nI (g k1 &&& th))), (11, .int (nI 1)), (10, .int (nI k1)), (8, .int (nI ((wonF g (T g) th k1).toNat))), (7, .int (nI (seenF g (T g) th k1))), (6, .int (bst (wnP g th) k1)), (5, .int (nI (cnt (wnP g th) k1))), (2, .int (nI (trC g th))), (1, .int (nI n)), (0, .ref (z.1 0))]) hx hb dL_hangs_256 hl (by decide) rfl (fun ls hl => ?_)
            have CT279 : ∀ (w : tST), OKW n th mv g k w → ∀ (H : Heap) (locs : List Loc), va_P Γ.1 vwCl (LW Γ z w) H → va_D A (LW Γ z w) → va_S A st.heap H locs → ∀ (ls : Array Slot), lv_has ls 19 [(9, .int (nI 1)), (4, .int (nI (eIn g th (k1 + 1)))), (3, .int (nI (mk (fun i => th.testBit i) (k1 + 1)))), (13, .int (nI (V g (lft g th k1)))), (12, .int (nI (g k1 &&& th))), (11, .int (nI 1)), (10, .int (nI k1)), (8, .int (nI ((wonF g (T g) th k1).toNat))), (7, .int (nI (seenF g (T g) th k1))), (6, .int (bst (wnP g th) k1)), (5, .int (nI (cnt (wnP g th) (k1 + 1)))), (2, .int (nI (trC g th))), (1, .int (nI n)), (0, .ref (z.1 0))] → W p l ev R st mi args below meth cd H locs 2 12 Q (F0 mi 279 ls []) := by
              intro  w h H locs hP hD hS ls hl
              have CT304 : ∀ (w : tST), OKW n th mv g k w → ∀ (H : Heap) (locs : List Loc), va_P Γ.1 vwCl (LW Γ z w) H → va_D A (LW Γ z w) → va_S A st.heap H locs → ∀ (ls : Array Slot), lv_has ls 19 [(9, .int (nI 1)), (4, .int (nI (eIn g th (k1 + 1)))), (3, .int (nI (mk (fun i => th.testBit i) (k1 + 1)))), (13, .int (nI (V g (lft g th k1)))), (12, .int (nI (g k1 &&& th))), (11, .int (nI 1)), (10, .int (nI k1)), (8, .int (nI ((wonF g (T g) th k1).toNat))), (7, .int (nI (seenF g (T g) th k1))), (6, .int (bst (wnP g th) (k1 + 1))), (5, .int (nI (cnt (wnP g th) (k1 + 1)))), (2, .int (nI (trC g th))), (1, .int (nI n)), (0, .ref (z.1 0))] → W p l ev R st mi args below meth cd H locs 2 12 Q (F0 mi 304 ls []) := by
                intro  w h H locs hP hD hS ls hl
                refine lv_iload hx hb dL_hangs_304 (lv_at hl 8 rfl) ?_
                refine lv_iload hx hb dL_hangs_306 (lv_at hl 5 rfl) ?_
                refine lv_iconst (v := (nI 1)) hx hb dL_hangs_308 (by decide) ?_
                refine nb_icmp_ne (tgt := 319) hx hb (by omega) (by omega) dL_hangs_309 (by decide) (fun c_309 => by exfalso; omega) (fun c_309 => ?_)
                refine lv_iconst (v := (nI 1)) hx hb dL_hangs_312 (by decide) ?_
                refine lv_iload hx hb dL_hangs_313 (lv_at hl 3 rfl) ?_
                refine lv_ishl hx hb dL_hangs_315 ?_
                refine tp_i (y := (nI (2 ^ (V g (lft g th k1))))) (ni_shl1 (Nat.lt_trans (V_16 _ _) (by decide))) ?_
                refine lv_goto (tgt := 320) hx hb dL_hangs_316 (by decide) ?_
                refine lv_ior hx hb dL_hangs_320 ?_
                refine tp_i (y := (nI ((seenF g (T g) th k1) ||| (2 ^ (V g (lft g th k1)))))) (ni_or _ _) ?_
                refine tp_i (y := (nI (seenF g (T g) th (k1 + 1)))) (congrArg nI (by rw [seenF, if_t hb9]; rfl)) ?_
                refine lv_istore (lv' := [(7, .int (nI (seenF g (T g) th (k1 + 1)))), (9, .int (nI 1)), (4, .int (nI (eIn g th (k1 + 1)))), (3, .int (nI (mk (fun i => th.testBit i) (k1 + 1)))), (13, .int (nI (V g (lft g th k1)))), (12, .int (nI (g k1 &&& th))), (11, .int (nI 1)), (10, .int (nI k1)), (8, .int (nI ((wonF g (T g) th k1).toNat))), (6, .int (bst (wnP g th) (k1 + 1))), (5, .int (nI (cnt (wnP g th) (k1 + 1)))), (2, .int (nI (trC g th))), (1, .int (nI n)), (0, .ref (z.1 0))]) hx hb dL_hangs_321 hl (by decide) rfl (fun ls hl => ?_)
                refine lv_iload hx hb dL_hangs_323 (lv_at hl 8 rfl) ?_
                refine lv_iload hx hb dL_hangs_325 (lv_at hl 6 rfl) ?_
                refine lv_iconst (v := (nI 1)) hx hb dL_hangs_327 (by decide) ?_
                refine nb_icmp_ne (tgt := 341) hx hb (by omega) (by omega) dL_hangs_328 (by decide) (fun c_328 => by exfalso; omega) (fun c_328 => ?_)
                refine lv_aload_n hx hb dL_hangs_331 rfl (lv_at hl 13 rfl) ?_
                refine lv_iload hx hb dL_hangs_332 (lv_at hl 7 rfl) ?_
                refine lv_iconst (v := (nI 5)) hx hb dL_hangs_334 (by decide) ?_
                refine wy_fin (vx_runSW (As := [.ref (z.1 0), .int (nI k1), .int (nI 5)]) (rest := [.int (nI ((wonF g (T g) th k1).toNat))]) ⟨hx, hb, hml, hown, hts⟩ (d_L_nodeOf_a l Γ z w h k1 5 (by omega) (by decide)) (kcwSW 3 hts kw_L_nodeOf mw_459 (rm_le hR (Nat.le_of_ble_eq_true rfl) (Nat.le_of_ble_eq_true rfl))) (kPy_S hK hP hD hXS hXN hS) rfl rfl hl.1 rfl (lv_room (Nat.le_of_ble_eq_true rfl)) dL_hangs_335 (by subst hR; exact ⟨Nat.le_of_ble_eq_true rfl, Nat.le_of_ble_eq_true rfl⟩)) hP hD hS (fun r w H locs hw hP hD hS => ?_)
                obtain ⟨rfl, h⟩ := hw
                refine tp_i (y := (bI (!Mi g (lft g th k1)))) (by rw [ndT, if_t hb9]) ?_
                refine lv_goto (tgt := 342) hx hb dL_hangs_338 (by decide) ?_
                refine lv_ior hx hb dL_hangs_342 ?_
                refine tp_i (y := (nI ((wonF g (T g) th (k1 + 1)).toNat))) (by rw [won_or, wonF, if_t hb9, mi_dec]) ?_
                refine lv_istore (lv' := [(8, .int (nI ((wonF g (T g) th (k1 + 1)).toNat))), (7, .int (nI (seenF g (T g) th (k1 + 1)))), (9, .int (nI 1)), (4, .int (nI (eIn g th (k1 + 1)))), (3, .int (nI (mk (fun i => th.testBit i) (k1 + 1)))), (13, .int (nI (V g (lft g th k1)))), (12, .int (nI (g k1 &&& th))), (11, .int (nI 1)), (10, .int (nI k1)), (6, .int (bst (wnP g th) (k1 + 1))), (5, .int (nI (cnt (wnP g th) (k1 + 1)))), (2, .int (nI (trC g th))), (1, .int (nI n)), (0, .ref (z.1 0))]) hx hb dL_hangs_343 hl (by decide) rfl (fun ls hl => ?_)
                refine lv_iinc (v := (nI (k1 + 1))) (lv' := [(10, .int (nI (k1 + 1))), (8, .int (nI ((wonF g (T g) th (k1 + 1)).toNat))), (7, .int (nI (seenF g (T g) th (k1 + 1)))), (9, .int (nI 1)), (4, .int (nI (eIn g th (k1 + 1)))), (3, .int (nI (mk (fun i => th.testBit i) (k1 + 1)))), (13, .int (nI (V g (lft g th k1)))), (12, .int (nI (g k1 &&& th))), (11, .int (nI 1)), (6, .int (bst (wnP g th) (k1 + 1))), (5, .int (nI (cnt (wnP g th) (k1 + 1)))), (2, .int (nI (trC g th))), (1, .int (nI n)), (0, .ref (z.1 0))]) hx hb dL_hangs_345 hl (k := 8) rfl (nI_1 _) (by decide) rfl (fun ls hl => ?_)
                refine lv_goto (tgt := 61) hx hb dL_hangs_348 (by decide) ?_
                exact ih61 (k1 + 1) (by omega) (by omega) _ h _ _ hP hD hS ls (lv_sub hl [0, 3, 1, 2, 9, 10, 4, 5, 11, 12, 13] rfl)
              refine lv_iload hx hb dL_hangs_279 (lv_at hl 9 rfl) ?_
              refine lv_if_ge (tgt := 300) hx hb dL_hangs_281 (by decide) (fun c_281 => ?_) (fun c_281 => ?_)
              · skip
                have hbs9 := bst_s1 (by omega) c_281
                refine lv_iload hx hb dL_hangs_300 (lv_at hl 9 rfl) ?_
                refine lv_istore (lv' := [(6, .int (bst (wnP g th) k1)), (9, .int (nI 1)), (4, .int (nI (eIn g th (k1 + 1)))), (3, .int (nI (mk (fun i => th.testBit i) (k1 + 1)))), (13, .int (nI (V g (lft g th k1)))), (12, .int (nI (g k1 &&& th))), (11, .int (nI 1)), (10, .int (nI k1)), (8, .int (nI ((wonF g (T g) th k1).toNat))), (7, .int (nI (seenF g (T g) th k1))), (5, .int (nI (cnt (wnP g th) (k1 + 1)))), (2, .int (nI (trC g th))), (1, .int (nI n)), (0, .ref (z.1 0))]) hx hb dL_hangs_302 hl (by decide) rfl (fun ls hl => ?_)
                exact CT304   _ h _ _ hP hD hS ls (lv_cast (lv_sub hl [1, 2, 3, 4, 5, 6, 7, 8, 9, 0, 10, 11, 12, 13] rfl) (by rw [hbs9]; rfl))
              · skip
                refine lv_iload hx hb dL_hangs_284 (lv_at hl 5 rfl) ?_
                refine lv_iconst (v := (nI 1)) hx hb dL_hangs_286 (by decide) ?_
                refine nb_icmp_ne (tgt := 300) hx hb (by omega) (by omega) dL_hangs_287 (by decide) (fun c_287 => by exfalso; omega) (fun c_287 => ?_)
                refine lv_iload hx hb dL_hangs_290 (lv_at hl 3 rfl) ?_
                refine nb_if_ne (tgt := 300) hx hb (Nat.lt_trans (V_16 _ _) (by decide)) dL_hangs_292 (by decide) (fun c_292 => ?_) (fun c_292 => ?_)
                · skip
                  have hwn9 : wnP g th k1 = false := by rw [wnP, hb9, decide_eq_false c_292]; rfl
                  have hbs9 := bst_s2 hwn9
                  refine lv_iload hx hb dL_hangs_300 (lv_at hl 9 rfl) ?_
                  refine lv_istore (lv' := [(6, .int (bst (wnP g th) k1)), (9, .int (nI 1)), (4, .int (nI (eIn g th (k1 + 1)))), (3, .int (nI (mk (fun i => th.testBit i) (k1 + 1)))), (13, .int (nI (V g (lft g th k1)))), (12, .int (nI (g k1 &&& th))), (11, .int (nI 1)), (10, .int (nI k1)), (8, .int (nI ((wonF g (T g) th k1).toNat))), (7, .int (nI (seenF g (T g) th k1))), (5, .int (nI (cnt (wnP g th) (k1 + 1)))), (2, .int (nI (trC g th))), (1, .int (nI n)), (0, .ref (z.1 0))]) hx hb dL_hangs_302 hl (by decide) rfl (fun ls hl => ?_)
                  exact CT304   _ h _ _ hP hD hS ls (lv_cast (lv_sub hl [1, 2, 3, 4, 5, 6, 7, 8, 9, 0, 10, 11, 12, 13] rfl) (by rw [hbs9]; rfl))
                · skip
                  have hwn9 : wnP g th k1 = true := by rw [wnP, hb9, decide_eq_true c_292]; rfl
                  have hbs9 := bst_s3 (by omega) c_281 hwn9
                  refine lv_iload hx hb dL_hangs_295 (lv_at hl 6 rfl) ?_
                  refine lv_goto (tgt := 302) hx hb dL_hangs_297 (by decide) ?_
                  refine lv_istore (lv' := [(6, .int (nI k1)), (9, .int (nI 1)), (4, .int (nI (eIn g th (k1 + 1)))), (3, .int (nI (mk (fun i => th.testBit i) (k1 + 1)))), (13, .int (nI (V g (lft g th k1)))), (12, .int (nI (g k1 &&& th))), (11, .int (nI 1)), (10, .int (nI k1)), (8, .int (nI ((wonF g (T g) th k1).toNat))), (7, .int (nI (seenF g (T g) th k1))), (5, .int (nI (cnt (wnP g th) (k1 + 1)))), (2, .int (nI (trC g th))), (1, .int (nI n)), (0, .ref (z.1 0))]) hx hb dL_hangs_302 hl (by decide) rfl (fun ls hl => ?_)
                  exact CT304   _ h _ _ hP hD hS ls (lv_cast (lv_sub hl [1, 2, 3, 4, 5, 6, 7, 8, 9, 0, 10, 11, 12, 13] rfl) (by rw [hbs9]; rfl))
            refine lv_iload hx hb dL_hangs_258 (lv_at hl 10 rfl) ?_
            refine lv_iload hx hb dL_hangs_260 (lv_at hl 5 rfl) ?_
            refine lv_iconst (v := (nI 1)) hx hb dL_hangs_262 (by decide) ?_
            refine nb_icmp_ne (tgt := 275) hx hb (by omega) (by omega) dL_hangs_263 (by decide) (fun c_263 => by exfalso; omega) (fun c_263 => ?_)
            refine lv_iload hx hb dL_hangs_266 (lv_at hl 3 rfl) ?_
            refine nb_if_ne (tgt := 275) hx hb (Nat.lt_trans (V_16 _ _) (by decide)) dL_hangs_268 (by decide) (fun c_268 => ?_) (fun c_268 => ?_)
            · skip
              have hwn9 : wnP g th k1 = false := by rw [wnP, hb9, decide_eq_false c_268]; rfl
              refine lv_iconst (v := (nI 0)) hx hb dL_hangs_275 (by decide) ?_
              refine lv_iadd hx hb dL_hangs_276 ?_
              refine tp_i (y := (nI ((cnt (wnP g th) k1) + 0))) (nI_add _ _) ?_
              refine tp_i (y := (nI (cnt (wnP g th) (k1 + 1)))) (congrArg nI (by rw [cnt, if_f hwn9, Nat.add_zero])) ?_
              refine lv_istore (lv' := [(5, .int (nI (cnt (wnP g th) (k1 + 1)))), (9, .int (nI 1)), (4, .int (nI (eIn g th (k1 + 1)))), (3, .int (nI (mk (fun i => th.testBit i) (k1 + 1)))), (13, .int (nI (V g (lft g th k1)))), (12, .int (nI (g k1 &&& th))), (11, .int (nI 1)), (10, .int (nI k1)), (8, .int (nI ((wonF g (T g) th k1).toNat))), (7, .int (nI (seenF g (T g) th k1))), (6, .int (bst (wnP g th) k1)), (2, .int (nI (trC g th))), (1, .int (nI n)), (0, .ref (z.1 0))]) hx hb dL_hangs_277 hl (by decide) rfl (fun ls hl => ?_)
              exact CT279   _ h _ _ hP hD hS ls (lv_sub hl [1, 2, 3, 4, 5, 6, 7, 8, 9, 10, 0, 11, 12, 13] rfl)
            · skip
              have hwn9 : wnP g th k1 = true := by rw [wnP, hb9, decide_eq_true c_268]; rfl
              refine lv_iconst (v := (nI 1)) hx hb dL_hangs_271 (by decide) ?_
              refine lv_goto (tgt := 276) hx hb dL_hangs_272 (by decide) ?_
              refine lv_iadd hx hb dL_hangs_276 ?_
              refine tp_i (y := (nI ((cnt (wnP g th) k1) + 1))) (nI_add _ _) ?_
              refine tp_i (y := (nI (cnt (wnP g th) (k1 + 1)))) (congrArg nI (by rw [cnt, if_t hwn9])) ?_
              refine lv_istore (lv' := [(5, .int (nI (cnt (wnP g th) (k1 + 1)))), (9, .int (nI 1)), (4, .int (nI (eIn g th (k1 + 1)))), (3, .int (nI (mk (fun i => th.testBit i) (k1 + 1)))), (13, .int (nI (V g (lft g th k1)))), (12, .int (nI (g k1 &&& th))), (11, .int (nI 1)), (10, .int (nI k1)), (8, .int (nI ((wonF g (T g) th k1).toNat))), (7, .int (nI (seenF g (T g) th k1))), (6, .int (bst (wnP g th) k1)), (2, .int (nI (trC g th))), (1, .int (nI n)), (0, .ref (z.1 0))]) hx hb dL_hangs_277 hl (by decide) rfl (fun ls hl => ?_)
              exact CT279   _ h _ _ hP hD hS ls (lv_sub hl [1, 2, 3, 4, 5, 6, 7, 8, 9, 10, 0, 11, 12, 13] rfl)
          refine lv_aload_n hx hb dL_hangs_138 rfl (lv_at hl 13 rfl) ?_
          refine lv_iload hx hb dL_hangs_139 (lv_at hl 5 rfl) ?_
          refine lv_iconst (v := (nI 4)) hx hb dL_hangs_141 (by decide) ?_
          refine wy_fin (vx_runSW (As := [.ref (z.1 0), .int (nI k1), .int (nI 4)]) (rest := []) ⟨hx, hb, hml, hown, hts⟩ (d_L_nodeOf_a l Γ z w h k1 4 (by omega) (by decide)) (kcwSW 3 hts kw_L_nodeOf mw_459 (rm_le hR (Nat.le_of_ble_eq_true rfl) (Nat.le_of_ble_eq_true rfl))) (kPy_S hK hP hD hXS hXN hS) rfl rfl hl.1 rfl (lv_room (Nat.le_of_ble_eq_true rfl)) dL_hangs_142 (by subst hR; exact ⟨Nat.le_of_ble_eq_true rfl, Nat.le_of_ble_eq_true rfl⟩)) hP hD hS (fun r w H locs hw hP hD hS => ?_)
          obtain ⟨rfl, h⟩ := hw
          refine tp_i (y := (bI (wnP g th k1))) (by rw [ndT, if_t hb9]) ?_
          refine lv_iload hx hb dL_hangs_145 (lv_at hl 2 rfl) ?_
          refine nb_if_ne (tgt := 154) hx hb (Nat.lt_trans (V_16 _ _) (by decide)) dL_hangs_147 (by decide) (fun c_147 => ?_) (fun c_147 => ?_)
          · skip
            refine lv_iconst (v := (nI 0)) hx hb dL_hangs_154 (by decide) ?_
            refine lv_icmp_ne (tgt := 203) hx hb dL_hangs_155 (by decide) (fun c_155 => by exfalso; exact c_155 (by first | (rw [wnP, hb9, decide_eq_true c_147]; rfl) | (rw [wnP, hb9, decide_eq_false c_147]; rfl))) (fun c_155 => ?_)
            exact CT158   _ h _ _ hP hD hS ls (lv_sub hl [0, 1, 2, 3, 4, 5, 6, 7, 8, 9, 10, 11, 12, 13] rfl)
          · skip
            refine lv_iconst (v := (nI 1)) hx hb dL_hangs_150 (by decide) ?_
            refine lv_goto (tgt := 155) hx hb dL_hangs_151 (by decide) ?_
            refine lv_icmp_ne (tgt := 203) hx hb dL_hangs_155 (by decide) (fun c_155 => by exfalso; exact c_155 (by first | (rw [wnP, hb9, decide_eq_true c_147]; rfl) | (rw [wnP, hb9, decide_eq_false c_147]; rfl))) (fun c_155 => ?_)
            exact CT158   _ h _ _ hP hD hS ls (lv_sub hl [0, 1, 2, 3, 4, 5, 6, 7, 8, 9, 10, 11, 12, 13] rfl)
  exact LP61 ((n - 0) + 1) 0 (by first | omega | assumption) (Nat.lt_succ_self _) _ h _ _ hP hD hS ls (lv_cast (lv_sub hl [0, 1, 2, 3, 4, 5, 6, 7, 8, 9, 10] rfl) (by rfl))
