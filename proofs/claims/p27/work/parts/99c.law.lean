theorem n_pos {n th : Nat} (h : th < 2 ^ n) (h0 : th ≠ 0) : 0 < n := by
  rcases Nat.eq_zero_or_pos n with z | z
  · subst z
    exact absurd (show th = 0 by omega) h0
  · exact z
theorem tn_n0 {b : Bool} (h : b.toNat ≠ 0) : b = true := by
  cases b
  · exact absurd rfl h
  · rfl
theorem tn_0 {b : Bool} (h : b.toNat = 0) : b = false := by
  cases b
  · rfl
  · cases h
theorem isN_m1 (n : Nat) : isN n (-1) = false := by
  rw [isN, decide_eq_false]
  intro q
  exact absurd q.1 (by decide)

set_option maxHeartbeats 16000000 in
set_option maxRecDepth 100000 in
theorem K_law {p : Program} {l : Launch} {ev : Env} {st : State} {mi : MethodId} {args : Array Value} {below : List Frame} {meth : Method} {cd : Code} {H : Heap} {locs : List Loc} {Q : State → Prop} {A : Nat → Prop} {ls : Array Slot} {Γ : kG} {z : tAD} {zb zl : Nat} {xs : Nat → Int32} (C0 : kLZ p l st mi args meth cd Γ zb zl xs A) (hls : l.stackTraces = false) {w : tST} (h : OKW 0 0 0 (fun _ => 0) 0 w) (hkp : w.2.2.2.1.2.2.2.2 0 = 0) (hP : va_P Γ.1 vwCl (LW Γ z w) H) (hD : va_D A (LW Γ z w)) (hS : va_S A st.heap H locs) (hl : lv_has ls 17 [(1, .ref (z.1 0)), (0, .ref zb)]) (hret : ∀ {H : Heap} {locs : List Loc} {ls : Array Slot}, va_S A st.heap H locs → W p l ev room_1 st mi args below meth cd H locs 145 33635 Q (F0 mi 1013 ls [.int (nI 1)])) : W p l ev room_1 st mi args below meth cd H locs 46 33041 Q (F0 mi 8 ls []) := by
  obtain ⟨hx, hb, hml, hown, hts, hK, hXS, hXN, hX, hbl, hbA, hzl⟩ := C0
  refine lv_aload_n hx hb dL_law_8 rfl (lv_at hl 0 rfl) ?_
  refine wy_fin (vx_runSW (As := [.ref (z.1 0)]) (rest := []) ⟨hx, hb, hml, hown, hts⟩ (d_L_undo_x l hls Γ z w h rfl) (kcwSW 1 hts kw_L_undo mw_483 (lw_rm (Nat.le_of_ble_eq_true rfl) (Nat.le_of_ble_eq_true rfl))) (kPy_S hK hP hD hXS hXN hS) rfl rfl hl.1 rfl (lv_room (Nat.le_of_ble_eq_true rfl)) dL_law_9 (lw_cs (by omega) (by omega))) hP hD hS (fun r w H locs hw hP hD hS => ?_)
  obtain ⟨rfl, e9⟩ := hw
  rw [← e9] at h hkp
  refine tp_i (y := (-2000001)) (rfl) ?_
  refine lv_ldc (v := (-2000001)) hx hb hown (hts _ mw_369) dL_law_12 ?_
  refine lv_icmp_ne (tgt := 86) hx hb dL_law_14 (by decide) (fun c_14 => by exfalso; exact c_14 rfl) (fun c_14 => ?_)
  refine lv_aload_n hx hb dL_law_17 rfl (lv_at hl 0 rfl) ?_
  refine lv_iconst (v := (nI 0)) hx hb dL_law_18 (by decide) ?_
  refine wy_fin (vx_runSW (As := [.ref (z.1 0), .int (nI 0)]) (rest := []) ⟨hx, hb, hml, hown, hts⟩ (d_L_goBack_f l hls Γ z w h 0 (by decide) hkp) (kcwSW 2 hts kw_L_goBack mw_450 (lw_rm (Nat.le_of_ble_eq_true rfl) (Nat.le_of_ble_eq_true rfl))) (kPy_S hK hP hD hXS hXN hS) rfl rfl hl.1 rfl (lv_room (Nat.le_of_ble_eq_true rfl)) dL_law_19 (lw_cs (by omega) (by omega))) hP hD hS (fun r w H locs hw hP hD hS => ?_)
  obtain ⟨rfl, e9⟩ := hw
  rw [← e9] at h
  refine tp_i (y := (-2000002)) (rfl) ?_
  refine lv_ldc (v := (-2000002)) hx hb hown (hts _ mw_370) dL_law_22 ?_
  refine lv_icmp_ne (tgt := 86) hx hb dL_law_24 (by decide) (fun c_24 => by exfalso; exact c_24 rfl) (fun c_24 => ?_)
  refine lv_aload_n hx hb dL_law_27 rfl (lv_at hl 0 rfl) ?_
  refine wy_fin (vx_runSW (As := [.ref (z.1 0)]) (rest := []) ⟨hx, hb, hml, hown, hts⟩ (d_L_reply_x l hls Γ z w h rfl) (kcwSW 1 hts kw_L_reply mw_445 (lw_rm (Nat.le_of_ble_eq_true rfl) (Nat.le_of_ble_eq_true rfl))) (kPy_S hK hP hD hXS hXN hS) rfl rfl hl.1 rfl (lv_room (Nat.le_of_ble_eq_true rfl)) dL_law_28 (lw_cs (by omega) (by omega))) hP hD hS (fun r w H locs hw hP hD hS => ?_)
  obtain ⟨rfl, e9⟩ := hw
  rw [← e9] at h
  refine tp_i (y := (-2000001)) (rfl) ?_
  refine lv_ldc (v := (-2000001)) hx hb hown (hts _ mw_369) dL_law_31 ?_
  refine lv_icmp_ne (tgt := 86) hx hb dL_law_33 (by decide) (fun c_33 => by exfalso; exact c_33 rfl) (fun c_33 => ?_)
  refine lv_aload_n hx hb dL_law_36 rfl (lv_at hl 0 rfl) ?_
  refine wy_fin (va_runV (As := []) (rest := []) ⟨hx, hb, hml, hown, hts⟩ (d_X6_best l Γ z w h) (kcwV 0 hts kv_X6_best mw_467 (lw_rm (Nat.le_of_ble_eq_true rfl) (Nat.le_of_ble_eq_true rfl))) (kPy_V hK (va_recv hK.1 hP (ci := 6) (q0 := 0) rfl rfl) hP hD hXS hXN hS) rfl rfl hl.1 rfl (lv_room (Nat.le_of_ble_eq_true rfl)) dL_law_37 (lw_cs (by omega) (by omega))) hP hD hS (fun r w H locs hw hP hD hS => ?_)
  obtain ⟨rfl, h⟩ := hw
  refine tp_i (y := (-1)) (by rw [bst, if_neg (Nat.not_lt_zero _)]) ?_
  refine lv_iconst (v := (-1)) hx hb dL_law_40 (by decide) ?_
  refine lv_icmp_ne (tgt := 86) hx hb dL_law_41 (by decide) (fun c_41 => by exfalso; exact c_41 rfl) (fun c_41 => ?_)
  refine lv_aload_n hx hb dL_law_44 rfl (lv_at hl 0 rfl) ?_
  refine wy_fin (va_runV (As := []) (rest := []) ⟨hx, hb, hml, hown, hts⟩ (d_X6_write0 l Γ z w h rfl) (kcwV 0 hts kv_X6_write mw_485 (lw_rm (Nat.le_of_ble_eq_true rfl) (Nat.le_of_ble_eq_true rfl))) (kPy_V hK (va_recv hK.1 hP (ci := 6) (q0 := 0) rfl rfl) hP hD hXS hXN hS) rfl rfl hl.1 rfl (lv_room (Nat.le_of_ble_eq_true rfl)) dL_law_45 (lw_cs (by omega) (by omega))) hP hD hS (fun r w H locs hw hP hD hS => ?_)
  obtain ⟨rfl, h, hsz⟩ := hw
  refine tp_i (y := (nI 0)) (rfl) ?_
  refine nb_if_ne (tgt := 86) hx hb (by omega) dL_law_48 (by decide) (fun c_48 => by exfalso; omega) (fun c_48 => ?_)
  refine lv_aload_n hx hb dL_law_51 rfl (lv_at hl 0 rfl) ?_
  refine wy_fin (vx_runSW (As := [.ref (z.1 0)]) (rest := []) ⟨hx, hb, hml, hown, hts⟩ (d_L_load0 l Γ z w h hsz) (kcwSW 1 hts kw_L_load mw_488 (lw_rm (Nat.le_of_ble_eq_true rfl) (Nat.le_of_ble_eq_true rfl))) (kPy_S hK hP hD hXS hXN hS) rfl rfl hl.1 rfl (lv_room (Nat.le_of_ble_eq_true rfl)) dL_law_52 (lw_cs (by omega) (by omega))) hP hD hS (fun r w H locs hw hP hD hS => ?_)
  obtain ⟨rfl, h, h1, h2, h3, h4⟩ := hw
  refine tp_i (y := (nI 0)) (rfl) ?_
  refine nb_if_ne (tgt := 86) hx hb (by omega) dL_law_55 (by decide) (fun c_55 => by exfalso; omega) (fun c_55 => ?_)
  refine lv_aload_n hx hb dL_law_58 rfl (lv_at hl 0 rfl) ?_
  refine wy_fin (vx_runSW (As := [.ref (z.1 0)]) (rest := []) ⟨hx, hb, hml, hown, hts⟩ (d_L_undo1 l Γ z w h (by decide) h1 h2 h3 h4 okC_0) (kcwSW 1 hts kw_L_undo mw_483 (lw_rm (Nat.le_of_ble_eq_true rfl) (Nat.le_of_ble_eq_true rfl))) (kPy_S hK hP hD hXS hXN hS) rfl rfl hl.1 rfl (lv_room (Nat.le_of_ble_eq_true rfl)) dL_law_59 (lw_cs (by omega) (by omega))) hP hD hS (fun r w H locs hw hP hD hS => ?_)
  obtain ⟨rfl, h⟩ := hw
  have h : OKW 0 0 0 (fun _ => 0) 0 w := h
  refine tp_i (y := (nI 0)) (rfl) ?_
  refine nb_if_ne (tgt := 86) hx hb (by omega) dL_law_62 (by decide) (fun c_62 => by exfalso; omega) (fun c_62 => ?_)
  refine lv_aload_n hx hb dL_law_65 rfl (lv_at hl 0 rfl) ?_
  refine lv_iconst (v := (nI 0)) hx hb dL_law_66 (by decide) ?_
  refine wy_fin (vx_runSW (As := [.ref (z.1 0), .int (nI 0)]) (rest := []) ⟨hx, hb, hml, hown, hts⟩ (d_L_node_x l hls Γ z w h (nI 0) (nI_m1 (by decide)) (isN_no (by decide) (Nat.le_refl _) (by decide))) (kcwSW 2 hts kw_L_node mw_436 (lw_rm (Nat.le_of_ble_eq_true rfl) (Nat.le_of_ble_eq_true rfl))) (kPy_S hK hP hD hXS hXN hS) rfl rfl hl.1 rfl (lv_room (Nat.le_of_ble_eq_true rfl)) dL_law_67 (lw_cs (by omega) (by omega))) hP hD hS (fun r w H locs hw hP hD hS => ?_)
  obtain ⟨rfl, e9⟩ := hw
  rw [← e9] at h
  refine tp_i (y := (-2000001)) (rfl) ?_
  refine lv_ldc (v := (-2000001)) hx hb hown (hts _ mw_369) dL_law_70 ?_
  refine lv_icmp_ne (tgt := 86) hx hb dL_law_72 (by decide) (fun c_72 => by exfalso; exact c_72 rfl) (fun c_72 => ?_)
  refine lv_aload_n hx hb dL_law_75 rfl (lv_at hl 0 rfl) ?_
  refine wy_fin (va_runS (As := [.ref (z.1 0)]) (rest := []) ⟨hx, hb, hml, hown, hts⟩ (c_L_hangs l hls Γ z w h) (kcwS 1 hts kv_L_hangs mw_490 (lw_rm (Nat.le_of_ble_eq_true rfl) (Nat.le_of_ble_eq_true rfl))) (kPy_S hK hP hD hXS hXN hS) rfl rfl hl.1 rfl (lv_room (Nat.le_of_ble_eq_true rfl)) dL_law_76 (lw_cs (by omega) (by omega))) hP hD hS (fun r w H locs hw hP hD hS => ?_)
  obtain ⟨rfl, h⟩ := hw
  refine tp_i (y := (nI 1)) (rfl) ?_
  refine nb_if_eq (tgt := 86) hx hb (by omega) dL_law_79 (by decide) (fun c_79 => by exfalso; omega) (fun c_79 => ?_)
  refine lv_iconst (v := (nI 1)) hx hb dL_law_82 (by decide) ?_
  refine lv_goto (tgt := 87) hx hb dL_law_83 (by decide) ?_
  refine lv_istore_n (lv' := [(2, .int (nI 1)), (1, .ref (z.1 0)), (0, .ref zb)]) hx hb dL_law_87 rfl hl (by decide) rfl (fun ls hl => ?_)
  refine lv_iconst (v := (nI 0)) hx hb dL_law_88 (by decide) ?_
  refine lv_istore_n (lv' := [(3, .int (nI 0)), (2, .int (nI 1)), (1, .ref (z.1 0)), (0, .ref zb)]) hx hb dL_law_89 rfl hl (by decide) rfl (fun ls hl => ?_)
  have LP90 : ∀ (fu : Nat) (i1 : Nat) (n : Nat) (th : Nat) (mv : Nat) (g : Nat → Nat) (k : Nat) (hi1 : i1 ≤ 16), (16 - i1) < fu → ∀ (w : tST), OKW n th mv g k w → ∀ (H : Heap) (locs : List Loc), va_P Γ.1 vwCl (LW Γ z w) H → va_D A (LW Γ z w) → va_S A st.heap H locs → ∀ (ls : Array Slot), lv_has ls 17 [(3, .int (nI i1)), (2, .int (nI 1)), (1, .ref (z.1 0)), (0, .ref zb)] → W p l ev room_1 st mi args below meth cd H locs (53 + 5 * i1) (33083 + 30 * i1) Q (F0 mi 90 ls []) := by
    intro fu
    induction fu with
    | zero => intro i1 n th mv g k hi1 hfu; exact absurd hfu (Nat.not_lt_zero _)
    | succ fu ih90 =>
      intro i1 n th mv g k hi1 hfu w h H locs hP hD hS ls hl
      have hC := h.2.2.1
      have hfg := hC.1
      have hn0 := hC.2.1
      have hth := hC.2.2.1
      have hw14 := w14 hth hn0
      have hc := (trC_spec g hw14).1
      have hk6 : k ≤ 6 := h.2.2.2.2.1
      refine lv_iload_n hx hb dL_law_90 rfl (lv_at hl 0 rfl) ?_
      refine lv_bipush (v := (nI 16)) hx hb dL_law_91 (by decide) ?_
      refine nb_icmp_ge (tgt := 686) hx hb (by omega) (by omega) dL_law_93 (by decide) (fun c_93 => ?_) (fun c_93 => ?_)
      · skip
        have he9 : i1 = 16 := by omega
        subst he9
        have CT898 : ∀ (th3 : Nat) (mv3 : Nat) (k3 : Nat) , ∀ (w : tST), OKW n th3 mv3 g k3 w → ∀ (H : Heap) (locs : List Loc), va_P Γ.1 vwCl (LW Γ z w) H → va_D A (LW Γ z w) → va_S A st.heap H locs → ∀ (ls : Array Slot), lv_has ls 17 [(2, .int (nI 1)), (1, .ref (z.1 0)), (0, .ref zb)] → W p l ev room_1 st mi args below meth cd H locs (53 + 5 * 16) (33083 + 30 * 16) Q (F0 mi 898 ls []) := by
          intro th3 mv3 k3 w h H locs hP hD hS ls hl
          have hw3 := w14 h.2.2.1.2.2.1 hn0
          refine lv_iload_n hx hb dL_law_898 rfl (lv_at hl 0 rfl) ?_
          refine nb_if_eq (tgt := 1012) hx hb (by omega) dL_law_899 (by decide) (fun c_899 => by exfalso; omega) (fun c_899 => ?_)
          refine lv_aload_n hx hb dL_law_902 rfl (lv_at hl 1 rfl) ?_
          refine wy_fin (va_runS (As := [.ref (z.1 0)]) (rest := []) ⟨hx, hb, hml, hown, hts⟩ (c_L_hangs l hls Γ z w h) (kcwS 1 hts kv_L_hangs mw_490 (lw_rm (Nat.le_of_ble_eq_true rfl) (Nat.le_of_ble_eq_true rfl))) (kPy_S hK hP hD hXS hXN hS) rfl rfl hl.1 rfl (lv_room (Nat.le_of_ble_eq_true rfl)) dL_law_903 (lw_cs (by omega) (by omega))) hP hD hS (fun r w H locs hw hP hD hS => ?_)
          obtain ⟨rfl, h⟩ := hw
          refine tp_i (y := (nI 1)) (rfl) ?_
          refine nb_if_eq (tgt := 1012) hx hb (by omega) dL_law_906 (by decide) (fun c_906 => by exfalso; omega) (fun c_906 => ?_)
          refine lv_aload_n hx hb dL_law_909 rfl (lv_at hl 1 rfl) ?_
          refine lv_bipush (v := (nI 14)) hx hb dL_law_910 (by decide) ?_
          refine wy_fin (vx_runSW (As := [.ref (z.1 0), .int (nI 14)]) (rest := []) ⟨hx, hb, hml, hown, hts⟩ (d_L_node_x l hls Γ z w h (nI 14) (nI_m1 (by decide)) (isN_no hn0 hn0 (by decide))) (kcwSW 2 hts kw_L_node mw_436 (lw_rm (Nat.le_of_ble_eq_true rfl) (Nat.le_of_ble_eq_true rfl))) (kPy_S hK hP hD hXS hXN hS) rfl rfl hl.1 rfl (lv_room (Nat.le_of_ble_eq_true rfl)) dL_law_912 (lw_cs (by omega) (by omega))) hP hD hS (fun r w H locs hw hP hD hS => ?_)
          obtain ⟨rfl, e9⟩ := hw
          rw [← e9] at h
          refine tp_i (y := (-2000001)) (rfl) ?_
          refine lv_ldc (v := (-2000001)) hx hb hown (hts _ mw_369) dL_law_915 ?_
          refine lv_icmp_ne (tgt := 1012) hx hb dL_law_917 (by decide) (fun c_917 => by exfalso; exact c_917 rfl) (fun c_917 => ?_)
          refine lv_aload_n hx hb dL_law_920 rfl (lv_at hl 1 rfl) ?_
          refine lv_iconst (v := (nI 0)) hx hb dL_law_921 (by decide) ?_
          refine lv_bipush (v := (nI 14)) hx hb dL_law_922 (by decide) ?_
          by_cases hn9 : n = 0
          · skip
            refine wy_fin (vx_runSW (As := [.ref (z.1 0), .int (nI 0), .int (nI 14)]) (rest := []) ⟨hx, hb, hml, hown, hts⟩ (d_L_join_x l hls Γ z w h (nI 0) (nI 14) (isN_no hn0 (by omega) (by decide))) (kcwSW 3 hts kw_L_join mw_439 (lw_rm (Nat.le_of_ble_eq_true rfl) (Nat.le_of_ble_eq_true rfl))) (kPy_S hK hP hD hXS hXN hS) rfl rfl hl.1 rfl (lv_room (Nat.le_of_ble_eq_true rfl)) dL_law_924 (lw_cs (by omega) (by omega))) hP hD hS (fun r w H locs hw hP hD hS => ?_)
            obtain ⟨rfl, e9⟩ := hw
            rw [← e9] at h
            refine tp_i (y := (-2000001)) (rfl) ?_
            refine lv_ldc (v := (-2000001)) hx hb hown (hts _ mw_369) dL_law_927 ?_
            refine lv_icmp_ne (tgt := 1012) hx hb dL_law_929 (by decide) (fun c_929 => by exfalso; exact c_929 rfl) (fun c_929 => ?_)
            refine lv_aload_n hx hb dL_law_932 rfl (lv_at hl 1 rfl) ?_
            refine lv_iconst (v := (-1)) hx hb dL_law_933 (by decide) ?_
            refine lv_iconst (v := (nI 0)) hx hb dL_law_934 (by decide) ?_
            refine wy_fin (vx_runSW (As := [.ref (z.1 0), .int (-1), .int (nI 0)]) (rest := []) ⟨hx, hb, hml, hown, hts⟩ (d_L_cut_x l hls Γ z w h (-1) (nI 0) (isN_m1 n)) (kcwSW 3 hts kw_L_cut mw_441 (lw_rm (Nat.le_of_ble_eq_true rfl) (Nat.le_of_ble_eq_true rfl))) (kPy_S hK hP hD hXS hXN hS) rfl rfl hl.1 rfl (lv_room (Nat.le_of_ble_eq_true rfl)) dL_law_935 (lw_cs (by omega) (by omega))) hP hD hS (fun r w H locs hw hP hD hS => ?_)
            obtain ⟨rfl, e9⟩ := hw
            rw [← e9] at h
            refine tp_i (y := (-2000001)) (rfl) ?_
            refine lv_ldc (v := (-2000001)) hx hb hown (hts _ mw_369) dL_law_938 ?_
            refine lv_icmp_ne (tgt := 1012) hx hb dL_law_940 (by decide) (fun c_940 => by exfalso; exact c_940 rfl) (fun c_940 => ?_)
            refine lv_aload_n hx hb dL_law_943 rfl (lv_at hl 1 rfl) ?_
            refine lv_bipush (v := (nI 14)) hx hb dL_law_944 (by decide) ?_
            refine wy_fin (vx_runSW (As := [.ref (z.1 0), .int (nI 14)]) (rest := []) ⟨hx, hb, hml, hown, hts⟩ (d_L_take_x l hls Γ z w h (nI 14) (isN_no hn0 hn0 (by decide))) (kcwSW 2 hts kw_L_take mw_443 (lw_rm (Nat.le_of_ble_eq_true rfl) (Nat.le_of_ble_eq_true rfl))) (kPy_S hK hP hD hXS hXN hS) rfl rfl hl.1 rfl (lv_room (Nat.le_of_ble_eq_true rfl)) dL_law_946 (lw_cs (by omega) (by omega))) hP hD hS (fun r w H locs hw hP hD hS => ?_)
            obtain ⟨rfl, e9⟩ := hw
            rw [← e9] at h
            refine tp_i (y := (-2000001)) (rfl) ?_
            refine lv_ldc (v := (-2000001)) hx hb hown (hts _ mw_369) dL_law_949 ?_
            refine lv_icmp_ne (tgt := 1012) hx hb dL_law_951 (by decide) (fun c_951 => by exfalso; exact c_951 rfl) (fun c_951 => ?_)
            refine lv_aload_n hx hb dL_law_954 rfl (lv_at hl 1 rfl) ?_
            refine lv_bipush (v := (nI 32)) hx hb dL_law_955 (by decide) ?_
            refine wy_fin (vx_runSW (As := [.ref (z.1 0), .int (nI 32)]) (rest := []) ⟨hx, hb, hml, hown, hts⟩ (d_L_append_x l hls Γ z w h (nI 32) (by decide)) (kcwSW 2 hts kw_L_append mw_498 (lw_rm (Nat.le_of_ble_eq_true rfl) (Nat.le_of_ble_eq_true rfl))) (kPy_S hK hP hD hXS hXN hS) rfl rfl hl.1 rfl (lv_room (Nat.le_of_ble_eq_true rfl)) dL_law_957 (lw_cs (by omega) (by omega))) hP hD hS (fun r w H locs hw hP hD hS => ?_)
            obtain ⟨rfl, e9⟩ := hw
            rw [← e9] at h
            refine tp_i (y := (-2000001)) (rfl) ?_
            refine lv_ldc (v := (-2000001)) hx hb hown (hts _ mw_369) dL_law_960 ?_
            refine lv_icmp_ne (tgt := 1012) hx hb dL_law_962 (by decide) (fun c_962 => by exfalso; exact c_962 rfl) (fun c_962 => ?_)
            refine lv_aload_n hx hb dL_law_965 rfl (lv_at hl 1 rfl) ?_
            refine lv_iconst (v := (nI 2)) hx hb dL_law_966 (by decide) ?_
            refine wy_fin (vx_runSW (As := [.ref (z.1 0), .int (nI 2)]) (rest := []) ⟨hx, hb, hml, hown, hts⟩ (d_L_keep_x l hls Γ z w h (nI 2) (by decide)) (kcwSW 2 hts kw_L_keep mw_452 (lw_rm (Nat.le_of_ble_eq_true rfl) (Nat.le_of_ble_eq_true rfl))) (kPy_S hK hP hD hXS hXN hS) rfl rfl hl.1 rfl (lv_room (Nat.le_of_ble_eq_true rfl)) dL_law_967 (lw_cs (by omega) (by omega))) hP hD hS (fun r w H locs hw hP hD hS => ?_)
            obtain ⟨rfl, e9⟩ := hw
            rw [← e9] at h
            refine tp_i (y := (-2000001)) (rfl) ?_
            refine lv_ldc (v := (-2000001)) hx hb hown (hts _ mw_369) dL_law_970 ?_
            refine lv_icmp_ne (tgt := 1012) hx hb dL_law_972 (by decide) (fun c_972 => by exfalso; exact c_972 rfl) (fun c_972 => ?_)
            refine lv_aload_n hx hb dL_law_975 rfl (lv_at hl 1 rfl) ?_
            refine lv_bipush (v := (nI 12)) hx hb dL_law_976 (by decide) ?_
            refine wy_fin (vx_runSW (As := [.ref (z.1 0), .int (nI 12)]) (rest := []) ⟨hx, hb, hml, hown, hts⟩ (d_L_count_x l hls Γ z w h (nI 12) (by decide)) (kcwSW 2 hts kw_L_count mw_454 (lw_rm (Nat.le_of_ble_eq_true rfl) (Nat.le_of_ble_eq_true rfl))) (kPy_S hK hP hD hXS hXN hS) rfl rfl hl.1 rfl (lv_room (Nat.le_of_ble_eq_true rfl)) dL_law_978 (lw_cs (by omega) (by omega))) hP hD hS (fun r w H locs hw hP hD hS => ?_)
            obtain ⟨rfl, e9⟩ := hw
            rw [← e9] at h
            refine tp_i (y := (-2000001)) (rfl) ?_
            refine lv_ldc (v := (-2000001)) hx hb hown (hts _ mw_369) dL_law_981 ?_
            refine lv_icmp_ne (tgt := 1012) hx hb dL_law_983 (by decide) (fun c_983 => by exfalso; exact c_983 rfl) (fun c_983 => ?_)
            refine lv_aload_n hx hb dL_law_986 rfl (lv_at hl 1 rfl) ?_
            refine lv_iconst (v := (-1)) hx hb dL_law_987 (by decide) ?_
            refine wy_fin (vx_runSW (As := [.ref (z.1 0), .int (-1)]) (rest := []) ⟨hx, hb, hml, hown, hts⟩ (d_L_value_x l hls Γ z w h (-1) (val_neg hw3)) (kcwSW 2 hts kw_L_value mw_465 (lw_rm (Nat.le_of_ble_eq_true rfl) (Nat.le_of_ble_eq_true rfl))) (kPy_S hK hP hD hXS hXN hS) rfl rfl hl.1 rfl (lv_room (Nat.le_of_ble_eq_true rfl)) dL_law_988 (lw_cs (by omega) (by omega))) hP hD hS (fun r w H locs hw hP hD hS => ?_)
            obtain ⟨rfl, e9⟩ := hw
            rw [← e9] at h
            refine tp_i (y := (-2000001)) (rfl) ?_
            refine lv_ldc (v := (-2000001)) hx hb hown (hts _ mw_369) dL_law_991 ?_
            refine lv_icmp_ne (tgt := 1012) hx hb dL_law_993 (by decide) (fun c_993 => by exfalso; exact c_993 rfl) (fun c_993 => ?_)
            refine lv_aload_n hx hb dL_law_996 rfl (lv_at hl 1 rfl) ?_
            refine lv_bipush (v := (nI 14)) hx hb dL_law_997 (by decide) ?_
            refine lv_iconst (v := (nI 0)) hx hb dL_law_999 (by decide) ?_
            refine wy_fin (vx_runSW (As := [.ref (z.1 0), .int (nI 14), .int (nI 0)]) (rest := []) ⟨hx, hb, hml, hown, hts⟩ (d_L_ifJoined_x l hls Γ z w h (nI 14) (nI 0) (isN_no hn0 hn0 (by decide))) (kcwSW 3 hts kw_L_ifJoined mw_494 (lw_rm (Nat.le_of_ble_eq_true rfl) (Nat.le_of_ble_eq_true rfl))) (kPy_S hK hP hD hXS hXN hS) rfl rfl hl.1 rfl (lv_room (Nat.le_of_ble_eq_true rfl)) dL_law_1000 (lw_cs (by omega) (by omega))) hP hD hS (fun r w H locs hw hP hD hS => ?_)
            obtain ⟨rfl, e9⟩ := hw
            rw [← e9] at h
            refine tp_i (y := (-2000001)) (rfl) ?_
            refine lv_ldc (v := (-2000001)) hx hb hown (hts _ mw_369) dL_law_1003 ?_
            refine lv_icmp_ne (tgt := 1012) hx hb dL_law_1005 (by decide) (fun c_1005 => by exfalso; exact c_1005 rfl) (fun c_1005 => ?_)
            refine lv_iconst (v := (nI 1)) hx hb dL_law_1008 (by decide) ?_
            refine lv_goto (tgt := 1013) hx hb dL_law_1009 (by decide) ?_
            refine W.widen (k := 145) (n := 33635) (by omega) (by omega) ?_
            exact hret hS
          · skip
            refine wy_fin (vx_runSW (As := [.ref (z.1 0), .int (nI 0), .int (nI 14)]) (rest := []) ⟨hx, hb, hml, hown, hts⟩ (d_L_join_y l hls Γ z w h 0 (nI 14) (by omega) (isN_no hn0 hn0 (by decide))) (kcwSW 3 hts kw_L_join mw_439 (lw_rm (Nat.le_of_ble_eq_true rfl) (Nat.le_of_ble_eq_true rfl))) (kPy_S hK hP hD hXS hXN hS) rfl rfl hl.1 rfl (lv_room (Nat.le_of_ble_eq_true rfl)) dL_law_924 (lw_cs (by omega) (by omega))) hP hD hS (fun r w H locs hw hP hD hS => ?_)
            obtain ⟨rfl, e9⟩ := hw
            rw [← e9] at h
            refine tp_i (y := (-2000001)) (rfl) ?_
            refine lv_ldc (v := (-2000001)) hx hb hown (hts _ mw_369) dL_law_927 ?_
            refine lv_icmp_ne (tgt := 1012) hx hb dL_law_929 (by decide) (fun c_929 => by exfalso; exact c_929 rfl) (fun c_929 => ?_)
            refine lv_aload_n hx hb dL_law_932 rfl (lv_at hl 1 rfl) ?_
            refine lv_iconst (v := (-1)) hx hb dL_law_933 (by decide) ?_
            refine lv_iconst (v := (nI 0)) hx hb dL_law_934 (by decide) ?_
            refine wy_fin (vx_runSW (As := [.ref (z.1 0), .int (-1), .int (nI 0)]) (rest := []) ⟨hx, hb, hml, hown, hts⟩ (d_L_cut_x l hls Γ z w h (-1) (nI 0) (isN_m1 n)) (kcwSW 3 hts kw_L_cut mw_441 (lw_rm (Nat.le_of_ble_eq_true rfl) (Nat.le_of_ble_eq_true rfl))) (kPy_S hK hP hD hXS hXN hS) rfl rfl hl.1 rfl (lv_room (Nat.le_of_ble_eq_true rfl)) dL_law_935 (lw_cs (by omega) (by omega))) hP hD hS (fun r w H locs hw hP hD hS => ?_)
            obtain ⟨rfl, e9⟩ := hw
            rw [← e9] at h
            refine tp_i (y := (-2000001)) (rfl) ?_
            refine lv_ldc (v := (-2000001)) hx hb hown (hts _ mw_369) dL_law_938 ?_
            refine lv_icmp_ne (tgt := 1012) hx hb dL_law_940 (by decide) (fun c_940 => by exfalso; exact c_940 rfl) (fun c_940 => ?_)
            refine lv_aload_n hx hb dL_law_943 rfl (lv_at hl 1 rfl) ?_
            refine lv_bipush (v := (nI 14)) hx hb dL_law_944 (by decide) ?_
            refine wy_fin (vx_runSW (As := [.ref (z.1 0), .int (nI 14)]) (rest := []) ⟨hx, hb, hml, hown, hts⟩ (d_L_take_x l hls Γ z w h (nI 14) (isN_no hn0 hn0 (by decide))) (kcwSW 2 hts kw_L_take mw_443 (lw_rm (Nat.le_of_ble_eq_true rfl) (Nat.le_of_ble_eq_true rfl))) (kPy_S hK hP hD hXS hXN hS) rfl rfl hl.1 rfl (lv_room (Nat.le_of_ble_eq_true rfl)) dL_law_946 (lw_cs (by omega) (by omega))) hP hD hS (fun r w H locs hw hP hD hS => ?_)
            obtain ⟨rfl, e9⟩ := hw
            rw [← e9] at h
            refine tp_i (y := (-2000001)) (rfl) ?_
            refine lv_ldc (v := (-2000001)) hx hb hown (hts _ mw_369) dL_law_949 ?_
            refine lv_icmp_ne (tgt := 1012) hx hb dL_law_951 (by decide) (fun c_951 => by exfalso; exact c_951 rfl) (fun c_951 => ?_)
            refine lv_aload_n hx hb dL_law_954 rfl (lv_at hl 1 rfl) ?_
            refine lv_bipush (v := (nI 32)) hx hb dL_law_955 (by decide) ?_
            refine wy_fin (vx_runSW (As := [.ref (z.1 0), .int (nI 32)]) (rest := []) ⟨hx, hb, hml, hown, hts⟩ (d_L_append_x l hls Γ z w h (nI 32) (by decide)) (kcwSW 2 hts kw_L_append mw_498 (lw_rm (Nat.le_of_ble_eq_true rfl) (Nat.le_of_ble_eq_true rfl))) (kPy_S hK hP hD hXS hXN hS) rfl rfl hl.1 rfl (lv_room (Nat.le_of_ble_eq_true rfl)) dL_law_957 (lw_cs (by omega) (by omega))) hP hD hS (fun r w H locs hw hP hD hS => ?_)
            obtain ⟨rfl, e9⟩ := hw
            rw [← e9] at h
            refine tp_i (y := (-2000001)) (rfl) ?_
            refine lv_ldc (v := (-2000001)) hx hb hown (hts _ mw_369) dL_law_960 ?_
            refine lv_icmp_ne (tgt := 1012) hx hb dL_law_962 (by decide) (fun c_962 => by exfalso; exact c_962 rfl) (fun c_962 => ?_)
            refine lv_aload_n hx hb dL_law_965 rfl (lv_at hl 1 rfl) ?_
            refine lv_iconst (v := (nI 2)) hx hb dL_law_966 (by decide) ?_
            refine wy_fin (vx_runSW (As := [.ref (z.1 0), .int (nI 2)]) (rest := []) ⟨hx, hb, hml, hown, hts⟩ (d_L_keep_x l hls Γ z w h (nI 2) (by decide)) (kcwSW 2 hts kw_L_keep mw_452 (lw_rm (Nat.le_of_ble_eq_true rfl) (Nat.le_of_ble_eq_true rfl))) (kPy_S hK hP hD hXS hXN hS) rfl rfl hl.1 rfl (lv_room (Nat.le_of_ble_eq_true rfl)) dL_law_967 (lw_cs (by omega) (by omega))) hP hD hS (fun r w H locs hw hP hD hS => ?_)
            obtain ⟨rfl, e9⟩ := hw
            rw [← e9] at h
            refine tp_i (y := (-2000001)) (rfl) ?_
            refine lv_ldc (v := (-2000001)) hx hb hown (hts _ mw_369) dL_law_970 ?_
            refine lv_icmp_ne (tgt := 1012) hx hb dL_law_972 (by decide) (fun c_972 => by exfalso; exact c_972 rfl) (fun c_972 => ?_)
            refine lv_aload_n hx hb dL_law_975 rfl (lv_at hl 1 rfl) ?_
            refine lv_bipush (v := (nI 12)) hx hb dL_law_976 (by decide) ?_
            refine wy_fin (vx_runSW (As := [.ref (z.1 0), .int (nI 12)]) (rest := []) ⟨hx, hb, hml, hown, hts⟩ (d_L_count_x l hls Γ z w h (nI 12) (by decide)) (kcwSW 2 hts kw_L_count mw_454 (lw_rm (Nat.le_of_ble_eq_true rfl) (Nat.le_of_ble_eq_true rfl))) (kPy_S hK hP hD hXS hXN hS) rfl rfl hl.1 rfl (lv_room (Nat.le_of_ble_eq_true rfl)) dL_law_978 (lw_cs (by omega) (by omega))) hP hD hS (fun r w H locs hw hP hD hS => ?_)
            obtain ⟨rfl, e9⟩ := hw
            rw [← e9] at h
            refine tp_i (y := (-2000001)) (rfl) ?_
            refine lv_ldc (v := (-2000001)) hx hb hown (hts _ mw_369) dL_law_981 ?_
            refine lv_icmp_ne (tgt := 1012) hx hb dL_law_983 (by decide) (fun c_983 => by exfalso; exact c_983 rfl) (fun c_983 => ?_)
            refine lv_aload_n hx hb dL_law_986 rfl (lv_at hl 1 rfl) ?_
            refine lv_iconst (v := (-1)) hx hb dL_law_987 (by decide) ?_
            refine wy_fin (vx_runSW (As := [.ref (z.1 0), .int (-1)]) (rest := []) ⟨hx, hb, hml, hown, hts⟩ (d_L_value_x l hls Γ z w h (-1) (val_neg hw3)) (kcwSW 2 hts kw_L_value mw_465 (lw_rm (Nat.le_of_ble_eq_true rfl) (Nat.le_of_ble_eq_true rfl))) (kPy_S hK hP hD hXS hXN hS) rfl rfl hl.1 rfl (lv_room (Nat.le_of_ble_eq_true rfl)) dL_law_988 (lw_cs (by omega) (by omega))) hP hD hS (fun r w H locs hw hP hD hS => ?_)
            obtain ⟨rfl, e9⟩ := hw
            rw [← e9] at h
            refine tp_i (y := (-2000001)) (rfl) ?_
            refine lv_ldc (v := (-2000001)) hx hb hown (hts _ mw_369) dL_law_991 ?_
            refine lv_icmp_ne (tgt := 1012) hx hb dL_law_993 (by decide) (fun c_993 => by exfalso; exact c_993 rfl) (fun c_993 => ?_)
            refine lv_aload_n hx hb dL_law_996 rfl (lv_at hl 1 rfl) ?_
            refine lv_bipush (v := (nI 14)) hx hb dL_law_997 (by decide) ?_
            refine lv_iconst (v := (nI 0)) hx hb dL_law_999 (by decide) ?_
            refine wy_fin (vx_runSW (As := [.ref (z.1 0), .int (nI 14), .int (nI 0)]) (rest := []) ⟨hx, hb, hml, hown, hts⟩ (d_L_ifJoined_x l hls Γ z w h (nI 14) (nI 0) (isN_no hn0 hn0 (by decide))) (kcwSW 3 hts kw_L_ifJoined mw_494 (lw_rm (Nat.le_of_ble_eq_true rfl) (Nat.le_of_ble_eq_true rfl))) (kPy_S hK hP hD hXS hXN hS) rfl rfl hl.1 rfl (lv_room (Nat.le_of_ble_eq_true rfl)) dL_law_1000 (lw_cs (by omega) (by omega))) hP hD hS (fun r w H locs hw hP hD hS => ?_)
            obtain ⟨rfl, e9⟩ := hw
            rw [← e9] at h
            refine tp_i (y := (-2000001)) (rfl) ?_
            refine lv_ldc (v := (-2000001)) hx hb hown (hts _ mw_369) dL_law_1003 ?_
            refine lv_icmp_ne (tgt := 1012) hx hb dL_law_1005 (by decide) (fun c_1005 => by exfalso; exact c_1005 rfl) (fun c_1005 => ?_)
            refine lv_iconst (v := (nI 1)) hx hb dL_law_1008 (by decide) ?_
            refine lv_goto (tgt := 1013) hx hb dL_law_1009 (by decide) ?_
            refine W.widen (k := 145) (n := 33635) (by omega) (by omega) ?_
            exact hret hS
        refine lv_iload_n hx hb dL_law_686 rfl (lv_at hl 1 rfl) ?_
        refine nb_if_eq (tgt := 702) hx hb (by omega) dL_law_687 (by decide) (fun c_687 => by exfalso; omega) (fun c_687 => ?_)
        refine lv_aload_n hx hb dL_law_690 rfl (lv_at hl 2 rfl) ?_
        refine lv_iconst (v := (nI 5)) hx hb dL_law_691 (by decide) ?_
        refine wy_fin (vx_runSW (As := [.ref (z.1 0), .int (nI 5)]) (rest := []) ⟨hx, hb, hml, hown, hts⟩ (d_L_count_a l Γ z w h 5 (by decide)) (kcwSW 2 hts kw_L_count mw_454 (lw_rm (Nat.le_of_ble_eq_true rfl) (Nat.le_of_ble_eq_true rfl))) (kPy_S hK hP hD hXS hXN hS) rfl rfl hl.1 rfl (lv_room (Nat.le_of_ble_eq_true rfl)) dL_law_692 (lw_cs (by omega) (by omega))) hP hD hS (fun r w H locs hw hP hD hS => ?_)
        obtain ⟨rfl, h⟩ := hw
        refine tp_i (y := (nI (V g th))) (rfl) ?_
        refine nb_if_le (tgt := 702) hx hb (Nat.lt_trans (V_16 _ _) (by decide)) dL_law_695 (by decide) (fun c_695 => ?_) (fun c_695 => ?_)
        · skip
          refine lv_iconst (v := (nI 0)) hx hb dL_law_702 (by decide) ?_
          refine lv_istore_n (lv' := [(3, .int (nI 0)), (2, .int (nI 1)), (1, .ref (z.1 0)), (0, .ref zb)]) hx hb dL_law_703 rfl hl (by decide) rfl (fun ls hl => ?_)
          refine lv_iload_n hx hb dL_law_704 rfl (lv_at hl 1 rfl) ?_
          refine nb_if_eq (tgt := 717) hx hb (by omega) dL_law_705 (by decide) (fun c_705 => by exfalso; omega) (fun c_705 => ?_)
          refine lv_aload_n hx hb dL_law_708 rfl (lv_at hl 2 rfl) ?_
          refine lv_bipush (v := (nI 8)) hx hb dL_law_709 (by decide) ?_
          refine wy_fin (vx_runSW (As := [.ref (z.1 0), .int (nI 8)]) (rest := []) ⟨hx, hb, hml, hown, hts⟩ (d_L_count_a l Γ z w h 8 (by decide)) (kcwSW 2 hts kw_L_count mw_454 (lw_rm (Nat.le_of_ble_eq_true rfl) (Nat.le_of_ble_eq_true rfl))) (kPy_S hK hP hD hXS hXN hS) rfl rfl hl.1 rfl (lv_room (Nat.le_of_ble_eq_true rfl)) dL_law_711 (lw_cs (by omega) (by omega))) hP hD hS (fun r w H locs hw hP hD hS => ?_)
          obtain ⟨rfl, h⟩ := hw
          refine tp_i (y := (nI (mv &&& 1))) (rfl) ?_
          refine lv_goto (tgt := 718) hx hb dL_law_714 (by decide) ?_
          refine lv_istore (lv' := [(4, .int (nI (mv &&& 1))), (3, .int (nI 0)), (2, .int (nI 1)), (1, .ref (z.1 0)), (0, .ref zb)]) hx hb dL_law_718 hl (by decide) rfl (fun ls hl => ?_)
          refine lv_iconst (v := (nI 0)) hx hb dL_law_720 (by decide) ?_
          refine lv_istore (lv' := [(5, .int (nI 0)), (4, .int (nI (mv &&& 1))), (3, .int (nI 0)), (2, .int (nI 1)), (1, .ref (z.1 0)), (0, .ref zb)]) hx hb dL_law_721 hl (by decide) rfl (fun ls hl => ?_)
          refine lv_iload hx hb dL_law_723 (lv_at hl 0 rfl) ?_
          refine lv_bipush (v := (nI 14)) hx hb dL_law_725 (by decide) ?_
          refine nb_icmp_ge (tgt := 865) hx hb (by omega) (by omega) dL_law_727 (by decide) (fun c_727 => by exfalso; omega) (fun c_727 => ?_)
          refine lv_iload_n hx hb dL_law_730 rfl (lv_at hl 3 rfl) ?_
          refine nb_if_eq (tgt := 865) hx hb (by omega) dL_law_731 (by decide) (fun c_731 => by exfalso; omega) (fun c_731 => ?_)
          refine lv_iload_n hx hb dL_law_734 rfl (lv_at hl 2 rfl) ?_
          refine nb_if_eq (tgt := 865) hx hb (by omega) dL_law_735 (by decide) (fun c_735 => ?_) (fun c_735 => by exfalso; omega)
          refine lv_iload_n hx hb dL_law_865 rfl (lv_at hl 3 rfl) ?_
          refine nb_if_eq (tgt := 896) hx hb (by omega) dL_law_866 (by decide) (fun c_866 => by exfalso; omega) (fun c_866 => ?_)
          refine lv_iload_n hx hb dL_law_869 rfl (lv_at hl 2 rfl) ?_
          refine nb_if_eq (tgt := 892) hx hb (by omega) dL_law_870 (by decide) (fun c_870 => ?_) (fun c_870 => by exfalso; omega)
          refine lv_iconst (v := (nI 1)) hx hb dL_law_892 (by decide) ?_
          refine lv_goto (tgt := 897) hx hb dL_law_893 (by decide) ?_
          refine lv_istore_n (lv' := [(2, .int (nI 1)), (5, .int (nI 0)), (4, .int (nI (mv &&& 1))), (3, .int (nI 0)), (1, .ref (z.1 0)), (0, .ref zb)]) hx hb dL_law_897 rfl hl (by decide) rfl (fun ls hl => ?_)
          exact CT898 th mv k  _ h _ _ hP hD hS ls (lv_sub hl [0, 4, 5] rfl)
        · skip
          refine lv_iconst (v := (nI 1)) hx hb dL_law_698 (by decide) ?_
          refine lv_goto (tgt := 703) hx hb dL_law_699 (by decide) ?_
          refine lv_istore_n (lv' := [(3, .int (nI 1)), (2, .int (nI 1)), (1, .ref (z.1 0)), (0, .ref zb)]) hx hb dL_law_703 rfl hl (by decide) rfl (fun ls hl => ?_)
          refine lv_iload_n hx hb dL_law_704 rfl (lv_at hl 1 rfl) ?_
          refine nb_if_eq (tgt := 717) hx hb (by omega) dL_law_705 (by decide) (fun c_705 => by exfalso; omega) (fun c_705 => ?_)
          refine lv_aload_n hx hb dL_law_708 rfl (lv_at hl 2 rfl) ?_
          refine lv_bipush (v := (nI 8)) hx hb dL_law_709 (by decide) ?_
          refine wy_fin (vx_runSW (As := [.ref (z.1 0), .int (nI 8)]) (rest := []) ⟨hx, hb, hml, hown, hts⟩ (d_L_count_a l Γ z w h 8 (by decide)) (kcwSW 2 hts kw_L_count mw_454 (lw_rm (Nat.le_of_ble_eq_true rfl) (Nat.le_of_ble_eq_true rfl))) (kPy_S hK hP hD hXS hXN hS) rfl rfl hl.1 rfl (lv_room (Nat.le_of_ble_eq_true rfl)) dL_law_711 (lw_cs (by omega) (by omega))) hP hD hS (fun r w H locs hw hP hD hS => ?_)
          obtain ⟨rfl, h⟩ := hw
          refine tp_i (y := (nI (mv &&& 1))) (rfl) ?_
          refine lv_goto (tgt := 718) hx hb dL_law_714 (by decide) ?_
          refine lv_istore (lv' := [(4, .int (nI (mv &&& 1))), (3, .int (nI 1)), (2, .int (nI 1)), (1, .ref (z.1 0)), (0, .ref zb)]) hx hb dL_law_718 hl (by decide) rfl (fun ls hl => ?_)
          refine lv_iconst (v := (nI 0)) hx hb dL_law_720 (by decide) ?_
          refine lv_istore (lv' := [(5, .int (nI 0)), (4, .int (nI (mv &&& 1))), (3, .int (nI 1)), (2, .int (nI 1)), (1, .ref (z.1 0)), (0, .ref zb)]) hx hb dL_law_721 hl (by decide) rfl (fun ls hl => ?_)
          have LP723 : ∀ (fu : Nat) (j1 : Nat) (th2 : Nat) (mv2 : Nat) (k2 : Nat) (hj1 : j1 ≤ 14) (hpj : pc th2 + j1 ≤ 14) (hv1 : mv2 &&& 1 = mv &&& 1 → V g th2 ≠ 0) (hv2 : mv2 &&& 1 ≠ mv &&& 1 → V g th2 = 0), (14 - j1) < fu → ∀ (w : tST), OKW n th2 mv2 g k2 w → ∀ (H : Heap) (locs : List Loc), va_P Γ.1 vwCl (LW Γ z w) H → va_D A (LW Γ z w) → va_S A st.heap H locs → ∀ (ls : Array Slot), lv_has ls 17 [(5, .int (nI j1)), (4, .int (nI (mv &&& 1))), (3, .int (nI 1)), (2, .int (nI 1)), (1, .ref (z.1 0)), (0, .ref zb)] → W p l ev room_1 st mi args below meth cd H locs (53 + 5 * 16) (33083 + 30 * 16) Q (F0 mi 723 ls []) := by
            intro fu
            induction fu with
            | zero => intro j1 th2 mv2 k2 hj1 hpj hv1 hv2 hfu; exact absurd hfu (Nat.not_lt_zero _)
            | succ fu ih723 =>
              intro j1 th2 mv2 k2 hj1 hpj hv1 hv2 hfu w h H locs hP hD hS ls hl
              have hC2 := h.2.2.1
              have hth2 := hC2.2.2.1
              have hw2 := w14 hth2 hn0
              refine lv_iload hx hb dL_law_723 (lv_at hl 0 rfl) ?_
              refine lv_bipush (v := (nI 14)) hx hb dL_law_725 (by decide) ?_
              refine nb_icmp_ge (tgt := 865) hx hb (by omega) (by omega) dL_law_727 (by decide) (fun c_727 => ?_) (fun c_727 => ?_)
              · skip
                have hz9 : th2 = 0 := pc_z hw2 (by omega)
                refine lv_iload_n hx hb dL_law_865 rfl (lv_at hl 3 rfl) ?_
                refine nb_if_eq (tgt := 896) hx hb (by omega) dL_law_866 (by decide) (fun c_866 => by exfalso; omega) (fun c_866 => ?_)
                refine lv_iload_n hx hb dL_law_869 rfl (lv_at hl 2 rfl) ?_
                refine nb_if_eq (tgt := 892) hx hb (by omega) dL_law_870 (by decide) (fun c_870 => by exfalso; omega) (fun c_870 => ?_)
                refine lv_aload_n hx hb dL_law_873 rfl (lv_at hl 4 rfl) ?_
                refine lv_iconst (v := (nI 1)) hx hb dL_law_874 (by decide) ?_
                refine wy_fin (vx_runSW (As := [.ref (z.1 0), .int (nI 1)]) (rest := []) ⟨hx, hb, hml, hown, hts⟩ (d_L_count_a l Γ z w h 1 (by decide)) (kcwSW 2 hts kw_L_count mw_454 (lw_rm (Nat.le_of_ble_eq_true rfl) (Nat.le_of_ble_eq_true rfl))) (kPy_S hK hP hD hXS hXN hS) rfl rfl hl.1 rfl (lv_room (Nat.le_of_ble_eq_true rfl)) dL_law_875 (lw_cs (by omega) (by omega))) hP hD hS (fun r w H locs hw hP hD hS => ?_)
                obtain ⟨rfl, h⟩ := hw
                refine tp_i (y := (nI (pc th2))) (rfl) ?_
                refine nb_if_ne (tgt := 896) hx hb (Nat.lt_of_le_of_lt (pc_le _) (by decide)) dL_law_878 (by decide) (fun c_878 => by exfalso; exact c_878 (by rw [hz9]; exact pcn_zero 14)) (fun c_878 => ?_)
                refine lv_aload_n hx hb dL_law_881 rfl (lv_at hl 4 rfl) ?_
                refine lv_bipush (v := (nI 8)) hx hb dL_law_882 (by decide) ?_
                refine wy_fin (vx_runSW (As := [.ref (z.1 0), .int (nI 8)]) (rest := []) ⟨hx, hb, hml, hown, hts⟩ (d_L_count_a l Γ z w h 8 (by decide)) (kcwSW 2 hts kw_L_count mw_454 (lw_rm (Nat.le_of_ble_eq_true rfl) (Nat.le_of_ble_eq_true rfl))) (kPy_S hK hP hD hXS hXN hS) rfl rfl hl.1 rfl (lv_room (Nat.le_of_ble_eq_true rfl)) dL_law_884 (lw_cs (by omega) (by omega))) hP hD hS (fun r w H locs hw hP hD hS => ?_)
                obtain ⟨rfl, h⟩ := hw
                refine tp_i (y := (nI (mv2 &&& 1))) (rfl) ?_
                refine lv_iload hx hb dL_law_887 (lv_at hl 1 rfl) ?_
                refine nb_icmp_eq (tgt := 896) hx hb (Nat.lt_of_le_of_lt (par_le _) (by decide)) (Nat.lt_of_le_of_lt (par_le _) (by decide)) dL_law_889 (by decide) (fun c_889 => by exfalso; exact hv1 c_889 (by rw [hz9]; exact V_0 g)) (fun c_889 => ?_)
                refine lv_iconst (v := (nI 1)) hx hb dL_law_892 (by decide) ?_
                refine lv_goto (tgt := 897) hx hb dL_law_893 (by decide) ?_
                refine lv_istore_n (lv' := [(2, .int (nI 1)), (5, .int (nI j1)), (4, .int (nI (mv &&& 1))), (3, .int (nI 1)), (1, .ref (z.1 0)), (0, .ref zb)]) hx hb dL_law_897 rfl hl (by decide) rfl (fun ls hl => ?_)
                exact CT898 th2 mv2 k2  _ h _ _ hP hD hS ls (lv_sub hl [0, 4, 5] rfl)
              · skip
                refine lv_iload_n hx hb dL_law_730 rfl (lv_at hl 3 rfl) ?_
                refine nb_if_eq (tgt := 865) hx hb (by omega) dL_law_731 (by decide) (fun c_731 => by exfalso; omega) (fun c_731 => ?_)
                refine lv_iload_n hx hb dL_law_734 rfl (lv_at hl 2 rfl) ?_
                refine nb_if_eq (tgt := 865) hx hb (by omega) dL_law_735 (by decide) (fun c_735 => by exfalso; omega) (fun c_735 => ?_)
                refine lv_aload_n hx hb dL_law_738 rfl (lv_at hl 4 rfl) ?_
                refine lv_iconst (v := (nI 1)) hx hb dL_law_739 (by decide) ?_
                refine wy_fin (vx_runSW (As := [.ref (z.1 0), .int (nI 1)]) (rest := []) ⟨hx, hb, hml, hown, hts⟩ (d_L_count_a l Γ z w h 1 (by decide)) (kcwSW 2 hts kw_L_count mw_454 (lw_rm (Nat.le_of_ble_eq_true rfl) (Nat.le_of_ble_eq_true rfl))) (kPy_S hK hP hD hXS hXN hS) rfl rfl hl.1 rfl (lv_room (Nat.le_of_ble_eq_true rfl)) dL_law_740 (lw_cs (by omega) (by omega))) hP hD hS (fun r w H locs hw hP hD hS => ?_)
                obtain ⟨rfl, h⟩ := hw
                refine tp_i (y := (nI (pc th2))) (rfl) ?_
                refine nb_if_le (tgt := 865) hx hb (Nat.lt_of_le_of_lt (pc_le _) (by decide)) dL_law_743 (by decide) (fun c_743 => ?_) (fun c_743 => ?_)
                · skip
                  have hz9 : th2 = 0 := pc_z hw2 c_743
                  refine lv_iload_n hx hb dL_law_865 rfl (lv_at hl 3 rfl) ?_
                  refine nb_if_eq (tgt := 896) hx hb (by omega) dL_law_866 (by decide) (fun c_866 => by exfalso; omega) (fun c_866 => ?_)
                  refine lv_iload_n hx hb dL_law_869 rfl (lv_at hl 2 rfl) ?_
                  refine nb_if_eq (tgt := 892) hx hb (by omega) dL_law_870 (by decide) (fun c_870 => by exfalso; omega) (fun c_870 => ?_)
                  refine lv_aload_n hx hb dL_law_873 rfl (lv_at hl 4 rfl) ?_
                  refine lv_iconst (v := (nI 1)) hx hb dL_law_874 (by decide) ?_
                  refine wy_fin (vx_runSW (As := [.ref (z.1 0), .int (nI 1)]) (rest := []) ⟨hx, hb, hml, hown, hts⟩ (d_L_count_a l Γ z w h 1 (by decide)) (kcwSW 2 hts kw_L_count mw_454 (lw_rm (Nat.le_of_ble_eq_true rfl) (Nat.le_of_ble_eq_true rfl))) (kPy_S hK hP hD hXS hXN hS) rfl rfl hl.1 rfl (lv_room (Nat.le_of_ble_eq_true rfl)) dL_law_875 (lw_cs (by omega) (by omega))) hP hD hS (fun r w H locs hw hP hD hS => ?_)
                  obtain ⟨rfl, h⟩ := hw
                  refine tp_i (y := (nI (pc th2))) (rfl) ?_
                  refine nb_if_ne (tgt := 896) hx hb (Nat.lt_of_le_of_lt (pc_le _) (by decide)) dL_law_878 (by decide) (fun c_878 => by exfalso; exact c_878 (by rw [hz9]; exact pcn_zero 14)) (fun c_878 => ?_)
                  refine lv_aload_n hx hb dL_law_881 rfl (lv_at hl 4 rfl) ?_
                  refine lv_bipush (v := (nI 8)) hx hb dL_law_882 (by decide) ?_
                  refine wy_fin (vx_runSW (As := [.ref (z.1 0), .int (nI 8)]) (rest := []) ⟨hx, hb, hml, hown, hts⟩ (d_L_count_a l Γ z w h 8 (by decide)) (kcwSW 2 hts kw_L_count mw_454 (lw_rm (Nat.le_of_ble_eq_true rfl) (Nat.le_of_ble_eq_true rfl))) (kPy_S hK hP hD hXS hXN hS) rfl rfl hl.1 rfl (lv_room (Nat.le_of_ble_eq_true rfl)) dL_law_884 (lw_cs (by omega) (by omega))) hP hD hS (fun r w H locs hw hP hD hS => ?_)
                  obtain ⟨rfl, h⟩ := hw
                  refine tp_i (y := (nI (mv2 &&& 1))) (rfl) ?_
                  refine lv_iload hx hb dL_law_887 (lv_at hl 1 rfl) ?_
                  refine nb_icmp_eq (tgt := 896) hx hb (Nat.lt_of_le_of_lt (par_le _) (by decide)) (Nat.lt_of_le_of_lt (par_le _) (by decide)) dL_law_889 (by decide) (fun c_889 => by exfalso; exact hv1 c_889 (by rw [hz9]; exact V_0 g)) (fun c_889 => ?_)
                  refine lv_iconst (v := (nI 1)) hx hb dL_law_892 (by decide) ?_
                  refine lv_goto (tgt := 897) hx hb dL_law_893 (by decide) ?_
                  refine lv_istore_n (lv' := [(2, .int (nI 1)), (5, .int (nI j1)), (4, .int (nI (mv &&& 1))), (3, .int (nI 1)), (1, .ref (z.1 0)), (0, .ref zb)]) hx hb dL_law_897 rfl hl (by decide) rfl (fun ls hl => ?_)
                  exact CT898 th2 mv2 k2  _ h _ _ hP hD hS ls (lv_sub hl [0, 4, 5] rfl)
                · skip
                  refine lv_aload_n hx hb dL_law_746 rfl (lv_at hl 4 rfl) ?_
                  refine lv_bipush (v := (nI 8)) hx hb dL_law_747 (by decide) ?_
                  refine wy_fin (vx_runSW (As := [.ref (z.1 0), .int (nI 8)]) (rest := []) ⟨hx, hb, hml, hown, hts⟩ (d_L_count_a l Γ z w h 8 (by decide)) (kcwSW 2 hts kw_L_count mw_454 (lw_rm (Nat.le_of_ble_eq_true rfl) (Nat.le_of_ble_eq_true rfl))) (kPy_S hK hP hD hXS hXN hS) rfl rfl hl.1 rfl (lv_room (Nat.le_of_ble_eq_true rfl)) dL_law_749 (lw_cs (by omega) (by omega))) hP hD hS (fun r w H locs hw hP hD hS => ?_)
                  obtain ⟨rfl, h⟩ := hw
                  refine tp_i (y := (nI (mv2 &&& 1))) (rfl) ?_
                  refine lv_iload hx hb dL_law_752 (lv_at hl 1 rfl) ?_
                  refine nb_icmp_ne (tgt := 789) hx hb (Nat.lt_of_le_of_lt (par_le _) (by decide)) (Nat.lt_of_le_of_lt (par_le _) (by decide)) dL_law_754 (by decide) (fun c_754 => ?_) (fun c_754 => ?_)
                  · skip
                    have hnz : th2 ≠ 0 := fun q9 => by rw [q9] at c_743; exact absurd c_743 (by decide)
                    have hnp : 0 < n := n_pos hth2 hnz
                    refine lv_aload_n hx hb dL_law_789 rfl (lv_at hl 5 rfl) ?_
                    refine lv_bipush (v := (nI 20)) hx hb dL_law_790 (by decide) ?_
                    refine lv_iload hx hb dL_law_792 (lv_at hl 0 rfl) ?_
                    refine lv_iadd hx hb dL_law_794 ?_
                    refine tp_i (y := (nI (20 + j1))) (nI_add _ _) ?_
                    have hcl9 := celN_lt xs zl (20 + j1)
                    generalize hy9 : celN xs zl (20 + j1) = y9 at hcl9
                    refine ro_fin (va_runS (As := [.ref zb, .int (nI (20 + j1))]) (rest := []) ⟨hx, hb, hml, hown, hts⟩ (c_L_cell l Γ zb zl xs (20 + j1) (by omega) hzl) (kcwS 2 hts kv_L_cell mw_492 (lw_rm (Nat.le_of_ble_eq_true rfl) (Nat.le_of_ble_eq_true rfl))) (kPs_S hK hX hbl hbA hS) rfl rfl hl.1 rfl (lv_room (Nat.le_of_ble_eq_true rfl)) dL_law_795 (lw_cs (by omega) (by omega))) hS (fun locs hS => ?_)
                    refine tp_i (y := (nI y9)) (by rw [hy9]) ?_
                    refine lv_aload_n hx hb dL_law_798 rfl (lv_at hl 4 rfl) ?_
                    refine lv_iconst (v := (nI 0)) hx hb dL_law_799 (by decide) ?_
                    refine wy_fin (vx_runSW (As := [.ref (z.1 0), .int (nI 0)]) (rest := [.int (nI y9)]) ⟨hx, hb, hml, hown, hts⟩ (d_L_count_a l Γ z w h 0 (by decide)) (kcwSW 2 hts kw_L_count mw_454 (lw_rm (Nat.le_of_ble_eq_true rfl) (Nat.le_of_ble_eq_true rfl))) (kPy_S hK hP hD hXS hXN hS) rfl rfl hl.1 rfl (lv_room (Nat.le_of_ble_eq_true rfl)) dL_law_800 (lw_cs (by omega) (by omega))) hP hD hS (fun r w H locs hw hP hD hS => ?_)
                    obtain ⟨rfl, h⟩ := hw
                    refine tp_i (y := (nI n)) (rfl) ?_
                    refine lv_irem hx hb dL_law_803 (nI_ne0 (by omega) (by omega)) ?_
                    refine tp_i (y := (nI (y9 % n))) (pk_rem (by omega) (by omega) (by omega)) ?_
                    refine lv_istore (lv' := [(6, .int (nI (y9 % n))), (5, .int (nI j1)), (4, .int (nI (mv &&& 1))), (3, .int (nI 1)), (2, .int (nI 1)), (1, .ref (z.1 0)), (0, .ref zb)]) hx hb dL_law_804 hl (by decide) rfl (fun ls hl => ?_)
                    refine lv_iconst (v := (nI 0)) hx hb dL_law_806 (by decide) ?_
                    refine lv_istore (lv' := [(7, .int (nI 0)), (6, .int (nI (y9 % n))), (5, .int (nI j1)), (4, .int (nI (mv &&& 1))), (3, .int (nI 1)), (2, .int (nI 1)), (1, .ref (z.1 0)), (0, .ref zb)]) hx hb dL_law_807 hl (by decide) rfl (fun ls hl => ?_)
                    have LP809 : ∀ (fu : Nat) (q1 : Nat) (v1 : Nat) (hq1 : q1 ≤ 14) (hv3 : v1 = (y9 % n + q1) % n) (hv4 : ∀ t, t < q1 → th2.testBit ((y9 % n + t) % n) = false), (14 - q1) < fu → ∀ (w : tST), OKW n th2 mv2 g k2 w → ∀ (H : Heap) (locs : List Loc), va_P Γ.1 vwCl (LW Γ z w) H → va_D A (LW Γ z w) → va_S A st.heap H locs → ∀ (ls : Array Slot), lv_has ls 17 [(7, .int (nI q1)), (6, .int (nI v1)), (5, .int (nI j1)), (4, .int (nI (mv &&& 1))), (3, .int (nI 1)), (2, .int (nI 1)), (1, .ref (z.1 0)), (0, .ref zb)] → W p l ev room_1 st mi args below meth cd H locs (53 + 5 * 16) (33083 + 30 * 16) Q (F0 mi 809 ls []) := by
                      intro fu
                      induction fu with
                      | zero => intro q1 v1 hq1 hv3 hv4 hfu; exact absurd hfu (Nat.not_lt_zero _)
                      | succ fu ih809 =>
                        intro q1 v1 hq1 hv3 hv4 hfu w h H locs hP hD hS ls hl
                        have hvn : v1 < n := by rw [hv3]; exact Nat.mod_lt _ hnp
                        refine lv_iload hx hb dL_law_809 (lv_at hl 0 rfl) ?_
                        refine lv_bipush (v := (nI 14)) hx hb dL_law_811 (by decide) ?_
                        refine nb_icmp_ge (tgt := 844) hx hb (by omega) (by omega) dL_law_813 (by decide) (fun c_813 => by exfalso; exact hnz (ring_all hn0 (Nat.mod_lt _ hnp) hth2 (fun t9 h9 => hv4 t9 (by omega)))) (fun c_813 => ?_)
                        refine lv_aload_n hx hb dL_law_816 rfl (lv_at hl 6 rfl) ?_
                        refine lv_iload hx hb dL_law_817 (lv_at hl 1 rfl) ?_
                        refine lv_iconst (v := (nI 0)) hx hb dL_law_819 (by decide) ?_
                        refine wy_fin (vx_runSW (As := [.ref (z.1 0), .int (nI v1), .int (nI 0)]) (rest := []) ⟨hx, hb, hml, hown, hts⟩ (d_L_nodeOf_a l Γ z w h v1 0 hvn (by decide)) (kcwSW 3 hts kw_L_nodeOf mw_459 (lw_rm (Nat.le_of_ble_eq_true rfl) (Nat.le_of_ble_eq_true rfl))) (kPy_S hK hP hD hXS hXN hS) rfl rfl hl.1 rfl (lv_room (Nat.le_of_ble_eq_true rfl)) dL_law_820 (lw_cs (by omega) (by omega))) hP hD hS (fun r w H locs hw hP hD hS => ?_)
                        obtain ⟨rfl, h⟩ := hw
                        refine tp_i (y := (nI ((th2.testBit v1).toNat))) (rfl) ?_
                        refine nb_if_ne (tgt := 844) hx hb (tn_lt _) dL_law_823 (by decide) (fun c_823 => ?_) (fun c_823 => ?_)
                        · skip
                          have hb9 : th2.testBit v1 = true := tn_n0 c_823
                          refine lv_aload_n hx hb dL_law_844 rfl (lv_at hl 6 rfl) ?_
                          refine lv_iload hx hb dL_law_845 (lv_at hl 1 rfl) ?_
                          refine wy_fin (vx_runSW (As := [.ref (z.1 0), .int (nI v1)]) (rest := []) ⟨hx, hb, hml, hown, hts⟩ (d_L_take_a l Γ z w h v1 hvn hb9) (kcwSW 2 hts kw_L_take mw_443 (lw_rm (Nat.le_of_ble_eq_true rfl) (Nat.le_of_ble_eq_true rfl))) (kPy_S hK hP hD hXS hXN hS) rfl rfl hl.1 rfl (lv_room (Nat.le_of_ble_eq_true rfl)) dL_law_847 (lw_cs (by omega) (by omega))) hP hD hS (fun r w H locs hw hP hD hS => ?_)
                          obtain ⟨rfl, h⟩ := hw
                          refine tp_i (y := (nI (pc th2 - pc (lft g th2 v1)))) (rfl) ?_
                          refine nb_if_le (tgt := 857) hx hb (by have q8 := pc_le th2; omega) dL_law_850 (by decide) (fun c_850 => by exfalso; have q9 := lft_pc (g := g) hw2 hb9; omega) (fun c_850 => ?_)
                          refine lv_iconst (v := (nI 1)) hx hb dL_law_853 (by decide) ?_
                          refine lv_goto (tgt := 858) hx hb dL_law_854 (by decide) ?_
                          refine lv_istore_n (lv' := [(2, .int (nI 1)), (7, .int (nI q1)), (6, .int (nI v1)), (5, .int (nI j1)), (4, .int (nI (mv &&& 1))), (3, .int (nI 1)), (1, .ref (z.1 0)), (0, .ref zb)]) hx hb dL_law_858 rfl hl (by decide) rfl (fun ls hl => ?_)
                          refine lv_iinc (v := (nI (j1 + 1))) (lv' := [(5, .int (nI (j1 + 1))), (2, .int (nI 1)), (7, .int (nI q1)), (6, .int (nI v1)), (4, .int (nI (mv &&& 1))), (3, .int (nI 1)), (1, .ref (z.1 0)), (0, .ref zb)]) hx hb dL_law_859 hl (k := 3) rfl (nI_1 _) (by decide) rfl (fun ls hl => ?_)
                          refine lv_goto (tgt := 723) hx hb dL_law_862 (by decide) ?_
                          exact ih723 (j1 + 1) (lft g th2 v1) (mv2 + 1) (svS k2 + 1) (by omega) (by have q9 := lft_pc (g := g) hw2 hb9; omega) (fun _ q9 => V_ne hw2 hb9 (q9.trans (hv2 c_754).symm)) (fun q9 => absurd (show (mv2 + 1) &&& 1 = mv &&& 1 by rw [par_s]; have q7 := par_le mv; have q8 := par_le mv2; omega) q9) (by omega) _ h _ _ hP hD hS ls (lv_sub hl [0, 4, 5, 1, 6, 7] rfl)
                        · skip
                          have hb9 : th2.testBit v1 = false := tn_0 c_823
                          refine lv_iload hx hb dL_law_826 (lv_at hl 1 rfl) ?_
                          refine lv_iconst (v := (nI 1)) hx hb dL_law_828 (by decide) ?_
                          refine lv_iadd hx hb dL_law_829 ?_
                          refine tp_i (y := (nI (v1 + 1))) (nI_add _ _) ?_
                          refine lv_aload_n hx hb dL_law_830 rfl (lv_at hl 6 rfl) ?_
                          refine lv_iconst (v := (nI 0)) hx hb dL_law_831 (by decide) ?_
                          refine wy_fin (vx_runSW (As := [.ref (z.1 0), .int (nI 0)]) (rest := [.int (nI (v1 + 1))]) ⟨hx, hb, hml, hown, hts⟩ (d_L_count_a l Γ z w h 0 (by decide)) (kcwSW 2 hts kw_L_count mw_454 (lw_rm (Nat.le_of_ble_eq_true rfl) (Nat.le_of_ble_eq_true rfl))) (kPy_S hK hP hD hXS hXN hS) rfl rfl hl.1 rfl (lv_room (Nat.le_of_ble_eq_true rfl)) dL_law_832 (lw_cs (by omega) (by omega))) hP hD hS (fun r w H locs hw hP hD hS => ?_)
                          obtain ⟨rfl, h⟩ := hw
                          refine tp_i (y := (nI n)) (rfl) ?_
                          refine lv_irem hx hb dL_law_835 (nI_ne0 (by omega) (by omega)) ?_
                          refine tp_i (y := (nI ((v1 + 1) % n))) (pk_rem (by omega) (by omega) (by omega)) ?_
                          refine lv_istore (lv' := [(6, .int (nI ((v1 + 1) % n))), (7, .int (nI q1)), (5, .int (nI j1)), (4, .int (nI (mv &&& 1))), (3, .int (nI 1)), (2, .int (nI 1)), (1, .ref (z.1 0)), (0, .ref zb)]) hx hb dL_law_836 hl (by decide) rfl (fun ls hl => ?_)
                          refine lv_iinc (v := (nI (q1 + 1))) (lv' := [(7, .int (nI (q1 + 1))), (6, .int (nI ((v1 + 1) % n))), (5, .int (nI j1)), (4, .int (nI (mv &&& 1))), (3, .int (nI 1)), (2, .int (nI 1)), (1, .ref (z.1 0)), (0, .ref zb)]) hx hb dL_law_838 hl (k := 1) rfl (nI_1 _) (by decide) rfl (fun ls hl => ?_)
                          refine lv_goto (tgt := 809) hx hb dL_law_841 (by decide) ?_
                          exact ih809 (q1 + 1) ((v1 + 1) % n) (by omega) (by rw [hv3, ring_s]) (fun t9 h9 => if e9 : t9 = q1 then (by rw [e9, ← hv3]; exact hb9) else hv4 t9 (by omega)) (by omega) _ h _ _ hP hD hS ls (lv_sub hl [0, 1, 2, 3, 4, 5, 6, 7] rfl)
                    exact LP809 ((14 - 0) + 1) 0 (y9 % n) (by omega) (by rw [Nat.add_zero, Nat.mod_mod]) (fun t9 h9 => absurd h9 (Nat.not_lt_zero _)) (Nat.lt_succ_self _) _ h _ _ hP hD hS ls (lv_cast (lv_sub hl [0, 1, 2, 3, 4, 5, 6, 7] rfl) (by rfl))
                  · skip
                    refine lv_aload_n hx hb dL_law_757 rfl (lv_at hl 4 rfl) ?_
                    refine lv_iconst (v := (nI 5)) hx hb dL_law_758 (by decide) ?_
                    refine wy_fin (vx_runSW (As := [.ref (z.1 0), .int (nI 5)]) (rest := []) ⟨hx, hb, hml, hown, hts⟩ (d_L_count_a l Γ z w h 5 (by decide)) (kcwSW 2 hts kw_L_count mw_454 (lw_rm (Nat.le_of_ble_eq_true rfl) (Nat.le_of_ble_eq_true rfl))) (kPy_S hK hP hD hXS hXN hS) rfl rfl hl.1 rfl (lv_room (Nat.le_of_ble_eq_true rfl)) dL_law_759 (lw_cs (by omega) (by omega))) hP hD hS (fun r w H locs hw hP hD hS => ?_)
                    obtain ⟨rfl, h⟩ := hw
                    refine tp_i (y := (nI (V g th2))) (rfl) ?_
                    refine nb_if_le (tgt := 784) hx hb (Nat.lt_trans (V_16 _ _) (by decide)) dL_law_762 (by decide) (fun c_762 => by exfalso; exact hv1 c_754 c_762) (fun c_762 => ?_)
                    refine lv_aload_n hx hb dL_law_765 rfl (lv_at hl 4 rfl) ?_
                    refine wy_fin (vx_runSW (As := [.ref (z.1 0)]) (rest := []) ⟨hx, hb, hml, hown, hts⟩ (d_L_reply_a l Γ z w h (V_n0 (hv1 c_754))) (kcwSW 1 hts kw_L_reply mw_445 (lw_rm (Nat.le_of_ble_eq_true rfl) (Nat.le_of_ble_eq_true rfl))) (kPy_S hK hP hD hXS hXN hS) rfl rfl hl.1 rfl (lv_room (Nat.le_of_ble_eq_true rfl)) dL_law_766 (lw_cs (by omega) (by omega))) hP hD hS (fun r w H locs hw hP hD hS => ?_)
                    obtain ⟨rfl, h⟩ := hw
                    refine tp_i (y := (nI (rpN g th2 n))) (rfl) ?_
                    refine nb_if_lt (tgt := 784) hx hb (by have q9 := (rp_in hC2 (V_n0 (hv1 c_754))).1; omega) dL_law_769 (by decide) ?_
                    refine lv_aload_n hx hb dL_law_772 rfl (lv_at hl 4 rfl) ?_
                    refine lv_iconst (v := (nI 5)) hx hb dL_law_773 (by decide) ?_
                    refine wy_fin (vx_runSW (As := [.ref (z.1 0), .int (nI 5)]) (rest := []) ⟨hx, hb, hml, hown, hts⟩ (d_L_count_a l Γ z w h 5 (by decide)) (kcwSW 2 hts kw_L_count mw_454 (lw_rm (Nat.le_of_ble_eq_true rfl) (Nat.le_of_ble_eq_true rfl))) (kPy_S hK hP hD hXS hXN hS) rfl rfl hl.1 rfl (lv_room (Nat.le_of_ble_eq_true rfl)) dL_law_774 (lw_cs (by omega) (by omega))) hP hD hS (fun r w H locs hw hP hD hS => ?_)
                    obtain ⟨rfl, h⟩ := hw
                    refine tp_i (y := (nI (V g (lft g th2 (rpN g th2 n))))) (rfl) ?_
                    refine nb_if_ne (tgt := 784) hx hb (Nat.lt_trans (V_16 _ _) (by decide)) dL_law_777 (by decide) (fun c_777 => by exfalso; exact c_777 (rp_win hC2 (hv1 c_754))) (fun c_777 => ?_)
                    refine lv_iconst (v := (nI 1)) hx hb dL_law_780 (by decide) ?_
                    refine lv_goto (tgt := 785) hx hb dL_law_781 (by decide) ?_
                    refine lv_istore_n (lv' := [(2, .int (nI 1)), (5, .int (nI j1)), (4, .int (nI (mv &&& 1))), (3, .int (nI 1)), (1, .ref (z.1 0)), (0, .ref zb)]) hx hb dL_law_785 rfl hl (by decide) rfl (fun ls hl => ?_)
                    refine lv_goto (tgt := 859) hx hb dL_law_786 (by decide) ?_
                    refine lv_iinc (v := (nI (j1 + 1))) (lv' := [(5, .int (nI (j1 + 1))), (2, .int (nI 1)), (4, .int (nI (mv &&& 1))), (3, .int (nI 1)), (1, .ref (z.1 0)), (0, .ref zb)]) hx hb dL_law_859 hl (k := 1) rfl (nI_1 _) (by decide) rfl (fun ls hl => ?_)
                    refine lv_goto (tgt := 723) hx hb dL_law_862 (by decide) ?_
                    exact ih723 (j1 + 1) (lft g th2 (rpN g th2 n)) (mv2 + 1) (svS k2 + 1) (by omega) (by have q9 := lft_pc (g := g) hw2 (rp_in hC2 (V_n0 (hv1 c_754))).2; omega) (fun q9 => absurd q9 (by rw [par_s]; have q8 := par_le mv2; omega)) (fun _ => rp_win hC2 (hv1 c_754)) (by omega) _ h _ _ hP hD hS ls (lv_sub hl [0, 2, 3, 1, 4, 5] rfl)
          exact LP723 ((14 - 0) + 1) 0 th mv k (by omega) (by have q9 := pc_le th; omega) (fun _ => by omega) (fun q9 => absurd rfl q9) (Nat.lt_succ_self _) _ h _ _ hP hD hS ls (lv_cast (lv_sub hl [0, 1, 2, 3, 4, 5] rfl) (by rfl))
      · skip
        refine lv_iload_n hx hb dL_law_96 rfl (lv_at hl 1 rfl) ?_
        refine nb_if_eq (tgt := 686) hx hb (by omega) dL_law_97 (by decide) (fun c_97 => by exfalso; omega) (fun c_97 => ?_)
        refine lv_aload_n hx hb dL_law_100 rfl (lv_at hl 3 rfl) ?_
        refine lv_iload_n hx hb dL_law_101 rfl (lv_at hl 0 rfl) ?_
        have hcl9 := celN_lt xs zl i1
        generalize hy9 : celN xs zl i1 = y9 at hcl9
        refine ro_fin (va_runS (As := [.ref zb, .int (nI i1)]) (rest := []) ⟨hx, hb, hml, hown, hts⟩ (c_L_cell l Γ zb zl xs i1 (by omega) hzl) (kcwS 2 hts kv_L_cell mw_492 (lw_rm (Nat.le_of_ble_eq_true rfl) (Nat.le_of_ble_eq_true rfl))) (kPs_S hK hX hbl hbA hS) rfl rfl hl.1 rfl (lv_room (Nat.le_of_ble_eq_true rfl)) dL_law_102 (lw_cs (by omega) (by omega))) hS (fun locs hS => ?_)
        refine tp_i (y := (nI y9)) (by rw [hy9]) ?_
        refine lv_istore (lv' := [(4, .int (nI y9)), (3, .int (nI i1)), (2, .int (nI 1)), (1, .ref (z.1 0)), (0, .ref zb)]) hx hb dL_law_105 hl (by decide) rfl (fun ls hl => ?_)
        refine lv_iload hx hb dL_law_107 (lv_at hl 0 rfl) ?_
        refine lv_bipush (v := (nI 16)) hx hb dL_law_109 (by decide) ?_
        refine lv_idiv hx hb dL_law_111 (nI_ne0 (by omega) (by omega)) ?_
        refine tp_i (y := (nI (y9 / 16))) (pk_div (by omega) (by omega) (by omega)) ?_
        refine lv_istore (lv' := [(5, .int (nI (y9 / 16))), (4, .int (nI y9)), (3, .int (nI i1)), (2, .int (nI 1)), (1, .ref (z.1 0)), (0, .ref zb)]) hx hb dL_law_112 hl (by decide) rfl (fun ls hl => ?_)
        refine lv_iload hx hb dL_law_114 (lv_at hl 1 rfl) ?_
        refine lv_bipush (v := (nI 16)) hx hb dL_law_116 (by decide) ?_
        refine lv_irem hx hb dL_law_118 (nI_ne0 (by omega) (by omega)) ?_
        refine tp_i (y := (nI (y9 % 16))) (pk_rem (by omega) (by omega) (by omega)) ?_
        refine lv_istore (lv' := [(6, .int (nI (y9 % 16))), (5, .int (nI (y9 / 16))), (4, .int (nI y9)), (3, .int (nI i1)), (2, .int (nI 1)), (1, .ref (z.1 0)), (0, .ref zb)]) hx hb dL_law_119 hl (by decide) rfl (fun ls hl => ?_)
        obtain ⟨zz, hzz⟩ : ∃ zz, y9 / 16 = zz := ⟨_, rfl⟩
        obtain ⟨kd, hkd⟩ : ∃ kd, y9 % 16 = kd := ⟨_, rfl⟩
        have hk16 : kd < 16 := by omega
        have hzb : zz < 134217728 := by omega
        have hl : lv_has ls 17 [(6, .int (nI kd)), (5, .int (nI zz)), (4, .int (nI y9)), (3, .int (nI i1)), (2, .int (nI 1)), (1, .ref (z.1 0)), (0, .ref zb)] := lv_cast hl (by rw [hzz, hkd])
        refine lv_aload_n hx hb dL_law_121 rfl (lv_at hl 5 rfl) ?_
        refine lv_bipush (v := (nI 11)) hx hb dL_law_122 (by decide) ?_
        refine wy_fin (vx_runSW (As := [.ref (z.1 0), .int (nI 11)]) (rest := []) ⟨hx, hb, hml, hown, hts⟩ (d_L_count_a l Γ z w h 11 (by decide)) (kcwSW 2 hts kw_L_count mw_454 (lw_rm (Nat.le_of_ble_eq_true rfl) (Nat.le_of_ble_eq_true rfl))) (kPy_S hK hP hD hXS hXN hS) rfl rfl hl.1 rfl (lv_room (Nat.le_of_ble_eq_true rfl)) dL_law_124 (lw_cs (by omega) (by omega))) hP hD hS (fun r w H locs hw hP hD hS => ?_)
        obtain ⟨rfl, h⟩ := hw
        refine tp_i (y := (nI k)) (rfl) ?_
        refine lv_istore (lv' := [(7, .int (nI k)), (6, .int (nI kd)), (5, .int (nI zz)), (4, .int (nI y9)), (3, .int (nI i1)), (2, .int (nI 1)), (1, .ref (z.1 0)), (0, .ref zb)]) hx hb dL_law_127 hl (by decide) rfl (fun ls hl => ?_)
        refine lv_aload_n hx hb dL_law_129 rfl (lv_at hl 6 rfl) ?_
        refine lv_iconst (v := (nI 0)) hx hb dL_law_130 (by decide) ?_
        refine wy_fin (vx_runSW (As := [.ref (z.1 0), .int (nI 0)]) (rest := []) ⟨hx, hb, hml, hown, hts⟩ (d_L_count_a l Γ z w h 0 (by decide)) (kcwSW 2 hts kw_L_count mw_454 (lw_rm (Nat.le_of_ble_eq_true rfl) (Nat.le_of_ble_eq_true rfl))) (kPy_S hK hP hD hXS hXN hS) rfl rfl hl.1 rfl (lv_room (Nat.le_of_ble_eq_true rfl)) dL_law_131 (lw_cs (by omega) (by omega))) hP hD hS (fun r w H locs hw hP hD hS => ?_)
        obtain ⟨rfl, h⟩ := hw
        refine tp_i (y := (nI n)) (rfl) ?_
        refine lv_istore (lv' := [(8, .int (nI n)), (7, .int (nI k)), (6, .int (nI kd)), (5, .int (nI zz)), (4, .int (nI y9)), (3, .int (nI i1)), (2, .int (nI 1)), (1, .ref (z.1 0)), (0, .ref zb)]) hx hb dL_law_134 hl (by decide) rfl (fun ls hl => ?_)
        refine lv_aload_n hx hb dL_law_136 rfl (lv_at hl 7 rfl) ?_
        refine lv_iconst (v := (nI 1)) hx hb dL_law_137 (by decide) ?_
        refine wy_fin (vx_runSW (As := [.ref (z.1 0), .int (nI 1)]) (rest := []) ⟨hx, hb, hml, hown, hts⟩ (d_L_count_a l Γ z w h 1 (by decide)) (kcwSW 2 hts kw_L_count mw_454 (lw_rm (Nat.le_of_ble_eq_true rfl) (Nat.le_of_ble_eq_true rfl))) (kPy_S hK hP hD hXS hXN hS) rfl rfl hl.1 rfl (lv_room (Nat.le_of_ble_eq_true rfl)) dL_law_138 (lw_cs (by omega) (by omega))) hP hD hS (fun r w H locs hw hP hD hS => ?_)
        obtain ⟨rfl, h⟩ := hw
        refine tp_i (y := (nI (pc th))) (rfl) ?_
        refine lv_istore (lv' := [(9, .int (nI (pc th))), (8, .int (nI n)), (7, .int (nI k)), (6, .int (nI kd)), (5, .int (nI zz)), (4, .int (nI y9)), (3, .int (nI i1)), (2, .int (nI 1)), (1, .ref (z.1 0)), (0, .ref zb)]) hx hb dL_law_141 hl (by decide) rfl (fun ls hl => ?_)
        refine lv_aload_n hx hb dL_law_143 rfl (lv_at hl 8 rfl) ?_
        refine lv_bipush (v := (nI 9)) hx hb dL_law_144 (by decide) ?_
        refine wy_fin (vx_runSW (As := [.ref (z.1 0), .int (nI 9)]) (rest := []) ⟨hx, hb, hml, hown, hts⟩ (d_L_count_a l Γ z w h 9 (by decide)) (kcwSW 2 hts kw_L_count mw_454 (lw_rm (Nat.le_of_ble_eq_true rfl) (Nat.le_of_ble_eq_true rfl))) (kPy_S hK hP hD hXS hXN hS) rfl rfl hl.1 rfl (lv_room (Nat.le_of_ble_eq_true rfl)) dL_law_146 (lw_cs (by omega) (by omega))) hP hD hS (fun r w H locs hw hP hD hS => ?_)
        obtain ⟨rfl, h⟩ := hw
        refine tp_i (y := (nI mv)) (rfl) ?_
        refine lv_istore (lv' := [(10, .int (nI mv)), (9, .int (nI (pc th))), (8, .int (nI n)), (7, .int (nI k)), (6, .int (nI kd)), (5, .int (nI zz)), (4, .int (nI y9)), (3, .int (nI i1)), (2, .int (nI 1)), (1, .ref (z.1 0)), (0, .ref zb)]) hx hb dL_law_149 hl (by decide) rfl (fun ls hl => ?_)
        refine lv_aload_n hx hb dL_law_151 rfl (lv_at hl 9 rfl) ?_
        refine lv_bipush (v := (nI 8)) hx hb dL_law_152 (by decide) ?_
        refine wy_fin (vx_runSW (As := [.ref (z.1 0), .int (nI 8)]) (rest := []) ⟨hx, hb, hml, hown, hts⟩ (d_L_count_a l Γ z w h 8 (by decide)) (kcwSW 2 hts kw_L_count mw_454 (lw_rm (Nat.le_of_ble_eq_true rfl) (Nat.le_of_ble_eq_true rfl))) (kPy_S hK hP hD hXS hXN hS) rfl rfl hl.1 rfl (lv_room (Nat.le_of_ble_eq_true rfl)) dL_law_154 (lw_cs (by omega) (by omega))) hP hD hS (fun r w H locs hw hP hD hS => ?_)
        obtain ⟨rfl, h⟩ := hw
        refine tp_i (y := (nI (mv &&& 1))) (rfl) ?_
        refine lv_istore (lv' := [(11, .int (nI (mv &&& 1))), (10, .int (nI mv)), (9, .int (nI (pc th))), (8, .int (nI n)), (7, .int (nI k)), (6, .int (nI kd)), (5, .int (nI zz)), (4, .int (nI y9)), (3, .int (nI i1)), (2, .int (nI 1)), (1, .ref (z.1 0)), (0, .ref zb)]) hx hb dL_law_157 hl (by decide) rfl (fun ls hl => ?_)
        refine lv_aload_n hx hb dL_law_159 rfl (lv_at hl 10 rfl) ?_
        refine wy_fin (va_runV (As := []) (rest := []) ⟨hx, hb, hml, hown, hts⟩ (d_X6_best l Γ z w h) (kcwV 0 hts kv_X6_best mw_467 (lw_rm (Nat.le_of_ble_eq_true rfl) (Nat.le_of_ble_eq_true rfl))) (kPy_V hK (va_recv hK.1 hP (ci := 6) (q0 := 0) rfl rfl) hP hD hXS hXN hS) rfl rfl hl.1 rfl (lv_room (Nat.le_of_ble_eq_true rfl)) dL_law_160 (lw_cs (by omega) (by omega))) hP hD hS (fun r w H locs hw hP hD hS => ?_)
        obtain ⟨rfl, h⟩ := hw
        refine tp_i (y := (bst (wnP g th) n)) (rfl) ?_
        refine lv_istore (lv' := [(12, .int (bst (wnP g th) n)), (11, .int (nI (mv &&& 1))), (10, .int (nI mv)), (9, .int (nI (pc th))), (8, .int (nI n)), (7, .int (nI k)), (6, .int (nI kd)), (5, .int (nI zz)), (4, .int (nI y9)), (3, .int (nI i1)), (2, .int (nI 1)), (1, .ref (z.1 0)), (0, .ref zb)]) hx hb dL_law_163 hl (by decide) rfl (fun ls hl => ?_)
        have CT198 : ∀ (w : tST), OKW n th mv g k w → ∀ (H : Heap) (locs : List Loc), va_P Γ.1 vwCl (LW Γ z w) H → va_D A (LW Γ z w) → va_S A st.heap H locs → ∀ (ls : Array Slot), lv_has ls 17 [(12, .int (bst (wnP g th) n)), (11, .int (nI (mv &&& 1))), (10, .int (nI mv)), (9, .int (nI (pc th))), (8, .int (nI n)), (7, .int (nI k)), (6, .int (nI kd)), (5, .int (nI zz)), (4, .int (nI y9)), (3, .int (nI i1)), (2, .int (nI 1)), (1, .ref (z.1 0)), (0, .ref zb)] → W p l ev room_1 st mi args below meth cd H locs (53 + 5 * i1 + 1) (33083 + 30 * i1 + 6) Q (F0 mi 198 ls [.int (dueK kd zz g th n)]) := by
          intro  w h H locs hP hD hS ls hl
          refine lv_istore (lv' := [(13, .int (dueK kd zz g th n)), (12, .int (bst (wnP g th) n)), (11, .int (nI (mv &&& 1))), (10, .int (nI mv)), (9, .int (nI (pc th))), (8, .int (nI n)), (7, .int (nI k)), (6, .int (nI kd)), (5, .int (nI zz)), (4, .int (nI y9)), (3, .int (nI i1)), (2, .int (nI 1)), (1, .ref (z.1 0)), (0, .ref zb)]) hx hb dL_law_198 hl (by decide) rfl (fun ls hl => ?_)
          have CT221 : ∀ (w : tST), OKW n th mv g k w → ∀ (H : Heap) (locs : List Loc), va_P Γ.1 vwCl (LW Γ z w) H → va_D A (LW Γ z w) → va_S A st.heap H locs → ∀ (ls : Array Slot), lv_has ls 17 [(13, .int (dueK kd zz g th n)), (12, .int (bst (wnP g th) n)), (11, .int (nI (mv &&& 1))), (10, .int (nI mv)), (9, .int (nI (pc th))), (8, .int (nI n)), (7, .int (nI k)), (6, .int (nI kd)), (5, .int (nI zz)), (4, .int (nI y9)), (3, .int (nI i1)), (2, .int (nI 1)), (1, .ref (z.1 0)), (0, .ref zb)] → W p l ev room_1 st mi args below meth cd H locs (53 + 5 * i1 + 1) (33083 + 30 * i1 + 6) Q (F0 mi 221 ls [.int (dueM kd g th n)]) := by
            intro  w h H locs hP hD hS ls hl
            refine lv_istore (lv' := [(14, .int (dueM kd g th n)), (13, .int (dueK kd zz g th n)), (12, .int (bst (wnP g th) n)), (11, .int (nI (mv &&& 1))), (10, .int (nI mv)), (9, .int (nI (pc th))), (8, .int (nI n)), (7, .int (nI k)), (6, .int (nI kd)), (5, .int (nI zz)), (4, .int (nI y9)), (3, .int (nI i1)), (2, .int (nI 1)), (1, .ref (z.1 0)), (0, .ref zb)]) hx hb dL_law_221 hl (by decide) rfl (fun ls hl => ?_)
            have CT657 : ∀ (n2 : Nat) (th2 : Nat) (mv2 : Nat) (g2 : Nat → Nat) (k2 : Nat) , ∀ (w : tST), OKW n2 th2 mv2 g2 k2 w → ∀ (H : Heap) (locs : List Loc), va_P Γ.1 vwCl (LW Γ z w) H → va_D A (LW Γ z w) → va_S A st.heap H locs → ∀ (ls : Array Slot), lv_has ls 17 [(3, .int (nI i1)), (2, .int (nI 1)), (1, .ref (z.1 0)), (0, .ref zb)] → W p l ev room_1 st mi args below meth cd H locs (53 + 5 * i1 + 1 + 1) (33083 + 30 * i1 + 6 + 6) Q (F0 mi 657 ls []) := by
              intro n2 th2 mv2 g2 k2 w h H locs hP hD hS ls hl
              have CT674 : ∀ (w : tST), OKW n2 th2 mv2 g2 k2 w → ∀ (H : Heap) (locs : List Loc), va_P Γ.1 vwCl (LW Γ z w) H → va_D A (LW Γ z w) → va_S A st.heap H locs → ∀ (ls : Array Slot), lv_has ls 17 [(3, .int (nI i1)), (2, .int (nI 1)), (1, .ref (z.1 0)), (0, .ref zb)] → W p l ev room_1 st mi args below meth cd H locs (53 + 5 * i1 + 1 + 1 + 3) (33083 + 30 * i1 + 6 + 6 + 18) Q (F0 mi 674 ls []) := by
                intro  w h H locs hP hD hS ls hl
                refine lv_iconst (v := (nI 1)) hx hb dL_law_674 (by decide) ?_
                refine lv_goto (tgt := 679) hx hb dL_law_675 (by decide) ?_
                refine lv_istore_n (lv' := [(2, .int (nI 1)), (3, .int (nI i1)), (1, .ref (z.1 0)), (0, .ref zb)]) hx hb dL_law_679 rfl hl (by decide) rfl (fun ls hl => ?_)
                refine lv_iinc (v := (nI (i1 + 1))) (lv' := [(3, .int (nI (i1 + 1))), (2, .int (nI 1)), (1, .ref (z.1 0)), (0, .ref zb)]) hx hb dL_law_680 hl (k := 1) rfl (nI_1 _) (by decide) rfl (fun ls hl => ?_)
                refine lv_goto (tgt := 90) hx hb dL_law_683 (by decide) ?_
                refine W.widen (k := 53 + 5 * (i1 + 1)) (n := 33083 + 30 * (i1 + 1)) (by omega) (by omega) ?_
                exact ih90 (i1 + 1) n2 th2 mv2 g2 k2 (by omega) (by omega) _ h _ _ hP hD hS ls (lv_sub hl [0, 1, 2, 3] rfl)
              refine lv_iload_n hx hb dL_law_657 rfl (lv_at hl 1 rfl) ?_
              refine nb_if_eq (tgt := 678) hx hb (by omega) dL_law_658 (by decide) (fun c_658 => by exfalso; omega) (fun c_658 => ?_)
              refine lv_iload_n hx hb dL_law_661 rfl (lv_at hl 0 rfl) ?_
              refine lv_iconst (v := (nI 2)) hx hb dL_law_662 (by decide) ?_
              refine lv_irem hx hb dL_law_663 (nI_ne0 (by omega) (by omega)) ?_
              refine tp_i (y := (nI (i1 % 2))) (pk_rem (by omega) (by omega) (by omega)) ?_
              refine nb_if_gt (tgt := 674) hx hb (by omega) dL_law_664 (by decide) (fun c_664 => ?_) (fun c_664 => ?_)
              · skip
                refine W.widen (k := 53 + 5 * i1 + 1 + 1 + 3) (n := 33083 + 30 * i1 + 6 + 6 + 18) (by omega) (by omega) ?_
                exact CT674   _ h _ _ hP hD hS ls (lv_sub hl [0, 1, 2, 3] rfl)
              · skip
                refine lv_aload_n hx hb dL_law_667 rfl (lv_at hl 2 rfl) ?_
                refine wy_fin (va_runS (As := [.ref (z.1 0)]) (rest := []) ⟨hx, hb, hml, hown, hts⟩ (c_L_hangs l hls Γ z w h) (kcwS 1 hts kv_L_hangs mw_490 (lw_rm (Nat.le_of_ble_eq_true rfl) (Nat.le_of_ble_eq_true rfl))) (kPy_S hK hP hD hXS hXN hS) rfl rfl hl.1 rfl (lv_room (Nat.le_of_ble_eq_true rfl)) dL_law_668 (lw_cs (by omega) (by omega))) hP hD hS (fun r w H locs hw hP hD hS => ?_)
                obtain ⟨rfl, h⟩ := hw
                refine tp_i (y := (nI 1)) (rfl) ?_
                refine nb_if_eq (tgt := 678) hx hb (by omega) dL_law_671 (by decide) (fun c_671 => by exfalso; omega) (fun c_671 => ?_)
                exact CT674   _ h _ _ hP hD hS ls (lv_sub hl [0, 1, 2, 3] rfl)
            refine lv_aload_n hx hb dL_law_223 rfl (lv_at hl 13 rfl) ?_
            refine lv_iload hx hb dL_law_224 (lv_at hl 10 rfl) ?_
            refine wy_fin (va_runS (As := [.ref (z.1 0), .int (nI y9)]) (rest := []) ⟨hx, hb, hml, hown, hts⟩ (c_L_acts l hls Γ z w h y9 hcl9) (kcwS 2 hts kv_L_acts mw_496 (lw_rm (Nat.le_of_ble_eq_true rfl) (Nat.le_of_ble_eq_true rfl))) (kPy_S hK hP hD hXS hXN hS) rfl rfl hl.1 rfl (lv_room (Nat.le_of_ble_eq_true rfl)) dL_law_226 (lw_cs (by omega) (by omega))) hP hD hS (fun r w H locs hw hP hD hS => ?_)
            rw [hzz, hkd] at hw
            rcases hw with ⟨⟨rfl | rfl, h⟩, hk11, hj9⟩ | ⟨hk9, rfl, hn9, g2, h⟩ | ⟨hk9, hj9, rfl, h⟩ | ⟨hk9, i9, j9, hi9, hj9, he9, rfl, g2, h⟩ | ⟨hk9, v9, hv9, hb9, rfl, h⟩ | ⟨hk9, hz9, rfl, h⟩ | ⟨hk9, rfl, h⟩ | ⟨hk9, hq9, n2, th2, mv2, g2, rfl, h⟩ | ⟨hk9, hq9, rfl, h⟩
            · skip
              refine lv_istore (lv' := [(15, .int (-2000001)), (14, .int (dueM kd g th n)), (13, .int (dueK kd zz g th n)), (12, .int (bst (wnP g th) n)), (11, .int (nI (mv &&& 1))), (10, .int (nI mv)), (9, .int (nI (pc th))), (8, .int (nI n)), (7, .int (nI k)), (6, .int (nI kd)), (5, .int (nI zz)), (4, .int (nI y9)), (3, .int (nI i1)), (2, .int (nI 1)), (1, .ref (z.1 0)), (0, .ref zb)]) hx hb dL_law_229 hl (by decide) rfl (fun ls hl => ?_)
              refine lv_iload hx hb dL_law_231 (lv_at hl 0 rfl) ?_
              refine lv_ldc (v := (-2000000)) hx hb hown (hts _ mw_480) dL_law_233 ?_
              refine lv_icmp_le (tgt := 242) hx hb dL_law_235 (by decide) (fun c_235 => ?_) (fun c_235 => by exfalso; exact c_235 (by decide))
              refine lv_iconst (v := (nI 0)) hx hb dL_law_242 (by decide) ?_
              refine lv_istore (lv' := [(16, .int (nI 0)), (15, .int (-2000001)), (14, .int (dueM kd g th n)), (13, .int (dueK kd zz g th n)), (12, .int (bst (wnP g th) n)), (11, .int (nI (mv &&& 1))), (10, .int (nI mv)), (9, .int (nI (pc th))), (8, .int (nI n)), (7, .int (nI k)), (6, .int (nI kd)), (5, .int (nI zz)), (4, .int (nI y9)), (3, .int (nI i1)), (2, .int (nI 1)), (1, .ref (z.1 0)), (0, .ref zb)]) hx hb dL_law_243 hl (by decide) rfl (fun ls hl => ?_)
              have CT290 : ∀ (w : tST), OKW n th mv g k w → ∀ (H : Heap) (locs : List Loc), va_P Γ.1 vwCl (LW Γ z w) H → va_D A (LW Γ z w) → va_S A st.heap H locs → ∀ (ls : Array Slot), lv_has ls 17 [(16, .int (nI 0)), (15, .int (-2000001)), (14, .int (dueM kd g th n)), (13, .int (dueK kd zz g th n)), (12, .int (bst (wnP g th) n)), (11, .int (nI (mv &&& 1))), (10, .int (nI mv)), (9, .int (nI (pc th))), (8, .int (nI n)), (7, .int (nI k)), (6, .int (nI kd)), (5, .int (nI zz)), (4, .int (nI y9)), (3, .int (nI i1)), (2, .int (nI 1)), (1, .ref (z.1 0)), (0, .ref zb)] → W p l ev room_1 st mi args below meth cd H locs (53 + 5 * i1 + 1 + 1) (33083 + 30 * i1 + 6 + 6) Q (F0 mi 290 ls []) := by
                intro  w h H locs hP hD hS ls hl
                refine lv_iconst (v := (nI 1)) hx hb dL_law_290 (by decide) ?_
                refine lv_goto (tgt := 295) hx hb dL_law_291 (by decide) ?_
                refine lv_istore_n (lv' := [(2, .int (nI 1)), (16, .int (nI 0)), (15, .int (-2000001)), (14, .int (dueM kd g th n)), (13, .int (dueK kd zz g th n)), (12, .int (bst (wnP g th) n)), (11, .int (nI (mv &&& 1))), (10, .int (nI mv)), (9, .int (nI (pc th))), (8, .int (nI n)), (7, .int (nI k)), (6, .int (nI kd)), (5, .int (nI zz)), (4, .int (nI y9)), (3, .int (nI i1)), (1, .ref (z.1 0)), (0, .ref zb)]) hx hb dL_law_295 rfl hl (by decide) rfl (fun ls hl => ?_)
                refine lv_iload_n hx hb dL_law_296 rfl (lv_at hl 0 rfl) ?_
                refine nb_if_eq (tgt := 369) hx hb (by omega) dL_law_297 (by decide) (fun c_297 => by exfalso; omega) (fun c_297 => ?_)
                have CT313 : ∀ (w : tST), OKW n th mv g k w → ∀ (H : Heap) (locs : List Loc), va_P Γ.1 vwCl (LW Γ z w) H → va_D A (LW Γ z w) → va_S A st.heap H locs → ∀ (ls : Array Slot), lv_has ls 17 [(2, .int (nI 1)), (16, .int (nI 0)), (15, .int (-2000001)), (14, .int (dueM kd g th n)), (13, .int (dueK kd zz g th n)), (12, .int (bst (wnP g th) n)), (11, .int (nI (mv &&& 1))), (10, .int (nI mv)), (9, .int (nI (pc th))), (8, .int (nI n)), (7, .int (nI k)), (6, .int (nI kd)), (5, .int (nI zz)), (4, .int (nI y9)), (3, .int (nI i1)), (1, .ref (z.1 0)), (0, .ref zb)] → W p l ev room_1 st mi args below meth cd H locs (53 + 5 * i1 + 1 + 1) (33083 + 30 * i1 + 6 + 6) Q (F0 mi 313 ls []) := by
                  intro  w h H locs hP hD hS ls hl
                  refine lv_iload hx hb dL_law_313 (lv_at hl 1 rfl) ?_
                  refine nb_if_eq (tgt := 360) hx hb (by omega) dL_law_315 (by decide) (fun c_315 => ?_) (fun c_315 => by exfalso; omega)
                  refine lv_iconst (v := (nI 1)) hx hb dL_law_360 (by decide) ?_
                  refine lv_goto (tgt := 365) hx hb dL_law_361 (by decide) ?_
                  refine lv_istore_n (lv' := [(2, .int (nI 1)), (16, .int (nI 0)), (15, .int (-2000001)), (14, .int (dueM kd g th n)), (13, .int (dueK kd zz g th n)), (12, .int (bst (wnP g th) n)), (11, .int (nI (mv &&& 1))), (10, .int (nI mv)), (9, .int (nI (pc th))), (8, .int (nI n)), (7, .int (nI k)), (6, .int (nI kd)), (5, .int (nI zz)), (4, .int (nI y9)), (3, .int (nI i1)), (1, .ref (z.1 0)), (0, .ref zb)]) hx hb dL_law_365 rfl hl (by decide) rfl (fun ls hl => ?_)
                  refine lv_goto (tgt := 657) hx hb dL_law_366 (by decide) ?_
                  exact CT657 n th mv g k  _ h _ _ hP hD hS ls (lv_sub hl [14, 0, 15, 16] rfl)
                refine lv_iload hx hb dL_law_300 (lv_at hl 11 rfl) ?_
                refine lv_iconst (v := (nI 4)) hx hb dL_law_302 (by decide) ?_
                refine nb_icmp_lt (tgt := 313) hx hb (by omega) (by omega) dL_law_303 (by decide) (fun c_303 => ?_) (fun c_303 => ?_)
                · skip
                  exact CT313   _ h _ _ hP hD hS ls (lv_sub hl [0, 1, 2, 3, 4, 5, 6, 7, 8, 9, 10, 11, 12, 13, 14, 15, 16] rfl)
                · skip
                  refine lv_iload hx hb dL_law_306 (lv_at hl 11 rfl) ?_
                  refine lv_bipush (v := (nI 12)) hx hb dL_law_308 (by decide) ?_
                  refine nb_icmp_le (tgt := 369) hx hb (by omega) (by omega) dL_law_310 (by decide) (fun c_310 => ?_) (fun c_310 => ?_)
                  · skip
                    refine lv_iload_n hx hb dL_law_369 rfl (lv_at hl 0 rfl) ?_
                    refine nb_if_eq (tgt := 440) hx hb (by omega) dL_law_370 (by decide) (fun c_370 => by exfalso; omega) (fun c_370 => ?_)
                    refine lv_iload hx hb dL_law_373 (lv_at hl 11 rfl) ?_
                    refine lv_bipush (v := (nI 6)) hx hb dL_law_375 (by decide) ?_
                    refine nb_icmp_ge (tgt := 440) hx hb (by omega) (by omega) dL_law_377 (by decide) (fun c_377 => ?_) (fun c_377 => ?_)
                    · skip
                      refine lv_iload_n hx hb dL_law_440 rfl (lv_at hl 0 rfl) ?_
                      refine nb_if_eq (tgt := 475) hx hb (by omega) dL_law_441 (by decide) (fun c_441 => by exfalso; omega) (fun c_441 => ?_)
                      refine lv_iload hx hb dL_law_444 (lv_at hl 11 rfl) ?_
                      refine lv_bipush (v := (nI 6)) hx hb dL_law_446 (by decide) ?_
                      refine nb_icmp_ne (tgt := 475) hx hb (by omega) (by omega) dL_law_448 (by decide) (fun c_448 => ?_) (fun c_448 => ?_)
                      · skip
                        refine lv_iload_n hx hb dL_law_475 rfl (lv_at hl 0 rfl) ?_
                        refine nb_if_eq (tgt := 602) hx hb (by omega) dL_law_476 (by decide) (fun c_476 => by exfalso; omega) (fun c_476 => ?_)
                        refine lv_iload hx hb dL_law_479 (lv_at hl 11 rfl) ?_
                        refine lv_bipush (v := (nI 11)) hx hb dL_law_481 (by decide) ?_
                        refine nb_icmp_ge (tgt := 602) hx hb (by omega) (by omega) dL_law_483 (by decide) (fun c_483 => ?_) (fun c_483 => ?_)
                        · skip
                          refine lv_iload_n hx hb dL_law_602 rfl (lv_at hl 0 rfl) ?_
                          refine nb_if_eq (tgt := 657) hx hb (by omega) dL_law_603 (by decide) (fun c_603 => by exfalso; omega) (fun c_603 => ?_)
                          refine lv_iload hx hb dL_law_606 (lv_at hl 11 rfl) ?_
                          refine lv_bipush (v := (nI 11)) hx hb dL_law_608 (by decide) ?_
                          refine nb_icmp_ne (tgt := 657) hx hb (by omega) (by omega) dL_law_610 (by decide) (fun c_610 => ?_) (fun c_610 => by exfalso; omega)
                          exact CT657 n th mv g k  _ h _ _ hP hD hS ls (lv_sub hl [14, 0, 15, 16] rfl)
                        · skip
                          refine lv_iload hx hb dL_law_486 (lv_at hl 1 rfl) ?_
                          refine nb_if_eq (tgt := 593) hx hb (by omega) dL_law_488 (by decide) (fun c_488 => ?_) (fun c_488 => by exfalso; omega)
                          refine lv_iconst (v := (nI 1)) hx hb dL_law_593 (by decide) ?_
                          refine lv_goto (tgt := 598) hx hb dL_law_594 (by decide) ?_
                          refine lv_istore_n (lv' := [(2, .int (nI 1)), (16, .int (nI 0)), (15, .int (-2000001)), (14, .int (dueM kd g th n)), (13, .int (dueK kd zz g th n)), (12, .int (bst (wnP g th) n)), (11, .int (nI (mv &&& 1))), (10, .int (nI mv)), (9, .int (nI (pc th))), (8, .int (nI n)), (7, .int (nI k)), (6, .int (nI kd)), (5, .int (nI zz)), (4, .int (nI y9)), (3, .int (nI i1)), (1, .ref (z.1 0)), (0, .ref zb)]) hx hb dL_law_598 rfl hl (by decide) rfl (fun ls hl => ?_)
                          refine lv_goto (tgt := 657) hx hb dL_law_599 (by decide) ?_
                          exact CT657 n th mv g k  _ h _ _ hP hD hS ls (lv_sub hl [14, 0, 15, 16] rfl)
                      · skip
                        refine lv_iload hx hb dL_law_451 (lv_at hl 1 rfl) ?_
                        refine nb_if_eq (tgt := 466) hx hb (by omega) dL_law_453 (by decide) (fun c_453 => ?_) (fun c_453 => by exfalso; omega)
                        refine lv_iconst (v := (nI 1)) hx hb dL_law_466 (by decide) ?_
                        refine lv_goto (tgt := 471) hx hb dL_law_467 (by decide) ?_
                        refine lv_istore_n (lv' := [(2, .int (nI 1)), (16, .int (nI 0)), (15, .int (-2000001)), (14, .int (dueM kd g th n)), (13, .int (dueK kd zz g th n)), (12, .int (bst (wnP g th) n)), (11, .int (nI (mv &&& 1))), (10, .int (nI mv)), (9, .int (nI (pc th))), (8, .int (nI n)), (7, .int (nI k)), (6, .int (nI kd)), (5, .int (nI zz)), (4, .int (nI y9)), (3, .int (nI i1)), (1, .ref (z.1 0)), (0, .ref zb)]) hx hb dL_law_471 rfl hl (by decide) rfl (fun ls hl => ?_)
                        refine lv_goto (tgt := 657) hx hb dL_law_472 (by decide) ?_
                        exact CT657 n th mv g k  _ h _ _ hP hD hS ls (lv_sub hl [14, 0, 15, 16] rfl)
                    · skip
                      refine lv_iload hx hb dL_law_380 (lv_at hl 1 rfl) ?_
                      refine nb_if_eq (tgt := 418) hx hb (by omega) dL_law_382 (by decide) (fun c_382 => ?_) (fun c_382 => by exfalso; omega)
                      refine lv_iload hx hb dL_law_418 (lv_at hl 4 rfl) ?_
                      refine lv_iconst (v := (-1)) hx hb dL_law_420 (by decide) ?_
                      refine lv_icmp_eq (tgt := 431) hx hb dL_law_421 (by decide) (fun c_421 => ?_) (fun c_421 => ?_)
                      · skip
                        refine lv_iconst (v := (nI 1)) hx hb dL_law_431 (by decide) ?_
                        refine lv_goto (tgt := 436) hx hb dL_law_432 (by decide) ?_
                        refine lv_istore_n (lv' := [(2, .int (nI 1)), (16, .int (nI 0)), (15, .int (-2000001)), (14, .int (dueM kd g th n)), (13, .int (dueK kd zz g th n)), (12, .int (bst (wnP g th) n)), (11, .int (nI (mv &&& 1))), (10, .int (nI mv)), (9, .int (nI (pc th))), (8, .int (nI n)), (7, .int (nI k)), (6, .int (nI kd)), (5, .int (nI zz)), (4, .int (nI y9)), (3, .int (nI i1)), (1, .ref (z.1 0)), (0, .ref zb)]) hx hb dL_law_436 rfl hl (by decide) rfl (fun ls hl => ?_)
                        refine lv_goto (tgt := 657) hx hb dL_law_437 (by decide) ?_
                        exact CT657 n th mv g k  _ h _ _ hP hD hS ls (lv_sub hl [14, 0, 15, 16] rfl)
                      · skip
                        refine lv_iload hx hb dL_law_424 (lv_at hl 4 rfl) ?_
                        refine lv_ldc (v := (-2000001)) hx hb hown (hts _ mw_369) dL_law_426 ?_
                        refine lv_icmp_ne (tgt := 435) hx hb dL_law_428 (by decide) (fun c_428 => by exfalso; have hk8 : kd = 4 ∨ kd = 5 := (by omega); exact c_428 ((dueK_no hk8 (hj9 hk8)).resolve_left c_421)) (fun c_428 => ?_)
                        refine lv_iconst (v := (nI 1)) hx hb dL_law_431 (by decide) ?_
                        refine lv_goto (tgt := 436) hx hb dL_law_432 (by decide) ?_
                        refine lv_istore_n (lv' := [(2, .int (nI 1)), (16, .int (nI 0)), (15, .int (-2000001)), (14, .int (dueM kd g th n)), (13, .int (dueK kd zz g th n)), (12, .int (bst (wnP g th) n)), (11, .int (nI (mv &&& 1))), (10, .int (nI mv)), (9, .int (nI (pc th))), (8, .int (nI n)), (7, .int (nI k)), (6, .int (nI kd)), (5, .int (nI zz)), (4, .int (nI y9)), (3, .int (nI i1)), (1, .ref (z.1 0)), (0, .ref zb)]) hx hb dL_law_436 rfl hl (by decide) rfl (fun ls hl => ?_)
                        refine lv_goto (tgt := 657) hx hb dL_law_437 (by decide) ?_
                        exact CT657 n th mv g k  _ h _ _ hP hD hS ls (lv_sub hl [14, 0, 15, 16] rfl)
                  · skip
                    exact CT313   _ h _ _ hP hD hS ls (lv_sub hl [0, 1, 2, 3, 4, 5, 6, 7, 8, 9, 10, 11, 12, 13, 14, 15, 16] rfl)
              refine lv_aload_n hx hb dL_law_245 rfl (lv_at hl 15 rfl) ?_
              refine lv_bipush (v := (nI 11)) hx hb dL_law_246 (by decide) ?_
              refine wy_fin (vx_runSW (As := [.ref (z.1 0), .int (nI 11)]) (rest := []) ⟨hx, hb, hml, hown, hts⟩ (d_L_count_a l Γ z w h 11 (by decide)) (kcwSW 2 hts kw_L_count mw_454 (lw_rm (Nat.le_of_ble_eq_true rfl) (Nat.le_of_ble_eq_true rfl))) (kPy_S hK hP hD hXS hXN hS) rfl rfl hl.1 rfl (lv_room (Nat.le_of_ble_eq_true rfl)) dL_law_248 (lw_cs (by omega) (by omega))) hP hD hS (fun r w H locs hw hP hD hS => ?_)
              obtain ⟨rfl, h⟩ := hw
              refine tp_i (y := (nI k)) (rfl) ?_
              refine lv_iload hx hb dL_law_251 (lv_at hl 0 rfl) ?_
              refine nb_if_eq (tgt := 278) hx hb (by omega) dL_law_253 (by decide) (fun c_253 => ?_) (fun c_253 => by exfalso; omega)
              refine lv_iload hx hb dL_law_278 (lv_at hl 9 rfl) ?_
              refine lv_goto (tgt := 287) hx hb dL_law_280 (by decide) ?_
              refine nb_icmp_ne (tgt := 294) hx hb (by have q9 := svS_6 k; omega) (by have q9 := svS_6 k; omega) dL_law_287 (by decide) (fun c_287 => by exfalso; exact c_287 (by first | rfl | exact sv_hi c_275 | exact sv_lo hk6 c_275)) (fun c_287 => ?_)
              exact CT290   _ h _ _ hP hD hS ls (lv_sub hl [0, 1, 2, 3, 4, 5, 6, 7, 8, 9, 10, 11, 12, 13, 14, 15, 16] rfl)
            · skip
              refine lv_istore (lv' := [(15, .int (-2000002)), (14, .int (dueM kd g th n)), (13, .int (dueK kd zz g th n)), (12, .int (bst (wnP g th) n)), (11, .int (nI (mv &&& 1))), (10, .int (nI mv)), (9, .int (nI (pc th))), (8, .int (nI n)), (7, .int (nI k)), (6, .int (nI kd)), (5, .int (nI zz)), (4, .int (nI y9)), (3, .int (nI i1)), (2, .int (nI 1)), (1, .ref (z.1 0)), (0, .ref zb)]) hx hb dL_law_229 hl (by decide) rfl (fun ls hl => ?_)
              refine lv_iload hx hb dL_law_231 (lv_at hl 0 rfl) ?_
              refine lv_ldc (v := (-2000000)) hx hb hown (hts _ mw_480) dL_law_233 ?_
              refine lv_icmp_le (tgt := 242) hx hb dL_law_235 (by decide) (fun c_235 => ?_) (fun c_235 => by exfalso; exact c_235 (by decide))
              refine lv_iconst (v := (nI 0)) hx hb dL_law_242 (by decide) ?_
              refine lv_istore (lv' := [(16, .int (nI 0)), (15, .int (-2000002)), (14, .int (dueM kd g th n)), (13, .int (dueK kd zz g th n)), (12, .int (bst (wnP g th) n)), (11, .int (nI (mv &&& 1))), (10, .int (nI mv)), (9, .int (nI (pc th))), (8, .int (nI n)), (7, .int (nI k)), (6, .int (nI kd)), (5, .int (nI zz)), (4, .int (nI y9)), (3, .int (nI i1)), (2, .int (nI 1)), (1, .ref (z.1 0)), (0, .ref zb)]) hx hb dL_law_243 hl (by decide) rfl (fun ls hl => ?_)
              have CT290 : ∀ (w : tST), OKW n th mv g k w → ∀ (H : Heap) (locs : List Loc), va_P Γ.1 vwCl (LW Γ z w) H → va_D A (LW Γ z w) → va_S A st.heap H locs → ∀ (ls : Array Slot), lv_has ls 17 [(16, .int (nI 0)), (15, .int (-2000002)), (14, .int (dueM kd g th n)), (13, .int (dueK kd zz g th n)), (12, .int (bst (wnP g th) n)), (11, .int (nI (mv &&& 1))), (10, .int (nI mv)), (9, .int (nI (pc th))), (8, .int (nI n)), (7, .int (nI k)), (6, .int (nI kd)), (5, .int (nI zz)), (4, .int (nI y9)), (3, .int (nI i1)), (2, .int (nI 1)), (1, .ref (z.1 0)), (0, .ref zb)] → W p l ev room_1 st mi args below meth cd H locs (53 + 5 * i1 + 1 + 1) (33083 + 30 * i1 + 6 + 6) Q (F0 mi 290 ls []) := by
                intro  w h H locs hP hD hS ls hl
                refine lv_iconst (v := (nI 1)) hx hb dL_law_290 (by decide) ?_
                refine lv_goto (tgt := 295) hx hb dL_law_291 (by decide) ?_
                refine lv_istore_n (lv' := [(2, .int (nI 1)), (16, .int (nI 0)), (15, .int (-2000002)), (14, .int (dueM kd g th n)), (13, .int (dueK kd zz g th n)), (12, .int (bst (wnP g th) n)), (11, .int (nI (mv &&& 1))), (10, .int (nI mv)), (9, .int (nI (pc th))), (8, .int (nI n)), (7, .int (nI k)), (6, .int (nI kd)), (5, .int (nI zz)), (4, .int (nI y9)), (3, .int (nI i1)), (1, .ref (z.1 0)), (0, .ref zb)]) hx hb dL_law_295 rfl hl (by decide) rfl (fun ls hl => ?_)
                refine lv_iload_n hx hb dL_law_296 rfl (lv_at hl 0 rfl) ?_
                refine nb_if_eq (tgt := 369) hx hb (by omega) dL_law_297 (by decide) (fun c_297 => by exfalso; omega) (fun c_297 => ?_)
                have CT313 : ∀ (w : tST), OKW n th mv g k w → ∀ (H : Heap) (locs : List Loc), va_P Γ.1 vwCl (LW Γ z w) H → va_D A (LW Γ z w) → va_S A st.heap H locs → ∀ (ls : Array Slot), lv_has ls 17 [(2, .int (nI 1)), (16, .int (nI 0)), (15, .int (-2000002)), (14, .int (dueM kd g th n)), (13, .int (dueK kd zz g th n)), (12, .int (bst (wnP g th) n)), (11, .int (nI (mv &&& 1))), (10, .int (nI mv)), (9, .int (nI (pc th))), (8, .int (nI n)), (7, .int (nI k)), (6, .int (nI kd)), (5, .int (nI zz)), (4, .int (nI y9)), (3, .int (nI i1)), (1, .ref (z.1 0)), (0, .ref zb)] → W p l ev room_1 st mi args below meth cd H locs (53 + 5 * i1 + 1 + 1) (33083 + 30 * i1 + 6 + 6) Q (F0 mi 313 ls []) := by
                  intro  w h H locs hP hD hS ls hl
                  refine lv_iload hx hb dL_law_313 (lv_at hl 1 rfl) ?_
                  refine nb_if_eq (tgt := 360) hx hb (by omega) dL_law_315 (by decide) (fun c_315 => ?_) (fun c_315 => by exfalso; omega)
                  refine lv_iconst (v := (nI 1)) hx hb dL_law_360 (by decide) ?_
                  refine lv_goto (tgt := 365) hx hb dL_law_361 (by decide) ?_
                  refine lv_istore_n (lv' := [(2, .int (nI 1)), (16, .int (nI 0)), (15, .int (-2000002)), (14, .int (dueM kd g th n)), (13, .int (dueK kd zz g th n)), (12, .int (bst (wnP g th) n)), (11, .int (nI (mv &&& 1))), (10, .int (nI mv)), (9, .int (nI (pc th))), (8, .int (nI n)), (7, .int (nI k)), (6, .int (nI kd)), (5, .int (nI zz)), (4, .int (nI y9)), (3, .int (nI i1)), (1, .ref (z.1 0)), (0, .ref zb)]) hx hb dL_law_365 rfl hl (by decide) rfl (fun ls hl => ?_)
                  refine lv_goto (tgt := 657) hx hb dL_law_366 (by decide) ?_
                  exact CT657 n th mv g k  _ h _ _ hP hD hS ls (lv_sub hl [14, 0, 15, 16] rfl)
                refine lv_iload hx hb dL_law_300 (lv_at hl 11 rfl) ?_
                refine lv_iconst (v := (nI 4)) hx hb dL_law_302 (by decide) ?_
                refine nb_icmp_lt (tgt := 313) hx hb (by omega) (by omega) dL_law_303 (by decide) (fun c_303 => ?_) (fun c_303 => ?_)
                · skip
                  exact CT313   _ h _ _ hP hD hS ls (lv_sub hl [0, 1, 2, 3, 4, 5, 6, 7, 8, 9, 10, 11, 12, 13, 14, 15, 16] rfl)
                · skip
                  refine lv_iload hx hb dL_law_306 (lv_at hl 11 rfl) ?_
                  refine lv_bipush (v := (nI 12)) hx hb dL_law_308 (by decide) ?_
                  refine nb_icmp_le (tgt := 369) hx hb (by omega) (by omega) dL_law_310 (by decide) (fun c_310 => ?_) (fun c_310 => ?_)
                  · skip
                    refine lv_iload_n hx hb dL_law_369 rfl (lv_at hl 0 rfl) ?_
                    refine nb_if_eq (tgt := 440) hx hb (by omega) dL_law_370 (by decide) (fun c_370 => by exfalso; omega) (fun c_370 => ?_)
                    refine lv_iload hx hb dL_law_373 (lv_at hl 11 rfl) ?_
                    refine lv_bipush (v := (nI 6)) hx hb dL_law_375 (by decide) ?_
                    refine nb_icmp_ge (tgt := 440) hx hb (by omega) (by omega) dL_law_377 (by decide) (fun c_377 => ?_) (fun c_377 => ?_)
                    · skip
                      refine lv_iload_n hx hb dL_law_440 rfl (lv_at hl 0 rfl) ?_
                      refine nb_if_eq (tgt := 475) hx hb (by omega) dL_law_441 (by decide) (fun c_441 => by exfalso; omega) (fun c_441 => ?_)
                      refine lv_iload hx hb dL_law_444 (lv_at hl 11 rfl) ?_
                      refine lv_bipush (v := (nI 6)) hx hb dL_law_446 (by decide) ?_
                      refine nb_icmp_ne (tgt := 475) hx hb (by omega) (by omega) dL_law_448 (by decide) (fun c_448 => ?_) (fun c_448 => ?_)
                      · skip
                        refine lv_iload_n hx hb dL_law_475 rfl (lv_at hl 0 rfl) ?_
                        refine nb_if_eq (tgt := 602) hx hb (by omega) dL_law_476 (by decide) (fun c_476 => by exfalso; omega) (fun c_476 => ?_)
                        refine lv_iload hx hb dL_law_479 (lv_at hl 11 rfl) ?_
                        refine lv_bipush (v := (nI 11)) hx hb dL_law_481 (by decide) ?_
                        refine nb_icmp_ge (tgt := 602) hx hb (by omega) (by omega) dL_law_483 (by decide) (fun c_483 => ?_) (fun c_483 => ?_)
                        · skip
                          refine lv_iload_n hx hb dL_law_602 rfl (lv_at hl 0 rfl) ?_
                          refine nb_if_eq (tgt := 657) hx hb (by omega) dL_law_603 (by decide) (fun c_603 => by exfalso; omega) (fun c_603 => ?_)
                          refine lv_iload hx hb dL_law_606 (lv_at hl 11 rfl) ?_
                          refine lv_bipush (v := (nI 11)) hx hb dL_law_608 (by decide) ?_
                          refine nb_icmp_ne (tgt := 657) hx hb (by omega) (by omega) dL_law_610 (by decide) (fun c_610 => ?_) (fun c_610 => by exfalso; omega)
                          exact CT657 n th mv g k  _ h _ _ hP hD hS ls (lv_sub hl [14, 0, 15, 16] rfl)
                        · skip
                          refine lv_iload hx hb dL_law_486 (lv_at hl 1 rfl) ?_
                          refine nb_if_eq (tgt := 593) hx hb (by omega) dL_law_488 (by decide) (fun c_488 => ?_) (fun c_488 => by exfalso; omega)
                          refine lv_iconst (v := (nI 1)) hx hb dL_law_593 (by decide) ?_
                          refine lv_goto (tgt := 598) hx hb dL_law_594 (by decide) ?_
                          refine lv_istore_n (lv' := [(2, .int (nI 1)), (16, .int (nI 0)), (15, .int (-2000002)), (14, .int (dueM kd g th n)), (13, .int (dueK kd zz g th n)), (12, .int (bst (wnP g th) n)), (11, .int (nI (mv &&& 1))), (10, .int (nI mv)), (9, .int (nI (pc th))), (8, .int (nI n)), (7, .int (nI k)), (6, .int (nI kd)), (5, .int (nI zz)), (4, .int (nI y9)), (3, .int (nI i1)), (1, .ref (z.1 0)), (0, .ref zb)]) hx hb dL_law_598 rfl hl (by decide) rfl (fun ls hl => ?_)
                          refine lv_goto (tgt := 657) hx hb dL_law_599 (by decide) ?_
                          exact CT657 n th mv g k  _ h _ _ hP hD hS ls (lv_sub hl [14, 0, 15, 16] rfl)
                      · skip
                        refine lv_iload hx hb dL_law_451 (lv_at hl 1 rfl) ?_
                        refine nb_if_eq (tgt := 466) hx hb (by omega) dL_law_453 (by decide) (fun c_453 => ?_) (fun c_453 => by exfalso; omega)
                        refine lv_iconst (v := (nI 1)) hx hb dL_law_466 (by decide) ?_
                        refine lv_goto (tgt := 471) hx hb dL_law_467 (by decide) ?_
                        refine lv_istore_n (lv' := [(2, .int (nI 1)), (16, .int (nI 0)), (15, .int (-2000002)), (14, .int (dueM kd g th n)), (13, .int (dueK kd zz g th n)), (12, .int (bst (wnP g th) n)), (11, .int (nI (mv &&& 1))), (10, .int (nI mv)), (9, .int (nI (pc th))), (8, .int (nI n)), (7, .int (nI k)), (6, .int (nI kd)), (5, .int (nI zz)), (4, .int (nI y9)), (3, .int (nI i1)), (1, .ref (z.1 0)), (0, .ref zb)]) hx hb dL_law_471 rfl hl (by decide) rfl (fun ls hl => ?_)
                        refine lv_goto (tgt := 657) hx hb dL_law_472 (by decide) ?_
                        exact CT657 n th mv g k  _ h _ _ hP hD hS ls (lv_sub hl [14, 0, 15, 16] rfl)
                    · skip
                      refine lv_iload hx hb dL_law_380 (lv_at hl 1 rfl) ?_
                      refine nb_if_eq (tgt := 418) hx hb (by omega) dL_law_382 (by decide) (fun c_382 => ?_) (fun c_382 => by exfalso; omega)
                      refine lv_iload hx hb dL_law_418 (lv_at hl 4 rfl) ?_
                      refine lv_iconst (v := (-1)) hx hb dL_law_420 (by decide) ?_
                      refine lv_icmp_eq (tgt := 431) hx hb dL_law_421 (by decide) (fun c_421 => ?_) (fun c_421 => ?_)
                      · skip
                        refine lv_iconst (v := (nI 1)) hx hb dL_law_431 (by decide) ?_
                        refine lv_goto (tgt := 436) hx hb dL_law_432 (by decide) ?_
                        refine lv_istore_n (lv' := [(2, .int (nI 1)), (16, .int (nI 0)), (15, .int (-2000002)), (14, .int (dueM kd g th n)), (13, .int (dueK kd zz g th n)), (12, .int (bst (wnP g th) n)), (11, .int (nI (mv &&& 1))), (10, .int (nI mv)), (9, .int (nI (pc th))), (8, .int (nI n)), (7, .int (nI k)), (6, .int (nI kd)), (5, .int (nI zz)), (4, .int (nI y9)), (3, .int (nI i1)), (1, .ref (z.1 0)), (0, .ref zb)]) hx hb dL_law_436 rfl hl (by decide) rfl (fun ls hl => ?_)
                        refine lv_goto (tgt := 657) hx hb dL_law_437 (by decide) ?_
                        exact CT657 n th mv g k  _ h _ _ hP hD hS ls (lv_sub hl [14, 0, 15, 16] rfl)
                      · skip
                        refine lv_iload hx hb dL_law_424 (lv_at hl 4 rfl) ?_
                        refine lv_ldc (v := (-2000001)) hx hb hown (hts _ mw_369) dL_law_426 ?_
                        refine lv_icmp_ne (tgt := 435) hx hb dL_law_428 (by decide) (fun c_428 => by exfalso; have hk8 : kd = 4 ∨ kd = 5 := (by omega); exact c_428 ((dueK_no hk8 (hj9 hk8)).resolve_left c_421)) (fun c_428 => ?_)
                        refine lv_iconst (v := (nI 1)) hx hb dL_law_431 (by decide) ?_
                        refine lv_goto (tgt := 436) hx hb dL_law_432 (by decide) ?_
                        refine lv_istore_n (lv' := [(2, .int (nI 1)), (16, .int (nI 0)), (15, .int (-2000002)), (14, .int (dueM kd g th n)), (13, .int (dueK kd zz g th n)), (12, .int (bst (wnP g th) n)), (11, .int (nI (mv &&& 1))), (10, .int (nI mv)), (9, .int (nI (pc th))), (8, .int (nI n)), (7, .int (nI k)), (6, .int (nI kd)), (5, .int (nI zz)), (4, .int (nI y9)), (3, .int (nI i1)), (1, .ref (z.1 0)), (0, .ref zb)]) hx hb dL_law_436 rfl hl (by decide) rfl (fun ls hl => ?_)
                        refine lv_goto (tgt := 657) hx hb dL_law_437 (by decide) ?_
                        exact CT657 n th mv g k  _ h _ _ hP hD hS ls (lv_sub hl [14, 0, 15, 16] rfl)
                  · skip
                    exact CT313   _ h _ _ hP hD hS ls (lv_sub hl [0, 1, 2, 3, 4, 5, 6, 7, 8, 9, 10, 11, 12, 13, 14, 15, 16] rfl)
              refine lv_aload_n hx hb dL_law_245 rfl (lv_at hl 15 rfl) ?_
              refine lv_bipush (v := (nI 11)) hx hb dL_law_246 (by decide) ?_
              refine wy_fin (vx_runSW (As := [.ref (z.1 0), .int (nI 11)]) (rest := []) ⟨hx, hb, hml, hown, hts⟩ (d_L_count_a l Γ z w h 11 (by decide)) (kcwSW 2 hts kw_L_count mw_454 (lw_rm (Nat.le_of_ble_eq_true rfl) (Nat.le_of_ble_eq_true rfl))) (kPy_S hK hP hD hXS hXN hS) rfl rfl hl.1 rfl (lv_room (Nat.le_of_ble_eq_true rfl)) dL_law_248 (lw_cs (by omega) (by omega))) hP hD hS (fun r w H locs hw hP hD hS => ?_)
              obtain ⟨rfl, h⟩ := hw
              refine tp_i (y := (nI k)) (rfl) ?_
              refine lv_iload hx hb dL_law_251 (lv_at hl 0 rfl) ?_
              refine nb_if_eq (tgt := 278) hx hb (by omega) dL_law_253 (by decide) (fun c_253 => ?_) (fun c_253 => by exfalso; omega)
              refine lv_iload hx hb dL_law_278 (lv_at hl 9 rfl) ?_
              refine lv_goto (tgt := 287) hx hb dL_law_280 (by decide) ?_
              refine nb_icmp_ne (tgt := 294) hx hb (by have q9 := svS_6 k; omega) (by have q9 := svS_6 k; omega) dL_law_287 (by decide) (fun c_287 => by exfalso; exact c_287 (by first | rfl | exact sv_hi c_275 | exact sv_lo hk6 c_275)) (fun c_287 => ?_)
              exact CT290   _ h _ _ hP hD hS ls (lv_sub hl [0, 1, 2, 3, 4, 5, 6, 7, 8, 9, 10, 11, 12, 13, 14, 15, 16] rfl)
            · skip
              have hbd9 : n < 2147483648 := by omega
              refine lv_istore (lv' := [(15, .int (nI n)), (14, .int (dueM kd g th n)), (13, .int (dueK kd zz g th n)), (12, .int (bst (wnP g th) n)), (11, .int (nI (mv &&& 1))), (10, .int (nI mv)), (9, .int (nI (pc th))), (8, .int (nI n)), (7, .int (nI k)), (6, .int (nI kd)), (5, .int (nI zz)), (4, .int (nI y9)), (3, .int (nI i1)), (2, .int (nI 1)), (1, .ref (z.1 0)), (0, .ref zb)]) hx hb dL_law_229 hl (by decide) rfl (fun ls hl => ?_)
              refine lv_iload hx hb dL_law_231 (lv_at hl 0 rfl) ?_
              refine lv_ldc (v := (-2000000)) hx hb hown (hts _ mw_480) dL_law_233 ?_
              refine lv_icmp_le (tgt := 242) hx hb dL_law_235 (by decide) (fun c_235 => by exfalso; exact nI_big hbd9 c_235) (fun c_235 => ?_)
              refine lv_iconst (v := (nI 1)) hx hb dL_law_238 (by decide) ?_
              refine lv_goto (tgt := 243) hx hb dL_law_239 (by decide) ?_
              refine lv_istore (lv' := [(16, .int (nI 1)), (15, .int (nI n)), (14, .int (dueM kd g th n)), (13, .int (dueK kd zz g th n)), (12, .int (bst (wnP g th) n)), (11, .int (nI (mv &&& 1))), (10, .int (nI mv)), (9, .int (nI (pc th))), (8, .int (nI n)), (7, .int (nI k)), (6, .int (nI kd)), (5, .int (nI zz)), (4, .int (nI y9)), (3, .int (nI i1)), (2, .int (nI 1)), (1, .ref (z.1 0)), (0, .ref zb)]) hx hb dL_law_243 hl (by decide) rfl (fun ls hl => ?_)
              have CT290 : ∀ (w : tST), OKW (n + 1) (th ||| 2 ^ n) mv g2 (svS k + 1) w → ∀ (H : Heap) (locs : List Loc), va_P Γ.1 vwCl (LW Γ z w) H → va_D A (LW Γ z w) → va_S A st.heap H locs → ∀ (ls : Array Slot), lv_has ls 17 [(16, .int (nI 1)), (15, .int (nI n)), (14, .int (dueM kd g th n)), (13, .int (dueK kd zz g th n)), (12, .int (bst (wnP g th) n)), (11, .int (nI (mv &&& 1))), (10, .int (nI mv)), (9, .int (nI (pc th))), (8, .int (nI n)), (7, .int (nI k)), (6, .int (nI kd)), (5, .int (nI zz)), (4, .int (nI y9)), (3, .int (nI i1)), (2, .int (nI 1)), (1, .ref (z.1 0)), (0, .ref zb)] → W p l ev room_1 st mi args below meth cd H locs (53 + 5 * i1 + 1 + 1) (33083 + 30 * i1 + 6 + 6) Q (F0 mi 290 ls []) := by
                intro  w h H locs hP hD hS ls hl
                refine lv_iconst (v := (nI 1)) hx hb dL_law_290 (by decide) ?_
                refine lv_goto (tgt := 295) hx hb dL_law_291 (by decide) ?_
                refine lv_istore_n (lv' := [(2, .int (nI 1)), (16, .int (nI 1)), (15, .int (nI n)), (14, .int (dueM kd g th n)), (13, .int (dueK kd zz g th n)), (12, .int (bst (wnP g th) n)), (11, .int (nI (mv &&& 1))), (10, .int (nI mv)), (9, .int (nI (pc th))), (8, .int (nI n)), (7, .int (nI k)), (6, .int (nI kd)), (5, .int (nI zz)), (4, .int (nI y9)), (3, .int (nI i1)), (1, .ref (z.1 0)), (0, .ref zb)]) hx hb dL_law_295 rfl hl (by decide) rfl (fun ls hl => ?_)
                refine lv_iload_n hx hb dL_law_296 rfl (lv_at hl 0 rfl) ?_
                refine nb_if_eq (tgt := 369) hx hb (by omega) dL_law_297 (by decide) (fun c_297 => by exfalso; omega) (fun c_297 => ?_)
                have CT313 : ∀ (w : tST), OKW (n + 1) (th ||| 2 ^ n) mv g2 (svS k + 1) w → ∀ (H : Heap) (locs : List Loc), va_P Γ.1 vwCl (LW Γ z w) H → va_D A (LW Γ z w) → va_S A st.heap H locs → ∀ (ls : Array Slot), lv_has ls 17 [(2, .int (nI 1)), (16, .int (nI 1)), (15, .int (nI n)), (14, .int (dueM kd g th n)), (13, .int (dueK kd zz g th n)), (12, .int (bst (wnP g th) n)), (11, .int (nI (mv &&& 1))), (10, .int (nI mv)), (9, .int (nI (pc th))), (8, .int (nI n)), (7, .int (nI k)), (6, .int (nI kd)), (5, .int (nI zz)), (4, .int (nI y9)), (3, .int (nI i1)), (1, .ref (z.1 0)), (0, .ref zb)] → W p l ev room_1 st mi args below meth cd H locs (53 + 5 * i1 + 1 + 1) (33083 + 30 * i1 + 6 + 6) Q (F0 mi 313 ls []) := by
                  intro  w h H locs hP hD hS ls hl
                  refine lv_iload hx hb dL_law_313 (lv_at hl 1 rfl) ?_
                  refine nb_if_eq (tgt := 360) hx hb (by omega) dL_law_315 (by decide) (fun c_315 => by exfalso; omega) (fun c_315 => ?_)
                  refine lv_iload hx hb dL_law_318 (lv_at hl 2 rfl) ?_
                  refine lv_iload hx hb dL_law_320 (lv_at hl 9 rfl) ?_
                  refine nb_icmp_ne (tgt := 364) hx hb (by omega) (by omega) dL_law_322 (by decide) (fun c_322 => by exfalso; exact c_322 rfl) (fun c_322 => ?_)
                  refine lv_aload_n hx hb dL_law_325 rfl (lv_at hl 15 rfl) ?_
                  refine lv_iconst (v := (nI 0)) hx hb dL_law_326 (by decide) ?_
                  refine wy_fin (vx_runSW (As := [.ref (z.1 0), .int (nI 0)]) (rest := []) ⟨hx, hb, hml, hown, hts⟩ (d_L_count_a l Γ z w h 0 (by decide)) (kcwSW 2 hts kw_L_count mw_454 (lw_rm (Nat.le_of_ble_eq_true rfl) (Nat.le_of_ble_eq_true rfl))) (kPy_S hK hP hD hXS hXN hS) rfl rfl hl.1 rfl (lv_room (Nat.le_of_ble_eq_true rfl)) dL_law_327 (lw_cs (by omega) (by omega))) hP hD hS (fun r w H locs hw hP hD hS => ?_)
                  obtain ⟨rfl, h⟩ := hw
                  refine tp_i (y := (nI (n + 1))) (rfl) ?_
                  refine lv_iload hx hb dL_law_330 (lv_at hl 9 rfl) ?_
                  refine lv_iconst (v := (nI 1)) hx hb dL_law_332 (by decide) ?_
                  refine lv_iadd hx hb dL_law_333 ?_
                  refine tp_i (y := (nI (n + 1))) (nI_add _ _) ?_
                  refine nb_icmp_ne (tgt := 364) hx hb (by omega) (by omega) dL_law_334 (by decide) (fun c_334 => by exfalso; exact c_334 rfl) (fun c_334 => ?_)
                  refine lv_aload_n hx hb dL_law_337 rfl (lv_at hl 15 rfl) ?_
                  refine lv_iconst (v := (nI 1)) hx hb dL_law_338 (by decide) ?_
                  refine wy_fin (vx_runSW (As := [.ref (z.1 0), .int (nI 1)]) (rest := []) ⟨hx, hb, hml, hown, hts⟩ (d_L_count_a l Γ z w h 1 (by decide)) (kcwSW 2 hts kw_L_count mw_454 (lw_rm (Nat.le_of_ble_eq_true rfl) (Nat.le_of_ble_eq_true rfl))) (kPy_S hK hP hD hXS hXN hS) rfl rfl hl.1 rfl (lv_room (Nat.le_of_ble_eq_true rfl)) dL_law_339 (lw_cs (by omega) (by omega))) hP hD hS (fun r w H locs hw hP hD hS => ?_)
                  obtain ⟨rfl, h⟩ := hw
                  refine tp_i (y := (nI (pc (th ||| 2 ^ n)))) (rfl) ?_
                  refine lv_iload hx hb dL_law_342 (lv_at hl 8 rfl) ?_
                  refine lv_iconst (v := (nI 1)) hx hb dL_law_344 (by decide) ?_
                  refine lv_iadd hx hb dL_law_345 ?_
                  refine tp_i (y := (nI ((pc th) + 1))) (nI_add _ _) ?_
                  refine nb_icmp_ne (tgt := 364) hx hb (Nat.lt_of_le_of_lt (pc_le _) (by decide)) (by have q9 := pc_le th; omega) dL_law_346 (by decide) (fun c_346 => by exfalso; exact c_346 (pc_new hn9 hth)) (fun c_346 => ?_)
                  refine lv_aload_n hx hb dL_law_349 rfl (lv_at hl 15 rfl) ?_
                  refine lv_iload hx hb dL_law_350 (lv_at hl 9 rfl) ?_
                  refine lv_iconst (v := (nI 0)) hx hb dL_law_352 (by decide) ?_
                  refine wy_fin (vx_runSW (As := [.ref (z.1 0), .int (nI n), .int (nI 0)]) (rest := []) ⟨hx, hb, hml, hown, hts⟩ (d_L_nodeOf_a l Γ z w h n 0 (by omega) (by decide)) (kcwSW 3 hts kw_L_nodeOf mw_459 (lw_rm (Nat.le_of_ble_eq_true rfl) (Nat.le_of_ble_eq_true rfl))) (kPy_S hK hP hD hXS hXN hS) rfl rfl hl.1 rfl (lv_room (Nat.le_of_ble_eq_true rfl)) dL_law_353 (lw_cs (by omega) (by omega))) hP hD hS (fun r w H locs hw hP hD hS => ?_)
                  obtain ⟨rfl, h⟩ := hw
                  refine tp_i (y := (nI 1)) (by rw [ndT, bit_new n th]; rfl) ?_
                  refine lv_iconst (v := (nI 1)) hx hb dL_law_356 (by decide) ?_
                  refine nb_icmp_ne (tgt := 364) hx hb (by omega) (by omega) dL_law_357 (by decide) (fun c_357 => by exfalso; exact c_357 rfl) (fun c_357 => ?_)
                  refine lv_iconst (v := (nI 1)) hx hb dL_law_360 (by decide) ?_
                  refine lv_goto (tgt := 365) hx hb dL_law_361 (by decide) ?_
                  refine lv_istore_n (lv' := [(2, .int (nI 1)), (16, .int (nI 1)), (15, .int (nI n)), (14, .int (dueM kd g th n)), (13, .int (dueK kd zz g th n)), (12, .int (bst (wnP g th) n)), (11, .int (nI (mv &&& 1))), (10, .int (nI mv)), (9, .int (nI (pc th))), (8, .int (nI n)), (7, .int (nI k)), (6, .int (nI kd)), (5, .int (nI zz)), (4, .int (nI y9)), (3, .int (nI i1)), (1, .ref (z.1 0)), (0, .ref zb)]) hx hb dL_law_365 rfl hl (by decide) rfl (fun ls hl => ?_)
                  refine lv_goto (tgt := 657) hx hb dL_law_366 (by decide) ?_
                  exact CT657 (n + 1) (th ||| 2 ^ n) mv g2 (svS k + 1)  _ h _ _ hP hD hS ls (lv_sub hl [14, 0, 15, 16] rfl)
                refine lv_iload hx hb dL_law_300 (lv_at hl 11 rfl) ?_
                refine lv_iconst (v := (nI 4)) hx hb dL_law_302 (by decide) ?_
                refine nb_icmp_lt (tgt := 313) hx hb (by omega) (by omega) dL_law_303 (by decide) (fun c_303 => ?_) (fun c_303 => ?_)
                · skip
                  exact CT313   _ h _ _ hP hD hS ls (lv_sub hl [0, 1, 2, 3, 4, 5, 6, 7, 8, 9, 10, 11, 12, 13, 14, 15, 16] rfl)
                · skip
                  refine lv_iload hx hb dL_law_306 (lv_at hl 11 rfl) ?_
                  refine lv_bipush (v := (nI 12)) hx hb dL_law_308 (by decide) ?_
                  refine nb_icmp_le (tgt := 369) hx hb (by omega) (by omega) dL_law_310 (by decide) (fun c_310 => by exfalso; omega) (fun c_310 => ?_)
                  exact CT313   _ h _ _ hP hD hS ls (lv_sub hl [0, 1, 2, 3, 4, 5, 6, 7, 8, 9, 10, 11, 12, 13, 14, 15, 16] rfl)
              refine lv_aload_n hx hb dL_law_245 rfl (lv_at hl 15 rfl) ?_
              refine lv_bipush (v := (nI 11)) hx hb dL_law_246 (by decide) ?_
              refine wy_fin (vx_runSW (As := [.ref (z.1 0), .int (nI 11)]) (rest := []) ⟨hx, hb, hml, hown, hts⟩ (d_L_count_a l Γ z w h 11 (by decide)) (kcwSW 2 hts kw_L_count mw_454 (lw_rm (Nat.le_of_ble_eq_true rfl) (Nat.le_of_ble_eq_true rfl))) (kPy_S hK hP hD hXS hXN hS) rfl rfl hl.1 rfl (lv_room (Nat.le_of_ble_eq_true rfl)) dL_law_248 (lw_cs (by omega) (by omega))) hP hD hS (fun r w H locs hw hP hD hS => ?_)
              obtain ⟨rfl, h⟩ := hw
              refine tp_i (y := (nI (svS k + 1))) (rfl) ?_
              refine lv_iload hx hb dL_law_251 (lv_at hl 0 rfl) ?_
              refine nb_if_eq (tgt := 278) hx hb (by omega) dL_law_253 (by decide) (fun c_253 => by exfalso; omega) (fun c_253 => ?_)
              refine lv_iload hx hb dL_law_256 (lv_at hl 10 rfl) ?_
              refine lv_bipush (v := (nI 12)) hx hb dL_law_258 (by decide) ?_
              refine nb_icmp_ne (tgt := 271) hx hb (by omega) (by omega) dL_law_260 (by decide) (fun c_260 => ?_) (fun c_260 => by exfalso; omega)
              refine lv_iload hx hb dL_law_271 (lv_at hl 9 rfl) ?_
              refine lv_bipush (v := (nI 6)) hx hb dL_law_273 (by decide) ?_
              refine nb_icmp_ne (tgt := 283) hx hb (by omega) (by omega) dL_law_275 (by decide) (fun c_275 => ?_) (fun c_275 => ?_)
              · skip
                refine lv_iload hx hb dL_law_283 (lv_at hl 9 rfl) ?_
                refine lv_iconst (v := (nI 1)) hx hb dL_law_285 (by decide) ?_
                refine lv_iadd hx hb dL_law_286 ?_
                refine tp_i (y := (nI (k + 1))) (nI_add _ _) ?_
                refine nb_icmp_ne (tgt := 294) hx hb (by have q9 := svS_6 k; omega) (by have q9 := svS_6 k; omega) dL_law_287 (by decide) (fun c_287 => by exfalso; exact c_287 (by first | rfl | exact sv_hi c_275 | exact sv_lo hk6 c_275)) (fun c_287 => ?_)
                exact CT290   _ h _ _ hP hD hS ls (lv_sub hl [0, 1, 2, 3, 4, 5, 6, 7, 8, 9, 10, 11, 12, 13, 14, 15, 16] rfl)
              · skip
                refine lv_iload hx hb dL_law_278 (lv_at hl 9 rfl) ?_
                refine lv_goto (tgt := 287) hx hb dL_law_280 (by decide) ?_
                refine nb_icmp_ne (tgt := 294) hx hb (by have q9 := svS_6 k; omega) (by have q9 := svS_6 k; omega) dL_law_287 (by decide) (fun c_287 => by exfalso; exact c_287 (by first | rfl | exact sv_hi c_275 | exact sv_lo hk6 c_275)) (fun c_287 => ?_)
                exact CT290   _ h _ _ hP hD hS ls (lv_sub hl [0, 1, 2, 3, 4, 5, 6, 7, 8, 9, 10, 11, 12, 13, 14, 15, 16] rfl)
            · skip
              have htc9 := (trC_spec (lk2 g (zz % 10) (zz / 16 % 10) true) hw14).1
              have hbd9 : trC (lk2 g (zz % 10) (zz / 16 % 10) true) th < 2147483648 := by omega
              have hl : lv_has ls 17 [(14, .int (dueM kd g th n)), (13, .int (nI (V (lk2 g (zz % 10) (zz / 16 % 10) true) th))), (12, .int (bst (wnP g th) n)), (11, .int (nI (mv &&& 1))), (10, .int (nI mv)), (9, .int (nI (pc th))), (8, .int (nI n)), (7, .int (nI k)), (6, .int (nI kd)), (5, .int (nI zz)), (4, .int (nI y9)), (3, .int (nI i1)), (2, .int (nI 1)), (1, .ref (z.1 0)), (0, .ref zb)] := lv_cast hl (by rw [dueK_a hk9 hj9.1 hj9.2.1 hj9.2.2])
              refine lv_istore (lv' := [(15, .int (nI (trC (lk2 g (zz % 10) (zz / 16 % 10) true) th))), (14, .int (dueM kd g th n)), (13, .int (nI (V (lk2 g (zz % 10) (zz / 16 % 10) true) th))), (12, .int (bst (wnP g th) n)), (11, .int (nI (mv &&& 1))), (10, .int (nI mv)), (9, .int (nI (pc th))), (8, .int (nI n)), (7, .int (nI k)), (6, .int (nI kd)), (5, .int (nI zz)), (4, .int (nI y9)), (3, .int (nI i1)), (2, .int (nI 1)), (1, .ref (z.1 0)), (0, .ref zb)]) hx hb dL_law_229 hl (by decide) rfl (fun ls hl => ?_)
              refine lv_iload hx hb dL_law_231 (lv_at hl 0 rfl) ?_
              refine lv_ldc (v := (-2000000)) hx hb hown (hts _ mw_480) dL_law_233 ?_
              refine lv_icmp_le (tgt := 242) hx hb dL_law_235 (by decide) (fun c_235 => by exfalso; exact nI_big hbd9 c_235) (fun c_235 => ?_)
              refine lv_iconst (v := (nI 1)) hx hb dL_law_238 (by decide) ?_
              refine lv_goto (tgt := 243) hx hb dL_law_239 (by decide) ?_
              refine lv_istore (lv' := [(16, .int (nI 1)), (15, .int (nI (trC (lk2 g (zz % 10) (zz / 16 % 10) true) th))), (14, .int (dueM kd g th n)), (13, .int (nI (V (lk2 g (zz % 10) (zz / 16 % 10) true) th))), (12, .int (bst (wnP g th) n)), (11, .int (nI (mv &&& 1))), (10, .int (nI mv)), (9, .int (nI (pc th))), (8, .int (nI n)), (7, .int (nI k)), (6, .int (nI kd)), (5, .int (nI zz)), (4, .int (nI y9)), (3, .int (nI i1)), (2, .int (nI 1)), (1, .ref (z.1 0)), (0, .ref zb)]) hx hb dL_law_243 hl (by decide) rfl (fun ls hl => ?_)
              have CT290 : ∀ (w : tST), OKW n th mv (lk2 g (zz % 10) (zz / 16 % 10) true) (svS k + 1) w → ∀ (H : Heap) (locs : List Loc), va_P Γ.1 vwCl (LW Γ z w) H → va_D A (LW Γ z w) → va_S A st.heap H locs → ∀ (ls : Array Slot), lv_has ls 17 [(16, .int (nI 1)), (15, .int (nI (trC (lk2 g (zz % 10) (zz / 16 % 10) true) th))), (14, .int (dueM kd g th n)), (13, .int (nI (V (lk2 g (zz % 10) (zz / 16 % 10) true) th))), (12, .int (bst (wnP g th) n)), (11, .int (nI (mv &&& 1))), (10, .int (nI mv)), (9, .int (nI (pc th))), (8, .int (nI n)), (7, .int (nI k)), (6, .int (nI kd)), (5, .int (nI zz)), (4, .int (nI y9)), (3, .int (nI i1)), (2, .int (nI 1)), (1, .ref (z.1 0)), (0, .ref zb)] → W p l ev room_1 st mi args below meth cd H locs (53 + 5 * i1 + 1 + 1) (33083 + 30 * i1 + 6 + 6) Q (F0 mi 290 ls []) := by
                intro  w h H locs hP hD hS ls hl
                refine lv_iconst (v := (nI 1)) hx hb dL_law_290 (by decide) ?_
                refine lv_goto (tgt := 295) hx hb dL_law_291 (by decide) ?_
                refine lv_istore_n (lv' := [(2, .int (nI 1)), (16, .int (nI 1)), (15, .int (nI (trC (lk2 g (zz % 10) (zz / 16 % 10) true) th))), (14, .int (dueM kd g th n)), (13, .int (nI (V (lk2 g (zz % 10) (zz / 16 % 10) true) th))), (12, .int (bst (wnP g th) n)), (11, .int (nI (mv &&& 1))), (10, .int (nI mv)), (9, .int (nI (pc th))), (8, .int (nI n)), (7, .int (nI k)), (6, .int (nI kd)), (5, .int (nI zz)), (4, .int (nI y9)), (3, .int (nI i1)), (1, .ref (z.1 0)), (0, .ref zb)]) hx hb dL_law_295 rfl hl (by decide) rfl (fun ls hl => ?_)
                refine lv_iload_n hx hb dL_law_296 rfl (lv_at hl 0 rfl) ?_
                refine nb_if_eq (tgt := 369) hx hb (by omega) dL_law_297 (by decide) (fun c_297 => by exfalso; omega) (fun c_297 => ?_)
                refine lv_iload hx hb dL_law_300 (lv_at hl 11 rfl) ?_
                refine lv_iconst (v := (nI 4)) hx hb dL_law_302 (by decide) ?_
                refine nb_icmp_lt (tgt := 313) hx hb (by omega) (by omega) dL_law_303 (by decide) (fun c_303 => by exfalso; omega) (fun c_303 => ?_)
                refine lv_iload hx hb dL_law_306 (lv_at hl 11 rfl) ?_
                refine lv_bipush (v := (nI 12)) hx hb dL_law_308 (by decide) ?_
                refine nb_icmp_le (tgt := 369) hx hb (by omega) (by omega) dL_law_310 (by decide) (fun c_310 => ?_) (fun c_310 => by exfalso; omega)
                refine lv_iload_n hx hb dL_law_369 rfl (lv_at hl 0 rfl) ?_
                refine nb_if_eq (tgt := 440) hx hb (by omega) dL_law_370 (by decide) (fun c_370 => by exfalso; omega) (fun c_370 => ?_)
                refine lv_iload hx hb dL_law_373 (lv_at hl 11 rfl) ?_
                refine lv_bipush (v := (nI 6)) hx hb dL_law_375 (by decide) ?_
                refine nb_icmp_ge (tgt := 440) hx hb (by omega) (by omega) dL_law_377 (by decide) (fun c_377 => by exfalso; omega) (fun c_377 => ?_)
                refine lv_iload hx hb dL_law_380 (lv_at hl 1 rfl) ?_
                refine nb_if_eq (tgt := 418) hx hb (by omega) dL_law_382 (by decide) (fun c_382 => by exfalso; omega) (fun c_382 => ?_)
                refine lv_iload hx hb dL_law_385 (lv_at hl 4 rfl) ?_
                refine nb_if_lt (tgt := 414) hx hb (Nat.lt_trans (V_16 _ _) (by decide)) dL_law_387 (by decide) ?_
                refine lv_aload_n hx hb dL_law_390 rfl (lv_at hl 15 rfl) ?_
                refine lv_iconst (v := (nI 5)) hx hb dL_law_391 (by decide) ?_
                refine wy_fin (vx_runSW (As := [.ref (z.1 0), .int (nI 5)]) (rest := []) ⟨hx, hb, hml, hown, hts⟩ (d_L_count_a l Γ z w h 5 (by decide)) (kcwSW 2 hts kw_L_count mw_454 (lw_rm (Nat.le_of_ble_eq_true rfl) (Nat.le_of_ble_eq_true rfl))) (kPy_S hK hP hD hXS hXN hS) rfl rfl hl.1 rfl (lv_room (Nat.le_of_ble_eq_true rfl)) dL_law_392 (lw_cs (by omega) (by omega))) hP hD hS (fun r w H locs hw hP hD hS => ?_)
                obtain ⟨rfl, h⟩ := hw
                refine tp_i (y := (nI (V (lk2 g (zz % 10) (zz / 16 % 10) true) th))) (rfl) ?_
                refine lv_iload hx hb dL_law_395 (lv_at hl 4 rfl) ?_
                refine nb_icmp_ne (tgt := 414) hx hb (Nat.lt_trans (V_16 _ _) (by decide)) (Nat.lt_trans (V_16 _ _) (by decide)) dL_law_397 (by decide) (fun c_397 => by exfalso; exact c_397 rfl) (fun c_397 => ?_)
                refine lv_iload hx hb dL_law_400 (lv_at hl 2 rfl) ?_
                refine lv_aload_n hx hb dL_law_402 rfl (lv_at hl 15 rfl) ?_
                refine lv_iconst (v := (nI 3)) hx hb dL_law_403 (by decide) ?_
                refine wy_fin (vx_runSW (As := [.ref (z.1 0), .int (nI 3)]) (rest := [.int (nI (trC (lk2 g (zz % 10) (zz / 16 % 10) true) th))]) ⟨hx, hb, hml, hown, hts⟩ (d_L_count_a l Γ z w h 3 (by decide)) (kcwSW 2 hts kw_L_count mw_454 (lw_rm (Nat.le_of_ble_eq_true rfl) (Nat.le_of_ble_eq_true rfl))) (kPy_S hK hP hD hXS hXN hS) rfl rfl hl.1 rfl (lv_room (Nat.le_of_ble_eq_true rfl)) dL_law_404 (lw_cs (by omega) (by omega))) hP hD hS (fun r w H locs hw hP hD hS => ?_)
                obtain ⟨rfl, h⟩ := hw
                refine tp_i (y := (nI (trC (lk2 g (zz % 10) (zz / 16 % 10) true) th))) (rfl) ?_
                refine nb_icmp_ne (tgt := 414) hx hb hbd9 hbd9 dL_law_407 (by decide) (fun c_407 => by exfalso; exact c_407 rfl) (fun c_407 => ?_)
                refine lv_iconst (v := (nI 1)) hx hb dL_law_410 (by decide) ?_
                refine lv_goto (tgt := 436) hx hb dL_law_411 (by decide) ?_
                refine lv_istore_n (lv' := [(2, .int (nI 1)), (16, .int (nI 1)), (15, .int (nI (trC (lk2 g (zz % 10) (zz / 16 % 10) true) th))), (14, .int (dueM kd g th n)), (13, .int (nI (V (lk2 g (zz % 10) (zz / 16 % 10) true) th))), (12, .int (bst (wnP g th) n)), (11, .int (nI (mv &&& 1))), (10, .int (nI mv)), (9, .int (nI (pc th))), (8, .int (nI n)), (7, .int (nI k)), (6, .int (nI kd)), (5, .int (nI zz)), (4, .int (nI y9)), (3, .int (nI i1)), (1, .ref (z.1 0)), (0, .ref zb)]) hx hb dL_law_436 rfl hl (by decide) rfl (fun ls hl => ?_)
                refine lv_goto (tgt := 657) hx hb dL_law_437 (by decide) ?_
                exact CT657 n th mv (lk2 g (zz % 10) (zz / 16 % 10) true) (svS k + 1)  _ h _ _ hP hD hS ls (lv_sub hl [14, 0, 15, 16] rfl)
              refine lv_aload_n hx hb dL_law_245 rfl (lv_at hl 15 rfl) ?_
              refine lv_bipush (v := (nI 11)) hx hb dL_law_246 (by decide) ?_
              refine wy_fin (vx_runSW (As := [.ref (z.1 0), .int (nI 11)]) (rest := []) ⟨hx, hb, hml, hown, hts⟩ (d_L_count_a l Γ z w h 11 (by decide)) (kcwSW 2 hts kw_L_count mw_454 (lw_rm (Nat.le_of_ble_eq_true rfl) (Nat.le_of_ble_eq_true rfl))) (kPy_S hK hP hD hXS hXN hS) rfl rfl hl.1 rfl (lv_room (Nat.le_of_ble_eq_true rfl)) dL_law_248 (lw_cs (by omega) (by omega))) hP hD hS (fun r w H locs hw hP hD hS => ?_)
              obtain ⟨rfl, h⟩ := hw
              refine tp_i (y := (nI (svS k + 1))) (rfl) ?_
              refine lv_iload hx hb dL_law_251 (lv_at hl 0 rfl) ?_
              refine nb_if_eq (tgt := 278) hx hb (by omega) dL_law_253 (by decide) (fun c_253 => by exfalso; omega) (fun c_253 => ?_)
              refine lv_iload hx hb dL_law_256 (lv_at hl 10 rfl) ?_
              refine lv_bipush (v := (nI 12)) hx hb dL_law_258 (by decide) ?_
              refine nb_icmp_ne (tgt := 271) hx hb (by omega) (by omega) dL_law_260 (by decide) (fun c_260 => ?_) (fun c_260 => by exfalso; omega)
              refine lv_iload hx hb dL_law_271 (lv_at hl 9 rfl) ?_
              refine lv_bipush (v := (nI 6)) hx hb dL_law_273 (by decide) ?_
              refine nb_icmp_ne (tgt := 283) hx hb (by omega) (by omega) dL_law_275 (by decide) (fun c_275 => ?_) (fun c_275 => ?_)
              · skip
                refine lv_iload hx hb dL_law_283 (lv_at hl 9 rfl) ?_
                refine lv_iconst (v := (nI 1)) hx hb dL_law_285 (by decide) ?_
                refine lv_iadd hx hb dL_law_286 ?_
                refine tp_i (y := (nI (k + 1))) (nI_add _ _) ?_
                refine nb_icmp_ne (tgt := 294) hx hb (by have q9 := svS_6 k; omega) (by have q9 := svS_6 k; omega) dL_law_287 (by decide) (fun c_287 => by exfalso; exact c_287 (by first | rfl | exact sv_hi c_275 | exact sv_lo hk6 c_275)) (fun c_287 => ?_)
                exact CT290   _ h _ _ hP hD hS ls (lv_sub hl [0, 1, 2, 3, 4, 5, 6, 7, 8, 9, 10, 11, 12, 13, 14, 15, 16] rfl)
              · skip
                refine lv_iload hx hb dL_law_278 (lv_at hl 9 rfl) ?_
                refine lv_goto (tgt := 287) hx hb dL_law_280 (by decide) ?_
                refine nb_icmp_ne (tgt := 294) hx hb (by have q9 := svS_6 k; omega) (by have q9 := svS_6 k; omega) dL_law_287 (by decide) (fun c_287 => by exfalso; exact c_287 (by first | rfl | exact sv_hi c_275 | exact sv_lo hk6 c_275)) (fun c_287 => ?_)
                exact CT290   _ h _ _ hP hD hS ls (lv_sub hl [0, 1, 2, 3, 4, 5, 6, 7, 8, 9, 10, 11, 12, 13, 14, 15, 16] rfl)
            · skip
              refine lv_istore (lv' := [(15, .int (bI (mrB g th 14 i9 j9))), (14, .int (dueM kd g th n)), (13, .int (dueK kd zz g th n)), (12, .int (bst (wnP g th) n)), (11, .int (nI (mv &&& 1))), (10, .int (nI mv)), (9, .int (nI (pc th))), (8, .int (nI n)), (7, .int (nI k)), (6, .int (nI kd)), (5, .int (nI zz)), (4, .int (nI y9)), (3, .int (nI i1)), (2, .int (nI 1)), (1, .ref (z.1 0)), (0, .ref zb)]) hx hb dL_law_229 hl (by decide) rfl (fun ls hl => ?_)
              refine lv_iload hx hb dL_law_231 (lv_at hl 0 rfl) ?_
              refine lv_ldc (v := (-2000000)) hx hb hown (hts _ mw_480) dL_law_233 ?_
              refine lv_icmp_le (tgt := 242) hx hb dL_law_235 (by decide) (fun c_235 => by exfalso; exact bI_big _ c_235) (fun c_235 => ?_)
              refine lv_iconst (v := (nI 1)) hx hb dL_law_238 (by decide) ?_
              refine lv_goto (tgt := 243) hx hb dL_law_239 (by decide) ?_
              refine lv_istore (lv' := [(16, .int (nI 1)), (15, .int (bI (mrB g th 14 i9 j9))), (14, .int (dueM kd g th n)), (13, .int (dueK kd zz g th n)), (12, .int (bst (wnP g th) n)), (11, .int (nI (mv &&& 1))), (10, .int (nI mv)), (9, .int (nI (pc th))), (8, .int (nI n)), (7, .int (nI k)), (6, .int (nI kd)), (5, .int (nI zz)), (4, .int (nI y9)), (3, .int (nI i1)), (2, .int (nI 1)), (1, .ref (z.1 0)), (0, .ref zb)]) hx hb dL_law_243 hl (by decide) rfl (fun ls hl => ?_)
              have CT290 : ∀ (w : tST), OKW n th mv g2 (svS k + 1) w → ∀ (H : Heap) (locs : List Loc), va_P Γ.1 vwCl (LW Γ z w) H → va_D A (LW Γ z w) → va_S A st.heap H locs → ∀ (ls : Array Slot), lv_has ls 17 [(16, .int (nI 1)), (15, .int (bI (mrB g th 14 i9 j9))), (14, .int (dueM kd g th n)), (13, .int (dueK kd zz g th n)), (12, .int (bst (wnP g th) n)), (11, .int (nI (mv &&& 1))), (10, .int (nI mv)), (9, .int (nI (pc th))), (8, .int (nI n)), (7, .int (nI k)), (6, .int (nI kd)), (5, .int (nI zz)), (4, .int (nI y9)), (3, .int (nI i1)), (2, .int (nI 1)), (1, .ref (z.1 0)), (0, .ref zb)] → W p l ev room_1 st mi args below meth cd H locs (53 + 5 * i1 + 1 + 1) (33083 + 30 * i1 + 6 + 6) Q (F0 mi 290 ls []) := by
                intro  w h H locs hP hD hS ls hl
                refine lv_iconst (v := (nI 1)) hx hb dL_law_290 (by decide) ?_
                refine lv_goto (tgt := 295) hx hb dL_law_291 (by decide) ?_
                refine lv_istore_n (lv' := [(2, .int (nI 1)), (16, .int (nI 1)), (15, .int (bI (mrB g th 14 i9 j9))), (14, .int (dueM kd g th n)), (13, .int (dueK kd zz g th n)), (12, .int (bst (wnP g th) n)), (11, .int (nI (mv &&& 1))), (10, .int (nI mv)), (9, .int (nI (pc th))), (8, .int (nI n)), (7, .int (nI k)), (6, .int (nI kd)), (5, .int (nI zz)), (4, .int (nI y9)), (3, .int (nI i1)), (1, .ref (z.1 0)), (0, .ref zb)]) hx hb dL_law_295 rfl hl (by decide) rfl (fun ls hl => ?_)
                refine lv_iload_n hx hb dL_law_296 rfl (lv_at hl 0 rfl) ?_
                refine nb_if_eq (tgt := 369) hx hb (by omega) dL_law_297 (by decide) (fun c_297 => by exfalso; omega) (fun c_297 => ?_)
                refine lv_iload hx hb dL_law_300 (lv_at hl 11 rfl) ?_
                refine lv_iconst (v := (nI 4)) hx hb dL_law_302 (by decide) ?_
                refine nb_icmp_lt (tgt := 313) hx hb (by omega) (by omega) dL_law_303 (by decide) (fun c_303 => by exfalso; omega) (fun c_303 => ?_)
                refine lv_iload hx hb dL_law_306 (lv_at hl 11 rfl) ?_
                refine lv_bipush (v := (nI 12)) hx hb dL_law_308 (by decide) ?_
                refine nb_icmp_le (tgt := 369) hx hb (by omega) (by omega) dL_law_310 (by decide) (fun c_310 => ?_) (fun c_310 => by exfalso; omega)
                refine lv_iload_n hx hb dL_law_369 rfl (lv_at hl 0 rfl) ?_
                refine nb_if_eq (tgt := 440) hx hb (by omega) dL_law_370 (by decide) (fun c_370 => by exfalso; omega) (fun c_370 => ?_)
                refine lv_iload hx hb dL_law_373 (lv_at hl 11 rfl) ?_
                refine lv_bipush (v := (nI 6)) hx hb dL_law_375 (by decide) ?_
                refine nb_icmp_ge (tgt := 440) hx hb (by omega) (by omega) dL_law_377 (by decide) (fun c_377 => ?_) (fun c_377 => by exfalso; omega)
                refine lv_iload_n hx hb dL_law_440 rfl (lv_at hl 0 rfl) ?_
                refine nb_if_eq (tgt := 475) hx hb (by omega) dL_law_441 (by decide) (fun c_441 => by exfalso; omega) (fun c_441 => ?_)
                refine lv_iload hx hb dL_law_444 (lv_at hl 11 rfl) ?_
                refine lv_bipush (v := (nI 6)) hx hb dL_law_446 (by decide) ?_
                refine nb_icmp_ne (tgt := 475) hx hb (by omega) (by omega) dL_law_448 (by decide) (fun c_448 => by exfalso; omega) (fun c_448 => ?_)
                refine lv_iload hx hb dL_law_451 (lv_at hl 1 rfl) ?_
                refine nb_if_eq (tgt := 466) hx hb (by omega) dL_law_453 (by decide) (fun c_453 => by exfalso; omega) (fun c_453 => ?_)
                refine lv_iload hx hb dL_law_456 (lv_at hl 2 rfl) ?_
                refine nb_ifb_eq (tgt := 466) hx hb dL_law_458 (by decide) (fun c_458 => ?_) (fun c_458 => ?_)
                · skip
                  refine lv_iconst (v := (nI 1)) hx hb dL_law_466 (by decide) ?_
                  refine lv_goto (tgt := 471) hx hb dL_law_467 (by decide) ?_
                  refine lv_istore_n (lv' := [(2, .int (nI 1)), (16, .int (nI 1)), (15, .int (bI (mrB g th 14 i9 j9))), (14, .int (dueM kd g th n)), (13, .int (dueK kd zz g th n)), (12, .int (bst (wnP g th) n)), (11, .int (nI (mv &&& 1))), (10, .int (nI mv)), (9, .int (nI (pc th))), (8, .int (nI n)), (7, .int (nI k)), (6, .int (nI kd)), (5, .int (nI zz)), (4, .int (nI y9)), (3, .int (nI i1)), (1, .ref (z.1 0)), (0, .ref zb)]) hx hb dL_law_471 rfl hl (by decide) rfl (fun ls hl => ?_)
                  refine lv_goto (tgt := 657) hx hb dL_law_472 (by decide) ?_
                  exact CT657 n th mv g2 (svS k + 1)  _ h _ _ hP hD hS ls (lv_sub hl [14, 0, 15, 16] rfl)
                · skip
                  refine lv_iload hx hb dL_law_461 (lv_at hl 3 rfl) ?_
                  refine lv_if_lt (tgt := 470) hx hb dL_law_463 (by decide) (fun c_463 => by exfalso; obtain ⟨a9, ha8, hm9⟩ := mir_first hC hi9 hj9 he9 c_458; rw [← dueM_a hk9 (by omega), hm9] at c_463; exact nI_pos (by omega) c_463) (fun c_463 => ?_)
                  refine lv_iconst (v := (nI 1)) hx hb dL_law_466 (by decide) ?_
                  refine lv_goto (tgt := 471) hx hb dL_law_467 (by decide) ?_
                  refine lv_istore_n (lv' := [(2, .int (nI 1)), (16, .int (nI 1)), (15, .int (bI (mrB g th 14 i9 j9))), (14, .int (dueM kd g th n)), (13, .int (dueK kd zz g th n)), (12, .int (bst (wnP g th) n)), (11, .int (nI (mv &&& 1))), (10, .int (nI mv)), (9, .int (nI (pc th))), (8, .int (nI n)), (7, .int (nI k)), (6, .int (nI kd)), (5, .int (nI zz)), (4, .int (nI y9)), (3, .int (nI i1)), (1, .ref (z.1 0)), (0, .ref zb)]) hx hb dL_law_471 rfl hl (by decide) rfl (fun ls hl => ?_)
                  refine lv_goto (tgt := 657) hx hb dL_law_472 (by decide) ?_
                  exact CT657 n th mv g2 (svS k + 1)  _ h _ _ hP hD hS ls (lv_sub hl [14, 0, 15, 16] rfl)
              refine lv_aload_n hx hb dL_law_245 rfl (lv_at hl 15 rfl) ?_
              refine lv_bipush (v := (nI 11)) hx hb dL_law_246 (by decide) ?_
              refine wy_fin (vx_runSW (As := [.ref (z.1 0), .int (nI 11)]) (rest := []) ⟨hx, hb, hml, hown, hts⟩ (d_L_count_a l Γ z w h 11 (by decide)) (kcwSW 2 hts kw_L_count mw_454 (lw_rm (Nat.le_of_ble_eq_true rfl) (Nat.le_of_ble_eq_true rfl))) (kPy_S hK hP hD hXS hXN hS) rfl rfl hl.1 rfl (lv_room (Nat.le_of_ble_eq_true rfl)) dL_law_248 (lw_cs (by omega) (by omega))) hP hD hS (fun r w H locs hw hP hD hS => ?_)
              obtain ⟨rfl, h⟩ := hw
              refine tp_i (y := (nI (svS k + 1))) (rfl) ?_
              refine lv_iload hx hb dL_law_251 (lv_at hl 0 rfl) ?_
              refine nb_if_eq (tgt := 278) hx hb (by omega) dL_law_253 (by decide) (fun c_253 => by exfalso; omega) (fun c_253 => ?_)
              refine lv_iload hx hb dL_law_256 (lv_at hl 10 rfl) ?_
              refine lv_bipush (v := (nI 12)) hx hb dL_law_258 (by decide) ?_
              refine nb_icmp_ne (tgt := 271) hx hb (by omega) (by omega) dL_law_260 (by decide) (fun c_260 => ?_) (fun c_260 => by exfalso; omega)
              refine lv_iload hx hb dL_law_271 (lv_at hl 9 rfl) ?_
              refine lv_bipush (v := (nI 6)) hx hb dL_law_273 (by decide) ?_
              refine nb_icmp_ne (tgt := 283) hx hb (by omega) (by omega) dL_law_275 (by decide) (fun c_275 => ?_) (fun c_275 => ?_)
              · skip
                refine lv_iload hx hb dL_law_283 (lv_at hl 9 rfl) ?_
                refine lv_iconst (v := (nI 1)) hx hb dL_law_285 (by decide) ?_
                refine lv_iadd hx hb dL_law_286 ?_
                refine tp_i (y := (nI (k + 1))) (nI_add _ _) ?_
                refine nb_icmp_ne (tgt := 294) hx hb (by have q9 := svS_6 k; omega) (by have q9 := svS_6 k; omega) dL_law_287 (by decide) (fun c_287 => by exfalso; exact c_287 (by first | rfl | exact sv_hi c_275 | exact sv_lo hk6 c_275)) (fun c_287 => ?_)
                exact CT290   _ h _ _ hP hD hS ls (lv_sub hl [0, 1, 2, 3, 4, 5, 6, 7, 8, 9, 10, 11, 12, 13, 14, 15, 16] rfl)
              · skip
                refine lv_iload hx hb dL_law_278 (lv_at hl 9 rfl) ?_
                refine lv_goto (tgt := 287) hx hb dL_law_280 (by decide) ?_
                refine nb_icmp_ne (tgt := 294) hx hb (by have q9 := svS_6 k; omega) (by have q9 := svS_6 k; omega) dL_law_287 (by decide) (fun c_287 => by exfalso; exact c_287 (by first | rfl | exact sv_hi c_275 | exact sv_lo hk6 c_275)) (fun c_287 => ?_)
                exact CT290   _ h _ _ hP hD hS ls (lv_sub hl [0, 1, 2, 3, 4, 5, 6, 7, 8, 9, 10, 11, 12, 13, 14, 15, 16] rfl)
            · skip
              have hbd9 : pc th - pc (lft g th v9) < 2147483648 := by have q9 := pc_le th; omega
              refine lv_istore (lv' := [(15, .int (nI (pc th - pc (lft g th v9)))), (14, .int (dueM kd g th n)), (13, .int (dueK kd zz g th n)), (12, .int (bst (wnP g th) n)), (11, .int (nI (mv &&& 1))), (10, .int (nI mv)), (9, .int (nI (pc th))), (8, .int (nI n)), (7, .int (nI k)), (6, .int (nI kd)), (5, .int (nI zz)), (4, .int (nI y9)), (3, .int (nI i1)), (2, .int (nI 1)), (1, .ref (z.1 0)), (0, .ref zb)]) hx hb dL_law_229 hl (by decide) rfl (fun ls hl => ?_)
              refine lv_iload hx hb dL_law_231 (lv_at hl 0 rfl) ?_
              refine lv_ldc (v := (-2000000)) hx hb hown (hts _ mw_480) dL_law_233 ?_
              refine lv_icmp_le (tgt := 242) hx hb dL_law_235 (by decide) (fun c_235 => by exfalso; exact nI_big hbd9 c_235) (fun c_235 => ?_)
              refine lv_iconst (v := (nI 1)) hx hb dL_law_238 (by decide) ?_
              refine lv_goto (tgt := 243) hx hb dL_law_239 (by decide) ?_
              refine lv_istore (lv' := [(16, .int (nI 1)), (15, .int (nI (pc th - pc (lft g th v9)))), (14, .int (dueM kd g th n)), (13, .int (dueK kd zz g th n)), (12, .int (bst (wnP g th) n)), (11, .int (nI (mv &&& 1))), (10, .int (nI mv)), (9, .int (nI (pc th))), (8, .int (nI n)), (7, .int (nI k)), (6, .int (nI kd)), (5, .int (nI zz)), (4, .int (nI y9)), (3, .int (nI i1)), (2, .int (nI 1)), (1, .ref (z.1 0)), (0, .ref zb)]) hx hb dL_law_243 hl (by decide) rfl (fun ls hl => ?_)
              have CT290 : ∀ (w : tST), OKW n (lft g th v9) (mv + 1) g (svS k + 1) w → ∀ (H : Heap) (locs : List Loc), va_P Γ.1 vwCl (LW Γ z w) H → va_D A (LW Γ z w) → va_S A st.heap H locs → ∀ (ls : Array Slot), lv_has ls 17 [(16, .int (nI 1)), (15, .int (nI (pc th - pc (lft g th v9)))), (14, .int (dueM kd g th n)), (13, .int (dueK kd zz g th n)), (12, .int (bst (wnP g th) n)), (11, .int (nI (mv &&& 1))), (10, .int (nI mv)), (9, .int (nI (pc th))), (8, .int (nI n)), (7, .int (nI k)), (6, .int (nI kd)), (5, .int (nI zz)), (4, .int (nI y9)), (3, .int (nI i1)), (2, .int (nI 1)), (1, .ref (z.1 0)), (0, .ref zb)] → W p l ev room_1 st mi args below meth cd H locs (53 + 5 * i1 + 1 + 1) (33083 + 30 * i1 + 6 + 6) Q (F0 mi 290 ls []) := by
                intro  w h H locs hP hD hS ls hl
                refine lv_iconst (v := (nI 1)) hx hb dL_law_290 (by decide) ?_
                refine lv_goto (tgt := 295) hx hb dL_law_291 (by decide) ?_
                refine lv_istore_n (lv' := [(2, .int (nI 1)), (16, .int (nI 1)), (15, .int (nI (pc th - pc (lft g th v9)))), (14, .int (dueM kd g th n)), (13, .int (dueK kd zz g th n)), (12, .int (bst (wnP g th) n)), (11, .int (nI (mv &&& 1))), (10, .int (nI mv)), (9, .int (nI (pc th))), (8, .int (nI n)), (7, .int (nI k)), (6, .int (nI kd)), (5, .int (nI zz)), (4, .int (nI y9)), (3, .int (nI i1)), (1, .ref (z.1 0)), (0, .ref zb)]) hx hb dL_law_295 rfl hl (by decide) rfl (fun ls hl => ?_)
                refine lv_iload_n hx hb dL_law_296 rfl (lv_at hl 0 rfl) ?_
                refine nb_if_eq (tgt := 369) hx hb (by omega) dL_law_297 (by decide) (fun c_297 => by exfalso; omega) (fun c_297 => ?_)
                refine lv_iload hx hb dL_law_300 (lv_at hl 11 rfl) ?_
                refine lv_iconst (v := (nI 4)) hx hb dL_law_302 (by decide) ?_
                refine nb_icmp_lt (tgt := 313) hx hb (by omega) (by omega) dL_law_303 (by decide) (fun c_303 => by exfalso; omega) (fun c_303 => ?_)
                refine lv_iload hx hb dL_law_306 (lv_at hl 11 rfl) ?_
                refine lv_bipush (v := (nI 12)) hx hb dL_law_308 (by decide) ?_
                refine nb_icmp_le (tgt := 369) hx hb (by omega) (by omega) dL_law_310 (by decide) (fun c_310 => ?_) (fun c_310 => by exfalso; omega)
                refine lv_iload_n hx hb dL_law_369 rfl (lv_at hl 0 rfl) ?_
                refine nb_if_eq (tgt := 440) hx hb (by omega) dL_law_370 (by decide) (fun c_370 => by exfalso; omega) (fun c_370 => ?_)
                refine lv_iload hx hb dL_law_373 (lv_at hl 11 rfl) ?_
                refine lv_bipush (v := (nI 6)) hx hb dL_law_375 (by decide) ?_
                refine nb_icmp_ge (tgt := 440) hx hb (by omega) (by omega) dL_law_377 (by decide) (fun c_377 => ?_) (fun c_377 => by exfalso; omega)
                refine lv_iload_n hx hb dL_law_440 rfl (lv_at hl 0 rfl) ?_
                refine nb_if_eq (tgt := 475) hx hb (by omega) dL_law_441 (by decide) (fun c_441 => by exfalso; omega) (fun c_441 => ?_)
                refine lv_iload hx hb dL_law_444 (lv_at hl 11 rfl) ?_
                refine lv_bipush (v := (nI 6)) hx hb dL_law_446 (by decide) ?_
                refine nb_icmp_ne (tgt := 475) hx hb (by omega) (by omega) dL_law_448 (by decide) (fun c_448 => ?_) (fun c_448 => by exfalso; omega)
                refine lv_iload_n hx hb dL_law_475 rfl (lv_at hl 0 rfl) ?_
                refine nb_if_eq (tgt := 602) hx hb (by omega) dL_law_476 (by decide) (fun c_476 => by exfalso; omega) (fun c_476 => ?_)
                refine lv_iload hx hb dL_law_479 (lv_at hl 11 rfl) ?_
                refine lv_bipush (v := (nI 11)) hx hb dL_law_481 (by decide) ?_
                refine nb_icmp_ge (tgt := 602) hx hb (by omega) (by omega) dL_law_483 (by decide) (fun c_483 => by exfalso; omega) (fun c_483 => ?_)
                refine lv_iload hx hb dL_law_486 (lv_at hl 1 rfl) ?_
                refine nb_if_eq (tgt := 593) hx hb (by omega) dL_law_488 (by decide) (fun c_488 => by exfalso; omega) (fun c_488 => ?_)
                refine lv_aload_n hx hb dL_law_491 rfl (lv_at hl 15 rfl) ?_
                refine lv_bipush (v := (nI 9)) hx hb dL_law_492 (by decide) ?_
                refine wy_fin (vx_runSW (As := [.ref (z.1 0), .int (nI 9)]) (rest := []) ⟨hx, hb, hml, hown, hts⟩ (d_L_count_a l Γ z w h 9 (by decide)) (kcwSW 2 hts kw_L_count mw_454 (lw_rm (Nat.le_of_ble_eq_true rfl) (Nat.le_of_ble_eq_true rfl))) (kPy_S hK hP hD hXS hXN hS) rfl rfl hl.1 rfl (lv_room (Nat.le_of_ble_eq_true rfl)) dL_law_494 (lw_cs (by omega) (by omega))) hP hD hS (fun r w H locs hw hP hD hS => ?_)
                obtain ⟨rfl, h⟩ := hw
                refine tp_i (y := (nI (mv + 1))) (rfl) ?_
                refine lv_iload hx hb dL_law_497 (lv_at hl 7 rfl) ?_
                refine lv_iconst (v := (nI 1)) hx hb dL_law_499 (by decide) ?_
                refine lv_iadd hx hb dL_law_500 ?_
                refine lv_icmp_ne (tgt := 597) hx hb dL_law_501 (by decide) (fun c_501 => by exfalso; exact c_501 (nI_add _ _).symm) (fun c_501 => ?_)
                refine lv_aload_n hx hb dL_law_504 rfl (lv_at hl 15 rfl) ?_
                refine lv_bipush (v := (nI 8)) hx hb dL_law_505 (by decide) ?_
                refine wy_fin (vx_runSW (As := [.ref (z.1 0), .int (nI 8)]) (rest := []) ⟨hx, hb, hml, hown, hts⟩ (d_L_count_a l Γ z w h 8 (by decide)) (kcwSW 2 hts kw_L_count mw_454 (lw_rm (Nat.le_of_ble_eq_true rfl) (Nat.le_of_ble_eq_true rfl))) (kPy_S hK hP hD hXS hXN hS) rfl rfl hl.1 rfl (lv_room (Nat.le_of_ble_eq_true rfl)) dL_law_507 (lw_cs (by omega) (by omega))) hP hD hS (fun r w H locs hw hP hD hS => ?_)
                obtain ⟨rfl, h⟩ := hw
                refine tp_i (y := (nI ((mv + 1) &&& 1))) (rfl) ?_
                refine lv_iconst (v := (nI 1)) hx hb dL_law_510 (by decide) ?_
                refine lv_iload hx hb dL_law_511 (lv_at hl 6 rfl) ?_
                refine lv_isub hx hb dL_law_513 ?_
                refine tp_i (y := (nI (1 - (mv &&& 1)))) (ni_sub (par_le _)) ?_
                refine nb_icmp_ne (tgt := 597) hx hb (Nat.lt_of_le_of_lt (par_le _) (by decide)) (by omega) dL_law_514 (by decide) (fun c_514 => by exfalso; exact c_514 (par_s mv)) (fun c_514 => ?_)
                refine lv_aload_n hx hb dL_law_517 rfl (lv_at hl 15 rfl) ?_
                refine lv_iconst (v := (nI 0)) hx hb dL_law_518 (by decide) ?_
                refine wy_fin (vx_runSW (As := [.ref (z.1 0), .int (nI 0)]) (rest := []) ⟨hx, hb, hml, hown, hts⟩ (d_L_count_a l Γ z w h 0 (by decide)) (kcwSW 2 hts kw_L_count mw_454 (lw_rm (Nat.le_of_ble_eq_true rfl) (Nat.le_of_ble_eq_true rfl))) (kPy_S hK hP hD hXS hXN hS) rfl rfl hl.1 rfl (lv_room (Nat.le_of_ble_eq_true rfl)) dL_law_519 (lw_cs (by omega) (by omega))) hP hD hS (fun r w H locs hw hP hD hS => ?_)
                obtain ⟨rfl, h⟩ := hw
                refine tp_i (y := (nI n)) (rfl) ?_
                refine lv_iload hx hb dL_law_522 (lv_at hl 9 rfl) ?_
                refine nb_icmp_ne (tgt := 597) hx hb (by omega) (by omega) dL_law_524 (by decide) (fun c_524 => by exfalso; exact c_524 rfl) (fun c_524 => ?_)
                refine lv_aload_n hx hb dL_law_527 rfl (lv_at hl 15 rfl) ?_
                refine lv_iconst (v := (nI 1)) hx hb dL_law_528 (by decide) ?_
                refine wy_fin (vx_runSW (As := [.ref (z.1 0), .int (nI 1)]) (rest := []) ⟨hx, hb, hml, hown, hts⟩ (d_L_count_a l Γ z w h 1 (by decide)) (kcwSW 2 hts kw_L_count mw_454 (lw_rm (Nat.le_of_ble_eq_true rfl) (Nat.le_of_ble_eq_true rfl))) (kPy_S hK hP hD hXS hXN hS) rfl rfl hl.1 rfl (lv_room (Nat.le_of_ble_eq_true rfl)) dL_law_529 (lw_cs (by omega) (by omega))) hP hD hS (fun r w H locs hw hP hD hS => ?_)
                obtain ⟨rfl, h⟩ := hw
                refine tp_i (y := (nI (pc (lft g th v9)))) (rfl) ?_
                refine lv_iload hx hb dL_law_532 (lv_at hl 8 rfl) ?_
                refine nb_icmp_ge (tgt := 597) hx hb (Nat.lt_of_le_of_lt (pc_le _) (by decide)) (Nat.lt_of_le_of_lt (pc_le _) (by decide)) dL_law_534 (by decide) (fun c_534 => by exfalso; have q9 := lft_pc (g := g) hw14 hb9; omega) (fun c_534 => ?_)
                refine lv_iload hx hb dL_law_537 (lv_at hl 11 rfl) ?_
                refine lv_bipush (v := (nI 10)) hx hb dL_law_539 (by decide) ?_
                refine nb_icmp_ge (tgt := 560) hx hb (by omega) (by omega) dL_law_541 (by decide) (fun c_541 => by exfalso; omega) (fun c_541 => ?_)
                refine lv_iload hx hb dL_law_544 (lv_at hl 2 rfl) ?_
                refine lv_iload hx hb dL_law_546 (lv_at hl 8 rfl) ?_
                refine lv_aload_n hx hb dL_law_548 rfl (lv_at hl 15 rfl) ?_
                refine lv_iconst (v := (nI 1)) hx hb dL_law_549 (by decide) ?_
                refine wy_fin (vx_runSW (As := [.ref (z.1 0), .int (nI 1)]) (rest := [.int (nI (pc th)), .int (nI (pc th - pc (lft g th v9)))]) ⟨hx, hb, hml, hown, hts⟩ (d_L_count_a l Γ z w h 1 (by decide)) (kcwSW 2 hts kw_L_count mw_454 (lw_rm (Nat.le_of_ble_eq_true rfl) (Nat.le_of_ble_eq_true rfl))) (kPy_S hK hP hD hXS hXN hS) rfl rfl hl.1 rfl (lv_room (Nat.le_of_ble_eq_true rfl)) dL_law_550 (lw_cs (by omega) (by omega))) hP hD hS (fun r w H locs hw hP hD hS => ?_)
                obtain ⟨rfl, h⟩ := hw
                refine tp_i (y := (nI (pc (lft g th v9)))) (rfl) ?_
                refine lv_isub hx hb dL_law_553 ?_
                refine tp_i (y := (nI ((pc th) - (pc (lft g th v9))))) (ni_sub (by have q9 := lft_pc (g := g) hw14 hb9; omega)) ?_
                refine nb_icmp_ne (tgt := 597) hx hb hbd9 hbd9 dL_law_554 (by decide) (fun c_554 => by exfalso; exact c_554 rfl) (fun c_554 => ?_)
                refine lv_goto (tgt := 593) hx hb dL_law_557 (by decide) ?_
                refine lv_iconst (v := (nI 1)) hx hb dL_law_593 (by decide) ?_
                refine lv_goto (tgt := 598) hx hb dL_law_594 (by decide) ?_
                refine lv_istore_n (lv' := [(2, .int (nI 1)), (16, .int (nI 1)), (15, .int (nI (pc th - pc (lft g th v9)))), (14, .int (dueM kd g th n)), (13, .int (dueK kd zz g th n)), (12, .int (bst (wnP g th) n)), (11, .int (nI (mv &&& 1))), (10, .int (nI mv)), (9, .int (nI (pc th))), (8, .int (nI n)), (7, .int (nI k)), (6, .int (nI kd)), (5, .int (nI zz)), (4, .int (nI y9)), (3, .int (nI i1)), (1, .ref (z.1 0)), (0, .ref zb)]) hx hb dL_law_598 rfl hl (by decide) rfl (fun ls hl => ?_)
                refine lv_goto (tgt := 657) hx hb dL_law_599 (by decide) ?_
                exact CT657 n (lft g th v9) (mv + 1) g (svS k + 1)  _ h _ _ hP hD hS ls (lv_sub hl [14, 0, 15, 16] rfl)
              refine lv_aload_n hx hb dL_law_245 rfl (lv_at hl 15 rfl) ?_
              refine lv_bipush (v := (nI 11)) hx hb dL_law_246 (by decide) ?_
              refine wy_fin (vx_runSW (As := [.ref (z.1 0), .int (nI 11)]) (rest := []) ⟨hx, hb, hml, hown, hts⟩ (d_L_count_a l Γ z w h 11 (by decide)) (kcwSW 2 hts kw_L_count mw_454 (lw_rm (Nat.le_of_ble_eq_true rfl) (Nat.le_of_ble_eq_true rfl))) (kPy_S hK hP hD hXS hXN hS) rfl rfl hl.1 rfl (lv_room (Nat.le_of_ble_eq_true rfl)) dL_law_248 (lw_cs (by omega) (by omega))) hP hD hS (fun r w H locs hw hP hD hS => ?_)
              obtain ⟨rfl, h⟩ := hw
              refine tp_i (y := (nI (svS k + 1))) (rfl) ?_
              refine lv_iload hx hb dL_law_251 (lv_at hl 0 rfl) ?_
              refine nb_if_eq (tgt := 278) hx hb (by omega) dL_law_253 (by decide) (fun c_253 => by exfalso; omega) (fun c_253 => ?_)
              refine lv_iload hx hb dL_law_256 (lv_at hl 10 rfl) ?_
              refine lv_bipush (v := (nI 12)) hx hb dL_law_258 (by decide) ?_
              refine nb_icmp_ne (tgt := 271) hx hb (by omega) (by omega) dL_law_260 (by decide) (fun c_260 => ?_) (fun c_260 => by exfalso; omega)
              refine lv_iload hx hb dL_law_271 (lv_at hl 9 rfl) ?_
              refine lv_bipush (v := (nI 6)) hx hb dL_law_273 (by decide) ?_
              refine nb_icmp_ne (tgt := 283) hx hb (by omega) (by omega) dL_law_275 (by decide) (fun c_275 => ?_) (fun c_275 => ?_)
              · skip
                refine lv_iload hx hb dL_law_283 (lv_at hl 9 rfl) ?_
                refine lv_iconst (v := (nI 1)) hx hb dL_law_285 (by decide) ?_
                refine lv_iadd hx hb dL_law_286 ?_
                refine tp_i (y := (nI (k + 1))) (nI_add _ _) ?_
                refine nb_icmp_ne (tgt := 294) hx hb (by have q9 := svS_6 k; omega) (by have q9 := svS_6 k; omega) dL_law_287 (by decide) (fun c_287 => by exfalso; exact c_287 (by first | rfl | exact sv_hi c_275 | exact sv_lo hk6 c_275)) (fun c_287 => ?_)
                exact CT290   _ h _ _ hP hD hS ls (lv_sub hl [0, 1, 2, 3, 4, 5, 6, 7, 8, 9, 10, 11, 12, 13, 14, 15, 16] rfl)
              · skip
                refine lv_iload hx hb dL_law_278 (lv_at hl 9 rfl) ?_
                refine lv_goto (tgt := 287) hx hb dL_law_280 (by decide) ?_
                refine nb_icmp_ne (tgt := 294) hx hb (by have q9 := svS_6 k; omega) (by have q9 := svS_6 k; omega) dL_law_287 (by decide) (fun c_287 => by exfalso; exact c_287 (by first | rfl | exact sv_hi c_275 | exact sv_lo hk6 c_275)) (fun c_287 => ?_)
                exact CT290   _ h _ _ hP hD hS ls (lv_sub hl [0, 1, 2, 3, 4, 5, 6, 7, 8, 9, 10, 11, 12, 13, 14, 15, 16] rfl)
            · skip
              have hri9 := rp_in hC hz9
              have hbd9 : rpN g th n < 2147483648 := by omega
              refine lv_istore (lv' := [(15, .int (nI (rpN g th n))), (14, .int (dueM kd g th n)), (13, .int (dueK kd zz g th n)), (12, .int (bst (wnP g th) n)), (11, .int (nI (mv &&& 1))), (10, .int (nI mv)), (9, .int (nI (pc th))), (8, .int (nI n)), (7, .int (nI k)), (6, .int (nI kd)), (5, .int (nI zz)), (4, .int (nI y9)), (3, .int (nI i1)), (2, .int (nI 1)), (1, .ref (z.1 0)), (0, .ref zb)]) hx hb dL_law_229 hl (by decide) rfl (fun ls hl => ?_)
              refine lv_iload hx hb dL_law_231 (lv_at hl 0 rfl) ?_
              refine lv_ldc (v := (-2000000)) hx hb hown (hts _ mw_480) dL_law_233 ?_
              refine lv_icmp_le (tgt := 242) hx hb dL_law_235 (by decide) (fun c_235 => by exfalso; exact nI_big hbd9 c_235) (fun c_235 => ?_)
              refine lv_iconst (v := (nI 1)) hx hb dL_law_238 (by decide) ?_
              refine lv_goto (tgt := 243) hx hb dL_law_239 (by decide) ?_
              refine lv_istore (lv' := [(16, .int (nI 1)), (15, .int (nI (rpN g th n))), (14, .int (dueM kd g th n)), (13, .int (dueK kd zz g th n)), (12, .int (bst (wnP g th) n)), (11, .int (nI (mv &&& 1))), (10, .int (nI mv)), (9, .int (nI (pc th))), (8, .int (nI n)), (7, .int (nI k)), (6, .int (nI kd)), (5, .int (nI zz)), (4, .int (nI y9)), (3, .int (nI i1)), (2, .int (nI 1)), (1, .ref (z.1 0)), (0, .ref zb)]) hx hb dL_law_243 hl (by decide) rfl (fun ls hl => ?_)
              have CT290 : ∀ (w : tST), OKW n (lft g th (rpN g th n)) (mv + 1) g (svS k + 1) w → ∀ (H : Heap) (locs : List Loc), va_P Γ.1 vwCl (LW Γ z w) H → va_D A (LW Γ z w) → va_S A st.heap H locs → ∀ (ls : Array Slot), lv_has ls 17 [(16, .int (nI 1)), (15, .int (nI (rpN g th n))), (14, .int (dueM kd g th n)), (13, .int (dueK kd zz g th n)), (12, .int (bst (wnP g th) n)), (11, .int (nI (mv &&& 1))), (10, .int (nI mv)), (9, .int (nI (pc th))), (8, .int (nI n)), (7, .int (nI k)), (6, .int (nI kd)), (5, .int (nI zz)), (4, .int (nI y9)), (3, .int (nI i1)), (2, .int (nI 1)), (1, .ref (z.1 0)), (0, .ref zb)] → W p l ev room_1 st mi args below meth cd H locs (53 + 5 * i1 + 1 + 1) (33083 + 30 * i1 + 6 + 6) Q (F0 mi 290 ls []) := by
                intro  w h H locs hP hD hS ls hl
                refine lv_iconst (v := (nI 1)) hx hb dL_law_290 (by decide) ?_
                refine lv_goto (tgt := 295) hx hb dL_law_291 (by decide) ?_
                refine lv_istore_n (lv' := [(2, .int (nI 1)), (16, .int (nI 1)), (15, .int (nI (rpN g th n))), (14, .int (dueM kd g th n)), (13, .int (dueK kd zz g th n)), (12, .int (bst (wnP g th) n)), (11, .int (nI (mv &&& 1))), (10, .int (nI mv)), (9, .int (nI (pc th))), (8, .int (nI n)), (7, .int (nI k)), (6, .int (nI kd)), (5, .int (nI zz)), (4, .int (nI y9)), (3, .int (nI i1)), (1, .ref (z.1 0)), (0, .ref zb)]) hx hb dL_law_295 rfl hl (by decide) rfl (fun ls hl => ?_)
                refine lv_iload_n hx hb dL_law_296 rfl (lv_at hl 0 rfl) ?_
                refine nb_if_eq (tgt := 369) hx hb (by omega) dL_law_297 (by decide) (fun c_297 => by exfalso; omega) (fun c_297 => ?_)
                refine lv_iload hx hb dL_law_300 (lv_at hl 11 rfl) ?_
                refine lv_iconst (v := (nI 4)) hx hb dL_law_302 (by decide) ?_
                refine nb_icmp_lt (tgt := 313) hx hb (by omega) (by omega) dL_law_303 (by decide) (fun c_303 => by exfalso; omega) (fun c_303 => ?_)
                refine lv_iload hx hb dL_law_306 (lv_at hl 11 rfl) ?_
                refine lv_bipush (v := (nI 12)) hx hb dL_law_308 (by decide) ?_
                refine nb_icmp_le (tgt := 369) hx hb (by omega) (by omega) dL_law_310 (by decide) (fun c_310 => ?_) (fun c_310 => by exfalso; omega)
                refine lv_iload_n hx hb dL_law_369 rfl (lv_at hl 0 rfl) ?_
                refine nb_if_eq (tgt := 440) hx hb (by omega) dL_law_370 (by decide) (fun c_370 => by exfalso; omega) (fun c_370 => ?_)
                refine lv_iload hx hb dL_law_373 (lv_at hl 11 rfl) ?_
                refine lv_bipush (v := (nI 6)) hx hb dL_law_375 (by decide) ?_
                refine nb_icmp_ge (tgt := 440) hx hb (by omega) (by omega) dL_law_377 (by decide) (fun c_377 => ?_) (fun c_377 => by exfalso; omega)
                refine lv_iload_n hx hb dL_law_440 rfl (lv_at hl 0 rfl) ?_
                refine nb_if_eq (tgt := 475) hx hb (by omega) dL_law_441 (by decide) (fun c_441 => by exfalso; omega) (fun c_441 => ?_)
                refine lv_iload hx hb dL_law_444 (lv_at hl 11 rfl) ?_
                refine lv_bipush (v := (nI 6)) hx hb dL_law_446 (by decide) ?_
                refine nb_icmp_ne (tgt := 475) hx hb (by omega) (by omega) dL_law_448 (by decide) (fun c_448 => ?_) (fun c_448 => by exfalso; omega)
                refine lv_iload_n hx hb dL_law_475 rfl (lv_at hl 0 rfl) ?_
                refine nb_if_eq (tgt := 602) hx hb (by omega) dL_law_476 (by decide) (fun c_476 => by exfalso; omega) (fun c_476 => ?_)
                refine lv_iload hx hb dL_law_479 (lv_at hl 11 rfl) ?_
                refine lv_bipush (v := (nI 11)) hx hb dL_law_481 (by decide) ?_
                refine nb_icmp_ge (tgt := 602) hx hb (by omega) (by omega) dL_law_483 (by decide) (fun c_483 => by exfalso; omega) (fun c_483 => ?_)
                refine lv_iload hx hb dL_law_486 (lv_at hl 1 rfl) ?_
                refine nb_if_eq (tgt := 593) hx hb (by omega) dL_law_488 (by decide) (fun c_488 => by exfalso; omega) (fun c_488 => ?_)
                refine lv_aload_n hx hb dL_law_491 rfl (lv_at hl 15 rfl) ?_
                refine lv_bipush (v := (nI 9)) hx hb dL_law_492 (by decide) ?_
                refine wy_fin (vx_runSW (As := [.ref (z.1 0), .int (nI 9)]) (rest := []) ⟨hx, hb, hml, hown, hts⟩ (d_L_count_a l Γ z w h 9 (by decide)) (kcwSW 2 hts kw_L_count mw_454 (lw_rm (Nat.le_of_ble_eq_true rfl) (Nat.le_of_ble_eq_true rfl))) (kPy_S hK hP hD hXS hXN hS) rfl rfl hl.1 rfl (lv_room (Nat.le_of_ble_eq_true rfl)) dL_law_494 (lw_cs (by omega) (by omega))) hP hD hS (fun r w H locs hw hP hD hS => ?_)
                obtain ⟨rfl, h⟩ := hw
                refine tp_i (y := (nI (mv + 1))) (rfl) ?_
                refine lv_iload hx hb dL_law_497 (lv_at hl 7 rfl) ?_
                refine lv_iconst (v := (nI 1)) hx hb dL_law_499 (by decide) ?_
                refine lv_iadd hx hb dL_law_500 ?_
                refine lv_icmp_ne (tgt := 597) hx hb dL_law_501 (by decide) (fun c_501 => by exfalso; exact c_501 (nI_add _ _).symm) (fun c_501 => ?_)
                refine lv_aload_n hx hb dL_law_504 rfl (lv_at hl 15 rfl) ?_
                refine lv_bipush (v := (nI 8)) hx hb dL_law_505 (by decide) ?_
                refine wy_fin (vx_runSW (As := [.ref (z.1 0), .int (nI 8)]) (rest := []) ⟨hx, hb, hml, hown, hts⟩ (d_L_count_a l Γ z w h 8 (by decide)) (kcwSW 2 hts kw_L_count mw_454 (lw_rm (Nat.le_of_ble_eq_true rfl) (Nat.le_of_ble_eq_true rfl))) (kPy_S hK hP hD hXS hXN hS) rfl rfl hl.1 rfl (lv_room (Nat.le_of_ble_eq_true rfl)) dL_law_507 (lw_cs (by omega) (by omega))) hP hD hS (fun r w H locs hw hP hD hS => ?_)
                obtain ⟨rfl, h⟩ := hw
                refine tp_i (y := (nI ((mv + 1) &&& 1))) (rfl) ?_
                refine lv_iconst (v := (nI 1)) hx hb dL_law_510 (by decide) ?_
                refine lv_iload hx hb dL_law_511 (lv_at hl 6 rfl) ?_
                refine lv_isub hx hb dL_law_513 ?_
                refine tp_i (y := (nI (1 - (mv &&& 1)))) (ni_sub (par_le _)) ?_
                refine nb_icmp_ne (tgt := 597) hx hb (Nat.lt_of_le_of_lt (par_le _) (by decide)) (by omega) dL_law_514 (by decide) (fun c_514 => by exfalso; exact c_514 (par_s mv)) (fun c_514 => ?_)
                refine lv_aload_n hx hb dL_law_517 rfl (lv_at hl 15 rfl) ?_
                refine lv_iconst (v := (nI 0)) hx hb dL_law_518 (by decide) ?_
                refine wy_fin (vx_runSW (As := [.ref (z.1 0), .int (nI 0)]) (rest := []) ⟨hx, hb, hml, hown, hts⟩ (d_L_count_a l Γ z w h 0 (by decide)) (kcwSW 2 hts kw_L_count mw_454 (lw_rm (Nat.le_of_ble_eq_true rfl) (Nat.le_of_ble_eq_true rfl))) (kPy_S hK hP hD hXS hXN hS) rfl rfl hl.1 rfl (lv_room (Nat.le_of_ble_eq_true rfl)) dL_law_519 (lw_cs (by omega) (by omega))) hP hD hS (fun r w H locs hw hP hD hS => ?_)
                obtain ⟨rfl, h⟩ := hw
                refine tp_i (y := (nI n)) (rfl) ?_
                refine lv_iload hx hb dL_law_522 (lv_at hl 9 rfl) ?_
                refine nb_icmp_ne (tgt := 597) hx hb (by omega) (by omega) dL_law_524 (by decide) (fun c_524 => by exfalso; exact c_524 rfl) (fun c_524 => ?_)
                refine lv_aload_n hx hb dL_law_527 rfl (lv_at hl 15 rfl) ?_
                refine lv_iconst (v := (nI 1)) hx hb dL_law_528 (by decide) ?_
                refine wy_fin (vx_runSW (As := [.ref (z.1 0), .int (nI 1)]) (rest := []) ⟨hx, hb, hml, hown, hts⟩ (d_L_count_a l Γ z w h 1 (by decide)) (kcwSW 2 hts kw_L_count mw_454 (lw_rm (Nat.le_of_ble_eq_true rfl) (Nat.le_of_ble_eq_true rfl))) (kPy_S hK hP hD hXS hXN hS) rfl rfl hl.1 rfl (lv_room (Nat.le_of_ble_eq_true rfl)) dL_law_529 (lw_cs (by omega) (by omega))) hP hD hS (fun r w H locs hw hP hD hS => ?_)
                obtain ⟨rfl, h⟩ := hw
                refine tp_i (y := (nI (pc (lft g th (rpN g th n))))) (rfl) ?_
                refine lv_iload hx hb dL_law_532 (lv_at hl 8 rfl) ?_
                refine nb_icmp_ge (tgt := 597) hx hb (Nat.lt_of_le_of_lt (pc_le _) (by decide)) (Nat.lt_of_le_of_lt (pc_le _) (by decide)) dL_law_534 (by decide) (fun c_534 => by exfalso; have q9 := lft_pc (g := g) hw14 hri9.2; omega) (fun c_534 => ?_)
                refine lv_iload hx hb dL_law_537 (lv_at hl 11 rfl) ?_
                refine lv_bipush (v := (nI 10)) hx hb dL_law_539 (by decide) ?_
                refine nb_icmp_ge (tgt := 560) hx hb (by omega) (by omega) dL_law_541 (by decide) (fun c_541 => ?_) (fun c_541 => by exfalso; omega)
                refine lv_iload hx hb dL_law_560 (lv_at hl 5 rfl) ?_
                refine lv_if_lt (tgt := 583) hx hb dL_law_562 (by decide) (fun c_562 => ?_) (fun c_562 => ?_)
                · skip
                  refine lv_aload_n hx hb dL_law_583 rfl (lv_at hl 15 rfl) ?_
                  refine lv_iload hx hb dL_law_584 (lv_at hl 2 rfl) ?_
                  refine lv_iconst (v := (nI 0)) hx hb dL_law_586 (by decide) ?_
                  refine wy_fin (vx_runSW (As := [.ref (z.1 0), .int (nI (rpN g th n)), .int (nI 0)]) (rest := []) ⟨hx, hb, hml, hown, hts⟩ (d_L_nodeOf_a l Γ z w h (rpN g th n) 0 (hri9.1) (by decide)) (kcwSW 3 hts kw_L_nodeOf mw_459 (lw_rm (Nat.le_of_ble_eq_true rfl) (Nat.le_of_ble_eq_true rfl))) (kPy_S hK hP hD hXS hXN hS) rfl rfl hl.1 rfl (lv_room (Nat.le_of_ble_eq_true rfl)) dL_law_587 (lw_cs (by omega) (by omega))) hP hD hS (fun r w H locs hw hP hD hS => ?_)
                  obtain ⟨rfl, h⟩ := hw
                  refine tp_i (y := (nI 0)) (by rw [ndT, lft_no g th (rpN g th n)]; rfl) ?_
                  refine nb_if_ne (tgt := 597) hx hb (by omega) dL_law_590 (by decide) (fun c_590 => by exfalso; omega) (fun c_590 => ?_)
                  refine lv_iconst (v := (nI 1)) hx hb dL_law_593 (by decide) ?_
                  refine lv_goto (tgt := 598) hx hb dL_law_594 (by decide) ?_
                  refine lv_istore_n (lv' := [(2, .int (nI 1)), (16, .int (nI 1)), (15, .int (nI (rpN g th n))), (14, .int (dueM kd g th n)), (13, .int (dueK kd zz g th n)), (12, .int (bst (wnP g th) n)), (11, .int (nI (mv &&& 1))), (10, .int (nI mv)), (9, .int (nI (pc th))), (8, .int (nI n)), (7, .int (nI k)), (6, .int (nI kd)), (5, .int (nI zz)), (4, .int (nI y9)), (3, .int (nI i1)), (1, .ref (z.1 0)), (0, .ref zb)]) hx hb dL_law_598 rfl hl (by decide) rfl (fun ls hl => ?_)
                  refine lv_goto (tgt := 657) hx hb dL_law_599 (by decide) ?_
                  exact CT657 n (lft g th (rpN g th n)) (mv + 1) g (svS k + 1)  _ h _ _ hP hD hS ls (lv_sub hl [14, 0, 15, 16] rfl)
                · skip
                  refine lv_iload hx hb dL_law_565 (lv_at hl 2 rfl) ?_
                  refine lv_iload hx hb dL_law_567 (lv_at hl 5 rfl) ?_
                  refine lv_icmp_ne (tgt := 597) hx hb dL_law_569 (by decide) (fun c_569 => by exfalso; exact c_569 (rp_fst hn0 (Int32.not_lt.mp c_562)).1) (fun c_569 => ?_)
                  refine lv_aload_n hx hb dL_law_572 rfl (lv_at hl 15 rfl) ?_
                  refine lv_iconst (v := (nI 5)) hx hb dL_law_573 (by decide) ?_
                  refine wy_fin (vx_runSW (As := [.ref (z.1 0), .int (nI 5)]) (rest := []) ⟨hx, hb, hml, hown, hts⟩ (d_L_count_a l Γ z w h 5 (by decide)) (kcwSW 2 hts kw_L_count mw_454 (lw_rm (Nat.le_of_ble_eq_true rfl) (Nat.le_of_ble_eq_true rfl))) (kPy_S hK hP hD hXS hXN hS) rfl rfl hl.1 rfl (lv_room (Nat.le_of_ble_eq_true rfl)) dL_law_574 (lw_cs (by omega) (by omega))) hP hD hS (fun r w H locs hw hP hD hS => ?_)
                  obtain ⟨rfl, h⟩ := hw
                  refine tp_i (y := (nI (V g (lft g th (rpN g th n))))) (rfl) ?_
                  refine nb_if_ne (tgt := 597) hx hb (Nat.lt_trans (V_16 _ _) (by decide)) dL_law_577 (by decide) (fun c_577 => by exfalso; exact c_577 (rp_fst hn0 (Int32.not_lt.mp c_562)).2) (fun c_577 => ?_)
                  refine lv_goto (tgt := 593) hx hb dL_law_580 (by decide) ?_
                  refine lv_iconst (v := (nI 1)) hx hb dL_law_593 (by decide) ?_
                  refine lv_goto (tgt := 598) hx hb dL_law_594 (by decide) ?_
                  refine lv_istore_n (lv' := [(2, .int (nI 1)), (16, .int (nI 1)), (15, .int (nI (rpN g th n))), (14, .int (dueM kd g th n)), (13, .int (dueK kd zz g th n)), (12, .int (bst (wnP g th) n)), (11, .int (nI (mv &&& 1))), (10, .int (nI mv)), (9, .int (nI (pc th))), (8, .int (nI n)), (7, .int (nI k)), (6, .int (nI kd)), (5, .int (nI zz)), (4, .int (nI y9)), (3, .int (nI i1)), (1, .ref (z.1 0)), (0, .ref zb)]) hx hb dL_law_598 rfl hl (by decide) rfl (fun ls hl => ?_)
                  refine lv_goto (tgt := 657) hx hb dL_law_599 (by decide) ?_
                  exact CT657 n (lft g th (rpN g th n)) (mv + 1) g (svS k + 1)  _ h _ _ hP hD hS ls (lv_sub hl [14, 0, 15, 16] rfl)
              refine lv_aload_n hx hb dL_law_245 rfl (lv_at hl 15 rfl) ?_
              refine lv_bipush (v := (nI 11)) hx hb dL_law_246 (by decide) ?_
              refine wy_fin (vx_runSW (As := [.ref (z.1 0), .int (nI 11)]) (rest := []) ⟨hx, hb, hml, hown, hts⟩ (d_L_count_a l Γ z w h 11 (by decide)) (kcwSW 2 hts kw_L_count mw_454 (lw_rm (Nat.le_of_ble_eq_true rfl) (Nat.le_of_ble_eq_true rfl))) (kPy_S hK hP hD hXS hXN hS) rfl rfl hl.1 rfl (lv_room (Nat.le_of_ble_eq_true rfl)) dL_law_248 (lw_cs (by omega) (by omega))) hP hD hS (fun r w H locs hw hP hD hS => ?_)
              obtain ⟨rfl, h⟩ := hw
              refine tp_i (y := (nI (svS k + 1))) (rfl) ?_
              refine lv_iload hx hb dL_law_251 (lv_at hl 0 rfl) ?_
              refine nb_if_eq (tgt := 278) hx hb (by omega) dL_law_253 (by decide) (fun c_253 => by exfalso; omega) (fun c_253 => ?_)
              refine lv_iload hx hb dL_law_256 (lv_at hl 10 rfl) ?_
              refine lv_bipush (v := (nI 12)) hx hb dL_law_258 (by decide) ?_
              refine nb_icmp_ne (tgt := 271) hx hb (by omega) (by omega) dL_law_260 (by decide) (fun c_260 => ?_) (fun c_260 => by exfalso; omega)
              refine lv_iload hx hb dL_law_271 (lv_at hl 9 rfl) ?_
              refine lv_bipush (v := (nI 6)) hx hb dL_law_273 (by decide) ?_
              refine nb_icmp_ne (tgt := 283) hx hb (by omega) (by omega) dL_law_275 (by decide) (fun c_275 => ?_) (fun c_275 => ?_)
              · skip
                refine lv_iload hx hb dL_law_283 (lv_at hl 9 rfl) ?_
                refine lv_iconst (v := (nI 1)) hx hb dL_law_285 (by decide) ?_
                refine lv_iadd hx hb dL_law_286 ?_
                refine tp_i (y := (nI (k + 1))) (nI_add _ _) ?_
                refine nb_icmp_ne (tgt := 294) hx hb (by have q9 := svS_6 k; omega) (by have q9 := svS_6 k; omega) dL_law_287 (by decide) (fun c_287 => by exfalso; exact c_287 (by first | rfl | exact sv_hi c_275 | exact sv_lo hk6 c_275)) (fun c_287 => ?_)
                exact CT290   _ h _ _ hP hD hS ls (lv_sub hl [0, 1, 2, 3, 4, 5, 6, 7, 8, 9, 10, 11, 12, 13, 14, 15, 16] rfl)
              · skip
                refine lv_iload hx hb dL_law_278 (lv_at hl 9 rfl) ?_
                refine lv_goto (tgt := 287) hx hb dL_law_280 (by decide) ?_
                refine nb_icmp_ne (tgt := 294) hx hb (by have q9 := svS_6 k; omega) (by have q9 := svS_6 k; omega) dL_law_287 (by decide) (fun c_287 => by exfalso; exact c_287 (by first | rfl | exact sv_hi c_275 | exact sv_lo hk6 c_275)) (fun c_287 => ?_)
                exact CT290   _ h _ _ hP hD hS ls (lv_sub hl [0, 1, 2, 3, 4, 5, 6, 7, 8, 9, 10, 11, 12, 13, 14, 15, 16] rfl)
            · skip
              have hbd9 : n - pc th < 2147483648 := by omega
              refine lv_istore (lv' := [(15, .int (nI (n - pc th))), (14, .int (dueM kd g th n)), (13, .int (dueK kd zz g th n)), (12, .int (bst (wnP g th) n)), (11, .int (nI (mv &&& 1))), (10, .int (nI mv)), (9, .int (nI (pc th))), (8, .int (nI n)), (7, .int (nI k)), (6, .int (nI kd)), (5, .int (nI zz)), (4, .int (nI y9)), (3, .int (nI i1)), (2, .int (nI 1)), (1, .ref (z.1 0)), (0, .ref zb)]) hx hb dL_law_229 hl (by decide) rfl (fun ls hl => ?_)
              refine lv_iload hx hb dL_law_231 (lv_at hl 0 rfl) ?_
              refine lv_ldc (v := (-2000000)) hx hb hown (hts _ mw_480) dL_law_233 ?_
              refine lv_icmp_le (tgt := 242) hx hb dL_law_235 (by decide) (fun c_235 => by exfalso; exact nI_big hbd9 c_235) (fun c_235 => ?_)
              refine lv_iconst (v := (nI 1)) hx hb dL_law_238 (by decide) ?_
              refine lv_goto (tgt := 243) hx hb dL_law_239 (by decide) ?_
              refine lv_istore (lv' := [(16, .int (nI 1)), (15, .int (nI (n - pc th))), (14, .int (dueM kd g th n)), (13, .int (dueK kd zz g th n)), (12, .int (bst (wnP g th) n)), (11, .int (nI (mv &&& 1))), (10, .int (nI mv)), (9, .int (nI (pc th))), (8, .int (nI n)), (7, .int (nI k)), (6, .int (nI kd)), (5, .int (nI zz)), (4, .int (nI y9)), (3, .int (nI i1)), (2, .int (nI 1)), (1, .ref (z.1 0)), (0, .ref zb)]) hx hb dL_law_243 hl (by decide) rfl (fun ls hl => ?_)
              have CT290 : ∀ (w : tST), OKW n (2 ^ n - 1) 0 g (svS k + 1) w → ∀ (H : Heap) (locs : List Loc), va_P Γ.1 vwCl (LW Γ z w) H → va_D A (LW Γ z w) → va_S A st.heap H locs → ∀ (ls : Array Slot), lv_has ls 17 [(16, .int (nI 1)), (15, .int (nI (n - pc th))), (14, .int (dueM kd g th n)), (13, .int (dueK kd zz g th n)), (12, .int (bst (wnP g th) n)), (11, .int (nI (mv &&& 1))), (10, .int (nI mv)), (9, .int (nI (pc th))), (8, .int (nI n)), (7, .int (nI k)), (6, .int (nI kd)), (5, .int (nI zz)), (4, .int (nI y9)), (3, .int (nI i1)), (2, .int (nI 1)), (1, .ref (z.1 0)), (0, .ref zb)] → W p l ev room_1 st mi args below meth cd H locs (53 + 5 * i1 + 1 + 1) (33083 + 30 * i1 + 6 + 6) Q (F0 mi 290 ls []) := by
                intro  w h H locs hP hD hS ls hl
                refine lv_iconst (v := (nI 1)) hx hb dL_law_290 (by decide) ?_
                refine lv_goto (tgt := 295) hx hb dL_law_291 (by decide) ?_
                refine lv_istore_n (lv' := [(2, .int (nI 1)), (16, .int (nI 1)), (15, .int (nI (n - pc th))), (14, .int (dueM kd g th n)), (13, .int (dueK kd zz g th n)), (12, .int (bst (wnP g th) n)), (11, .int (nI (mv &&& 1))), (10, .int (nI mv)), (9, .int (nI (pc th))), (8, .int (nI n)), (7, .int (nI k)), (6, .int (nI kd)), (5, .int (nI zz)), (4, .int (nI y9)), (3, .int (nI i1)), (1, .ref (z.1 0)), (0, .ref zb)]) hx hb dL_law_295 rfl hl (by decide) rfl (fun ls hl => ?_)
                refine lv_iload_n hx hb dL_law_296 rfl (lv_at hl 0 rfl) ?_
                refine nb_if_eq (tgt := 369) hx hb (by omega) dL_law_297 (by decide) (fun c_297 => by exfalso; omega) (fun c_297 => ?_)
                refine lv_iload hx hb dL_law_300 (lv_at hl 11 rfl) ?_
                refine lv_iconst (v := (nI 4)) hx hb dL_law_302 (by decide) ?_
                refine nb_icmp_lt (tgt := 313) hx hb (by omega) (by omega) dL_law_303 (by decide) (fun c_303 => by exfalso; omega) (fun c_303 => ?_)
                refine lv_iload hx hb dL_law_306 (lv_at hl 11 rfl) ?_
                refine lv_bipush (v := (nI 12)) hx hb dL_law_308 (by decide) ?_
                refine nb_icmp_le (tgt := 369) hx hb (by omega) (by omega) dL_law_310 (by decide) (fun c_310 => ?_) (fun c_310 => by exfalso; omega)
                refine lv_iload_n hx hb dL_law_369 rfl (lv_at hl 0 rfl) ?_
                refine nb_if_eq (tgt := 440) hx hb (by omega) dL_law_370 (by decide) (fun c_370 => by exfalso; omega) (fun c_370 => ?_)
                refine lv_iload hx hb dL_law_373 (lv_at hl 11 rfl) ?_
                refine lv_bipush (v := (nI 6)) hx hb dL_law_375 (by decide) ?_
                refine nb_icmp_ge (tgt := 440) hx hb (by omega) (by omega) dL_law_377 (by decide) (fun c_377 => ?_) (fun c_377 => by exfalso; omega)
                refine lv_iload_n hx hb dL_law_440 rfl (lv_at hl 0 rfl) ?_
                refine nb_if_eq (tgt := 475) hx hb (by omega) dL_law_441 (by decide) (fun c_441 => by exfalso; omega) (fun c_441 => ?_)
                refine lv_iload hx hb dL_law_444 (lv_at hl 11 rfl) ?_
                refine lv_bipush (v := (nI 6)) hx hb dL_law_446 (by decide) ?_
                refine nb_icmp_ne (tgt := 475) hx hb (by omega) (by omega) dL_law_448 (by decide) (fun c_448 => ?_) (fun c_448 => by exfalso; omega)
                refine lv_iload_n hx hb dL_law_475 rfl (lv_at hl 0 rfl) ?_
                refine nb_if_eq (tgt := 602) hx hb (by omega) dL_law_476 (by decide) (fun c_476 => by exfalso; omega) (fun c_476 => ?_)
                refine lv_iload hx hb dL_law_479 (lv_at hl 11 rfl) ?_
                refine lv_bipush (v := (nI 11)) hx hb dL_law_481 (by decide) ?_
                refine nb_icmp_ge (tgt := 602) hx hb (by omega) (by omega) dL_law_483 (by decide) (fun c_483 => ?_) (fun c_483 => by exfalso; omega)
                refine lv_iload_n hx hb dL_law_602 rfl (lv_at hl 0 rfl) ?_
                refine nb_if_eq (tgt := 657) hx hb (by omega) dL_law_603 (by decide) (fun c_603 => by exfalso; omega) (fun c_603 => ?_)
                refine lv_iload hx hb dL_law_606 (lv_at hl 11 rfl) ?_
                refine lv_bipush (v := (nI 11)) hx hb dL_law_608 (by decide) ?_
                refine nb_icmp_ne (tgt := 657) hx hb (by omega) (by omega) dL_law_610 (by decide) (fun c_610 => by exfalso; omega) (fun c_610 => ?_)
                refine lv_iload hx hb dL_law_613 (lv_at hl 2 rfl) ?_
                refine lv_iload hx hb dL_law_615 (lv_at hl 9 rfl) ?_
                refine lv_iload hx hb dL_law_617 (lv_at hl 8 rfl) ?_
                refine lv_isub hx hb dL_law_619 ?_
                refine tp_i (y := (nI (n - (pc th)))) (ni_sub (pc_ltn hth)) ?_
                refine nb_icmp_ne (tgt := 655) hx hb hbd9 hbd9 dL_law_620 (by decide) (fun c_620 => by exfalso; exact c_620 rfl) (fun c_620 => ?_)
                refine lv_aload_n hx hb dL_law_623 rfl (lv_at hl 15 rfl) ?_
                refine lv_iconst (v := (nI 1)) hx hb dL_law_624 (by decide) ?_
                refine wy_fin (vx_runSW (As := [.ref (z.1 0), .int (nI 1)]) (rest := []) ⟨hx, hb, hml, hown, hts⟩ (d_L_count_a l Γ z w h 1 (by decide)) (kcwSW 2 hts kw_L_count mw_454 (lw_rm (Nat.le_of_ble_eq_true rfl) (Nat.le_of_ble_eq_true rfl))) (kPy_S hK hP hD hXS hXN hS) rfl rfl hl.1 rfl (lv_room (Nat.le_of_ble_eq_true rfl)) dL_law_625 (lw_cs (by omega) (by omega))) hP hD hS (fun r w H locs hw hP hD hS => ?_)
                obtain ⟨rfl, h⟩ := hw
                refine tp_i (y := (nI (pc (2 ^ n - 1)))) (rfl) ?_
                refine lv_iload hx hb dL_law_628 (lv_at hl 9 rfl) ?_
                refine nb_icmp_ne (tgt := 655) hx hb (Nat.lt_of_le_of_lt (pc_le _) (by decide)) (by omega) dL_law_630 (by decide) (fun c_630 => by exfalso; exact c_630 (pc_full hn0)) (fun c_630 => ?_)
                refine lv_aload_n hx hb dL_law_633 rfl (lv_at hl 15 rfl) ?_
                refine lv_bipush (v := (nI 8)) hx hb dL_law_634 (by decide) ?_
                refine wy_fin (vx_runSW (As := [.ref (z.1 0), .int (nI 8)]) (rest := []) ⟨hx, hb, hml, hown, hts⟩ (d_L_count_a l Γ z w h 8 (by decide)) (kcwSW 2 hts kw_L_count mw_454 (lw_rm (Nat.le_of_ble_eq_true rfl) (Nat.le_of_ble_eq_true rfl))) (kPy_S hK hP hD hXS hXN hS) rfl rfl hl.1 rfl (lv_room (Nat.le_of_ble_eq_true rfl)) dL_law_636 (lw_cs (by omega) (by omega))) hP hD hS (fun r w H locs hw hP hD hS => ?_)
                obtain ⟨rfl, h⟩ := hw
                refine tp_i (y := (nI (0 &&& 1))) (rfl) ?_
                refine nb_if_ne (tgt := 655) hx hb (by decide) dL_law_639 (by decide) (fun c_639 => by exfalso; exact c_639 rfl) (fun c_639 => ?_)
                refine lv_aload_n hx hb dL_law_642 rfl (lv_at hl 15 rfl) ?_
                refine lv_bipush (v := (nI 9)) hx hb dL_law_643 (by decide) ?_
                refine wy_fin (vx_runSW (As := [.ref (z.1 0), .int (nI 9)]) (rest := []) ⟨hx, hb, hml, hown, hts⟩ (d_L_count_a l Γ z w h 9 (by decide)) (kcwSW 2 hts kw_L_count mw_454 (lw_rm (Nat.le_of_ble_eq_true rfl) (Nat.le_of_ble_eq_true rfl))) (kPy_S hK hP hD hXS hXN hS) rfl rfl hl.1 rfl (lv_room (Nat.le_of_ble_eq_true rfl)) dL_law_645 (lw_cs (by omega) (by omega))) hP hD hS (fun r w H locs hw hP hD hS => ?_)
                obtain ⟨rfl, h⟩ := hw
                refine tp_i (y := (nI 0)) (rfl) ?_
                refine lv_if_ne (tgt := 655) hx hb dL_law_648 (by decide) (fun c_648 => by exfalso; exact c_648 rfl) (fun c_648 => ?_)
                refine lv_iconst (v := (nI 1)) hx hb dL_law_651 (by decide) ?_
                refine lv_goto (tgt := 656) hx hb dL_law_652 (by decide) ?_
                refine lv_istore_n (lv' := [(2, .int (nI 1)), (16, .int (nI 1)), (15, .int (nI (n - pc th))), (14, .int (dueM kd g th n)), (13, .int (dueK kd zz g th n)), (12, .int (bst (wnP g th) n)), (11, .int (nI (mv &&& 1))), (10, .int (nI mv)), (9, .int (nI (pc th))), (8, .int (nI n)), (7, .int (nI k)), (6, .int (nI kd)), (5, .int (nI zz)), (4, .int (nI y9)), (3, .int (nI i1)), (1, .ref (z.1 0)), (0, .ref zb)]) hx hb dL_law_656 rfl hl (by decide) rfl (fun ls hl => ?_)
                exact CT657 n (2 ^ n - 1) 0 g (svS k + 1)  _ h _ _ hP hD hS ls (lv_sub hl [14, 0, 15, 16] rfl)
              refine lv_aload_n hx hb dL_law_245 rfl (lv_at hl 15 rfl) ?_
              refine lv_bipush (v := (nI 11)) hx hb dL_law_246 (by decide) ?_
              refine wy_fin (vx_runSW (As := [.ref (z.1 0), .int (nI 11)]) (rest := []) ⟨hx, hb, hml, hown, hts⟩ (d_L_count_a l Γ z w h 11 (by decide)) (kcwSW 2 hts kw_L_count mw_454 (lw_rm (Nat.le_of_ble_eq_true rfl) (Nat.le_of_ble_eq_true rfl))) (kPy_S hK hP hD hXS hXN hS) rfl rfl hl.1 rfl (lv_room (Nat.le_of_ble_eq_true rfl)) dL_law_248 (lw_cs (by omega) (by omega))) hP hD hS (fun r w H locs hw hP hD hS => ?_)
              obtain ⟨rfl, h⟩ := hw
              refine tp_i (y := (nI (svS k + 1))) (rfl) ?_
              refine lv_iload hx hb dL_law_251 (lv_at hl 0 rfl) ?_
              refine nb_if_eq (tgt := 278) hx hb (by omega) dL_law_253 (by decide) (fun c_253 => by exfalso; omega) (fun c_253 => ?_)
              refine lv_iload hx hb dL_law_256 (lv_at hl 10 rfl) ?_
              refine lv_bipush (v := (nI 12)) hx hb dL_law_258 (by decide) ?_
              refine nb_icmp_ne (tgt := 271) hx hb (by omega) (by omega) dL_law_260 (by decide) (fun c_260 => ?_) (fun c_260 => by exfalso; omega)
              refine lv_iload hx hb dL_law_271 (lv_at hl 9 rfl) ?_
              refine lv_bipush (v := (nI 6)) hx hb dL_law_273 (by decide) ?_
              refine nb_icmp_ne (tgt := 283) hx hb (by omega) (by omega) dL_law_275 (by decide) (fun c_275 => ?_) (fun c_275 => ?_)
              · skip
                refine lv_iload hx hb dL_law_283 (lv_at hl 9 rfl) ?_
                refine lv_iconst (v := (nI 1)) hx hb dL_law_285 (by decide) ?_
                refine lv_iadd hx hb dL_law_286 ?_
                refine tp_i (y := (nI (k + 1))) (nI_add _ _) ?_
                refine nb_icmp_ne (tgt := 294) hx hb (by have q9 := svS_6 k; omega) (by have q9 := svS_6 k; omega) dL_law_287 (by decide) (fun c_287 => by exfalso; exact c_287 (by first | rfl | exact sv_hi c_275 | exact sv_lo hk6 c_275)) (fun c_287 => ?_)
                exact CT290   _ h _ _ hP hD hS ls (lv_sub hl [0, 1, 2, 3, 4, 5, 6, 7, 8, 9, 10, 11, 12, 13, 14, 15, 16] rfl)
              · skip
                refine lv_iload hx hb dL_law_278 (lv_at hl 9 rfl) ?_
                refine lv_goto (tgt := 287) hx hb dL_law_280 (by decide) ?_
                refine nb_icmp_ne (tgt := 294) hx hb (by have q9 := svS_6 k; omega) (by have q9 := svS_6 k; omega) dL_law_287 (by decide) (fun c_287 => by exfalso; exact c_287 (by first | rfl | exact sv_hi c_275 | exact sv_lo hk6 c_275)) (fun c_287 => ?_)
                exact CT290   _ h _ _ hP hD hS ls (lv_sub hl [0, 1, 2, 3, 4, 5, 6, 7, 8, 9, 10, 11, 12, 13, 14, 15, 16] rfl)
            · skip
              have hbd9 : pc th2 < 2147483648 := by have q9 := pc_le th2; omega
              refine lv_istore (lv' := [(15, .int (nI (pc th2))), (14, .int (dueM kd g th n)), (13, .int (dueK kd zz g th n)), (12, .int (bst (wnP g th) n)), (11, .int (nI (mv &&& 1))), (10, .int (nI mv)), (9, .int (nI (pc th))), (8, .int (nI n)), (7, .int (nI k)), (6, .int (nI kd)), (5, .int (nI zz)), (4, .int (nI y9)), (3, .int (nI i1)), (2, .int (nI 1)), (1, .ref (z.1 0)), (0, .ref zb)]) hx hb dL_law_229 hl (by decide) rfl (fun ls hl => ?_)
              refine lv_iload hx hb dL_law_231 (lv_at hl 0 rfl) ?_
              refine lv_ldc (v := (-2000000)) hx hb hown (hts _ mw_480) dL_law_233 ?_
              refine lv_icmp_le (tgt := 242) hx hb dL_law_235 (by decide) (fun c_235 => by exfalso; exact nI_big hbd9 c_235) (fun c_235 => ?_)
              refine lv_iconst (v := (nI 1)) hx hb dL_law_238 (by decide) ?_
              refine lv_goto (tgt := 243) hx hb dL_law_239 (by decide) ?_
              refine lv_istore (lv' := [(16, .int (nI 1)), (15, .int (nI (pc th2))), (14, .int (dueM kd g th n)), (13, .int (dueK kd zz g th n)), (12, .int (bst (wnP g th) n)), (11, .int (nI (mv &&& 1))), (10, .int (nI mv)), (9, .int (nI (pc th))), (8, .int (nI n)), (7, .int (nI k)), (6, .int (nI kd)), (5, .int (nI zz)), (4, .int (nI y9)), (3, .int (nI i1)), (2, .int (nI 1)), (1, .ref (z.1 0)), (0, .ref zb)]) hx hb dL_law_243 hl (by decide) rfl (fun ls hl => ?_)
              have CT290 : ∀ (w : tST), OKW n2 th2 mv2 g2 (svS k + 1) w → ∀ (H : Heap) (locs : List Loc), va_P Γ.1 vwCl (LW Γ z w) H → va_D A (LW Γ z w) → va_S A st.heap H locs → ∀ (ls : Array Slot), lv_has ls 17 [(16, .int (nI 1)), (15, .int (nI (pc th2))), (14, .int (dueM kd g th n)), (13, .int (dueK kd zz g th n)), (12, .int (bst (wnP g th) n)), (11, .int (nI (mv &&& 1))), (10, .int (nI mv)), (9, .int (nI (pc th))), (8, .int (nI n)), (7, .int (nI k)), (6, .int (nI kd)), (5, .int (nI zz)), (4, .int (nI y9)), (3, .int (nI i1)), (2, .int (nI 1)), (1, .ref (z.1 0)), (0, .ref zb)] → W p l ev room_1 st mi args below meth cd H locs (53 + 5 * i1 + 1 + 1) (33083 + 30 * i1 + 6 + 6) Q (F0 mi 290 ls []) := by
                intro  w h H locs hP hD hS ls hl
                refine lv_iconst (v := (nI 1)) hx hb dL_law_290 (by decide) ?_
                refine lv_goto (tgt := 295) hx hb dL_law_291 (by decide) ?_
                refine lv_istore_n (lv' := [(2, .int (nI 1)), (16, .int (nI 1)), (15, .int (nI (pc th2))), (14, .int (dueM kd g th n)), (13, .int (dueK kd zz g th n)), (12, .int (bst (wnP g th) n)), (11, .int (nI (mv &&& 1))), (10, .int (nI mv)), (9, .int (nI (pc th))), (8, .int (nI n)), (7, .int (nI k)), (6, .int (nI kd)), (5, .int (nI zz)), (4, .int (nI y9)), (3, .int (nI i1)), (1, .ref (z.1 0)), (0, .ref zb)]) hx hb dL_law_295 rfl hl (by decide) rfl (fun ls hl => ?_)
                refine lv_iload_n hx hb dL_law_296 rfl (lv_at hl 0 rfl) ?_
                refine nb_if_eq (tgt := 369) hx hb (by omega) dL_law_297 (by decide) (fun c_297 => by exfalso; omega) (fun c_297 => ?_)
                refine lv_iload hx hb dL_law_300 (lv_at hl 11 rfl) ?_
                refine lv_iconst (v := (nI 4)) hx hb dL_law_302 (by decide) ?_
                refine nb_icmp_lt (tgt := 313) hx hb (by omega) (by omega) dL_law_303 (by decide) (fun c_303 => by exfalso; omega) (fun c_303 => ?_)
                refine lv_iload hx hb dL_law_306 (lv_at hl 11 rfl) ?_
                refine lv_bipush (v := (nI 12)) hx hb dL_law_308 (by decide) ?_
                refine nb_icmp_le (tgt := 369) hx hb (by omega) (by omega) dL_law_310 (by decide) (fun c_310 => ?_) (fun c_310 => by exfalso; omega)
                refine lv_iload_n hx hb dL_law_369 rfl (lv_at hl 0 rfl) ?_
                refine nb_if_eq (tgt := 440) hx hb (by omega) dL_law_370 (by decide) (fun c_370 => by exfalso; omega) (fun c_370 => ?_)
                refine lv_iload hx hb dL_law_373 (lv_at hl 11 rfl) ?_
                refine lv_bipush (v := (nI 6)) hx hb dL_law_375 (by decide) ?_
                refine nb_icmp_ge (tgt := 440) hx hb (by omega) (by omega) dL_law_377 (by decide) (fun c_377 => ?_) (fun c_377 => by exfalso; omega)
                refine lv_iload_n hx hb dL_law_440 rfl (lv_at hl 0 rfl) ?_
                refine nb_if_eq (tgt := 475) hx hb (by omega) dL_law_441 (by decide) (fun c_441 => by exfalso; omega) (fun c_441 => ?_)
                refine lv_iload hx hb dL_law_444 (lv_at hl 11 rfl) ?_
                refine lv_bipush (v := (nI 6)) hx hb dL_law_446 (by decide) ?_
                refine nb_icmp_ne (tgt := 475) hx hb (by omega) (by omega) dL_law_448 (by decide) (fun c_448 => ?_) (fun c_448 => by exfalso; omega)
                refine lv_iload_n hx hb dL_law_475 rfl (lv_at hl 0 rfl) ?_
                refine nb_if_eq (tgt := 602) hx hb (by omega) dL_law_476 (by decide) (fun c_476 => by exfalso; omega) (fun c_476 => ?_)
                refine lv_iload hx hb dL_law_479 (lv_at hl 11 rfl) ?_
                refine lv_bipush (v := (nI 11)) hx hb dL_law_481 (by decide) ?_
                refine nb_icmp_ge (tgt := 602) hx hb (by omega) (by omega) dL_law_483 (by decide) (fun c_483 => ?_) (fun c_483 => by exfalso; omega)
                refine lv_iload_n hx hb dL_law_602 rfl (lv_at hl 0 rfl) ?_
                refine nb_if_eq (tgt := 657) hx hb (by omega) dL_law_603 (by decide) (fun c_603 => by exfalso; omega) (fun c_603 => ?_)
                refine lv_iload hx hb dL_law_606 (lv_at hl 11 rfl) ?_
                refine lv_bipush (v := (nI 11)) hx hb dL_law_608 (by decide) ?_
                refine nb_icmp_ne (tgt := 657) hx hb (by omega) (by omega) dL_law_610 (by decide) (fun c_610 => ?_) (fun c_610 => by exfalso; omega)
                exact CT657 n2 th2 mv2 g2 (svS k + 1)  _ h _ _ hP hD hS ls (lv_sub hl [14, 0, 15, 16] rfl)
              refine lv_aload_n hx hb dL_law_245 rfl (lv_at hl 15 rfl) ?_
              refine lv_bipush (v := (nI 11)) hx hb dL_law_246 (by decide) ?_
              refine wy_fin (vx_runSW (As := [.ref (z.1 0), .int (nI 11)]) (rest := []) ⟨hx, hb, hml, hown, hts⟩ (d_L_count_a l Γ z w h 11 (by decide)) (kcwSW 2 hts kw_L_count mw_454 (lw_rm (Nat.le_of_ble_eq_true rfl) (Nat.le_of_ble_eq_true rfl))) (kPy_S hK hP hD hXS hXN hS) rfl rfl hl.1 rfl (lv_room (Nat.le_of_ble_eq_true rfl)) dL_law_248 (lw_cs (by omega) (by omega))) hP hD hS (fun r w H locs hw hP hD hS => ?_)
              obtain ⟨rfl, h⟩ := hw
              refine tp_i (y := (nI (svS k + 1))) (rfl) ?_
              refine lv_iload hx hb dL_law_251 (lv_at hl 0 rfl) ?_
              refine nb_if_eq (tgt := 278) hx hb (by omega) dL_law_253 (by decide) (fun c_253 => by exfalso; omega) (fun c_253 => ?_)
              refine lv_iload hx hb dL_law_256 (lv_at hl 10 rfl) ?_
              refine lv_bipush (v := (nI 12)) hx hb dL_law_258 (by decide) ?_
              refine nb_icmp_ne (tgt := 271) hx hb (by omega) (by omega) dL_law_260 (by decide) (fun c_260 => by exfalso; omega) (fun c_260 => ?_)
              refine lv_iload hx hb dL_law_263 (lv_at hl 11 rfl) ?_
              refine lv_iconst (v := (nI 2)) hx hb dL_law_265 (by decide) ?_
              refine lv_irem hx hb dL_law_266 (nI_ne0 (by omega) (by omega)) ?_
              refine tp_i (y := (nI (zz % 2))) (pk_rem (by omega) (by omega) (by omega)) ?_
              refine lv_iconst (v := (nI 1)) hx hb dL_law_267 (by decide) ?_
              refine nb_icmp_eq (tgt := 278) hx hb (by omega) (by omega) dL_law_268 (by decide) (fun c_268 => by exfalso; omega) (fun c_268 => ?_)
              refine lv_iload hx hb dL_law_271 (lv_at hl 9 rfl) ?_
              refine lv_bipush (v := (nI 6)) hx hb dL_law_273 (by decide) ?_
              refine nb_icmp_ne (tgt := 283) hx hb (by omega) (by omega) dL_law_275 (by decide) (fun c_275 => ?_) (fun c_275 => ?_)
              · skip
                refine lv_iload hx hb dL_law_283 (lv_at hl 9 rfl) ?_
                refine lv_iconst (v := (nI 1)) hx hb dL_law_285 (by decide) ?_
                refine lv_iadd hx hb dL_law_286 ?_
                refine tp_i (y := (nI (k + 1))) (nI_add _ _) ?_
                refine nb_icmp_ne (tgt := 294) hx hb (by have q9 := svS_6 k; omega) (by have q9 := svS_6 k; omega) dL_law_287 (by decide) (fun c_287 => by exfalso; exact c_287 (by first | rfl | exact sv_hi c_275 | exact sv_lo hk6 c_275)) (fun c_287 => ?_)
                exact CT290   _ h _ _ hP hD hS ls (lv_sub hl [0, 1, 2, 3, 4, 5, 6, 7, 8, 9, 10, 11, 12, 13, 14, 15, 16] rfl)
              · skip
                refine lv_iload hx hb dL_law_278 (lv_at hl 9 rfl) ?_
                refine lv_goto (tgt := 287) hx hb dL_law_280 (by decide) ?_
                refine nb_icmp_ne (tgt := 294) hx hb (by have q9 := svS_6 k; omega) (by have q9 := svS_6 k; omega) dL_law_287 (by decide) (fun c_287 => by exfalso; exact c_287 (by first | rfl | exact sv_hi c_275 | exact sv_lo hk6 c_275)) (fun c_287 => ?_)
                exact CT290   _ h _ _ hP hD hS ls (lv_sub hl [0, 1, 2, 3, 4, 5, 6, 7, 8, 9, 10, 11, 12, 13, 14, 15, 16] rfl)
            · skip
              have hbd9 : pc th < 2147483648 := by have q9 := pc_le th; omega
              refine lv_istore (lv' := [(15, .int (nI (pc th))), (14, .int (dueM kd g th n)), (13, .int (dueK kd zz g th n)), (12, .int (bst (wnP g th) n)), (11, .int (nI (mv &&& 1))), (10, .int (nI mv)), (9, .int (nI (pc th))), (8, .int (nI n)), (7, .int (nI k)), (6, .int (nI kd)), (5, .int (nI zz)), (4, .int (nI y9)), (3, .int (nI i1)), (2, .int (nI 1)), (1, .ref (z.1 0)), (0, .ref zb)]) hx hb dL_law_229 hl (by decide) rfl (fun ls hl => ?_)
              refine lv_iload hx hb dL_law_231 (lv_at hl 0 rfl) ?_
              refine lv_ldc (v := (-2000000)) hx hb hown (hts _ mw_480) dL_law_233 ?_
              refine lv_icmp_le (tgt := 242) hx hb dL_law_235 (by decide) (fun c_235 => by exfalso; exact nI_big hbd9 c_235) (fun c_235 => ?_)
              refine lv_iconst (v := (nI 1)) hx hb dL_law_238 (by decide) ?_
              refine lv_goto (tgt := 243) hx hb dL_law_239 (by decide) ?_
              refine lv_istore (lv' := [(16, .int (nI 1)), (15, .int (nI (pc th))), (14, .int (dueM kd g th n)), (13, .int (dueK kd zz g th n)), (12, .int (bst (wnP g th) n)), (11, .int (nI (mv &&& 1))), (10, .int (nI mv)), (9, .int (nI (pc th))), (8, .int (nI n)), (7, .int (nI k)), (6, .int (nI kd)), (5, .int (nI zz)), (4, .int (nI y9)), (3, .int (nI i1)), (2, .int (nI 1)), (1, .ref (z.1 0)), (0, .ref zb)]) hx hb dL_law_243 hl (by decide) rfl (fun ls hl => ?_)
              have CT290 : ∀ (w : tST), OKW n th mv g k w → ∀ (H : Heap) (locs : List Loc), va_P Γ.1 vwCl (LW Γ z w) H → va_D A (LW Γ z w) → va_S A st.heap H locs → ∀ (ls : Array Slot), lv_has ls 17 [(16, .int (nI 1)), (15, .int (nI (pc th))), (14, .int (dueM kd g th n)), (13, .int (dueK kd zz g th n)), (12, .int (bst (wnP g th) n)), (11, .int (nI (mv &&& 1))), (10, .int (nI mv)), (9, .int (nI (pc th))), (8, .int (nI n)), (7, .int (nI k)), (6, .int (nI kd)), (5, .int (nI zz)), (4, .int (nI y9)), (3, .int (nI i1)), (2, .int (nI 1)), (1, .ref (z.1 0)), (0, .ref zb)] → W p l ev room_1 st mi args below meth cd H locs (53 + 5 * i1 + 1 + 1) (33083 + 30 * i1 + 6 + 6) Q (F0 mi 290 ls []) := by
                intro  w h H locs hP hD hS ls hl
                refine lv_iconst (v := (nI 1)) hx hb dL_law_290 (by decide) ?_
                refine lv_goto (tgt := 295) hx hb dL_law_291 (by decide) ?_
                refine lv_istore_n (lv' := [(2, .int (nI 1)), (16, .int (nI 1)), (15, .int (nI (pc th))), (14, .int (dueM kd g th n)), (13, .int (dueK kd zz g th n)), (12, .int (bst (wnP g th) n)), (11, .int (nI (mv &&& 1))), (10, .int (nI mv)), (9, .int (nI (pc th))), (8, .int (nI n)), (7, .int (nI k)), (6, .int (nI kd)), (5, .int (nI zz)), (4, .int (nI y9)), (3, .int (nI i1)), (1, .ref (z.1 0)), (0, .ref zb)]) hx hb dL_law_295 rfl hl (by decide) rfl (fun ls hl => ?_)
                refine lv_iload_n hx hb dL_law_296 rfl (lv_at hl 0 rfl) ?_
                refine nb_if_eq (tgt := 369) hx hb (by omega) dL_law_297 (by decide) (fun c_297 => by exfalso; omega) (fun c_297 => ?_)
                refine lv_iload hx hb dL_law_300 (lv_at hl 11 rfl) ?_
                refine lv_iconst (v := (nI 4)) hx hb dL_law_302 (by decide) ?_
                refine nb_icmp_lt (tgt := 313) hx hb (by omega) (by omega) dL_law_303 (by decide) (fun c_303 => by exfalso; omega) (fun c_303 => ?_)
                refine lv_iload hx hb dL_law_306 (lv_at hl 11 rfl) ?_
                refine lv_bipush (v := (nI 12)) hx hb dL_law_308 (by decide) ?_
                refine nb_icmp_le (tgt := 369) hx hb (by omega) (by omega) dL_law_310 (by decide) (fun c_310 => ?_) (fun c_310 => by exfalso; omega)
                refine lv_iload_n hx hb dL_law_369 rfl (lv_at hl 0 rfl) ?_
                refine nb_if_eq (tgt := 440) hx hb (by omega) dL_law_370 (by decide) (fun c_370 => by exfalso; omega) (fun c_370 => ?_)
                refine lv_iload hx hb dL_law_373 (lv_at hl 11 rfl) ?_
                refine lv_bipush (v := (nI 6)) hx hb dL_law_375 (by decide) ?_
                refine nb_icmp_ge (tgt := 440) hx hb (by omega) (by omega) dL_law_377 (by decide) (fun c_377 => ?_) (fun c_377 => by exfalso; omega)
                refine lv_iload_n hx hb dL_law_440 rfl (lv_at hl 0 rfl) ?_
                refine nb_if_eq (tgt := 475) hx hb (by omega) dL_law_441 (by decide) (fun c_441 => by exfalso; omega) (fun c_441 => ?_)
                refine lv_iload hx hb dL_law_444 (lv_at hl 11 rfl) ?_
                refine lv_bipush (v := (nI 6)) hx hb dL_law_446 (by decide) ?_
                refine nb_icmp_ne (tgt := 475) hx hb (by omega) (by omega) dL_law_448 (by decide) (fun c_448 => ?_) (fun c_448 => by exfalso; omega)
                refine lv_iload_n hx hb dL_law_475 rfl (lv_at hl 0 rfl) ?_
                refine nb_if_eq (tgt := 602) hx hb (by omega) dL_law_476 (by decide) (fun c_476 => by exfalso; omega) (fun c_476 => ?_)
                refine lv_iload hx hb dL_law_479 (lv_at hl 11 rfl) ?_
                refine lv_bipush (v := (nI 11)) hx hb dL_law_481 (by decide) ?_
                refine nb_icmp_ge (tgt := 602) hx hb (by omega) (by omega) dL_law_483 (by decide) (fun c_483 => ?_) (fun c_483 => by exfalso; omega)
                refine lv_iload_n hx hb dL_law_602 rfl (lv_at hl 0 rfl) ?_
                refine nb_if_eq (tgt := 657) hx hb (by omega) dL_law_603 (by decide) (fun c_603 => by exfalso; omega) (fun c_603 => ?_)
                refine lv_iload hx hb dL_law_606 (lv_at hl 11 rfl) ?_
                refine lv_bipush (v := (nI 11)) hx hb dL_law_608 (by decide) ?_
                refine nb_icmp_ne (tgt := 657) hx hb (by omega) (by omega) dL_law_610 (by decide) (fun c_610 => ?_) (fun c_610 => by exfalso; omega)
                exact CT657 n th mv g k  _ h _ _ hP hD hS ls (lv_sub hl [14, 0, 15, 16] rfl)
              refine lv_aload_n hx hb dL_law_245 rfl (lv_at hl 15 rfl) ?_
              refine lv_bipush (v := (nI 11)) hx hb dL_law_246 (by decide) ?_
              refine wy_fin (vx_runSW (As := [.ref (z.1 0), .int (nI 11)]) (rest := []) ⟨hx, hb, hml, hown, hts⟩ (d_L_count_a l Γ z w h 11 (by decide)) (kcwSW 2 hts kw_L_count mw_454 (lw_rm (Nat.le_of_ble_eq_true rfl) (Nat.le_of_ble_eq_true rfl))) (kPy_S hK hP hD hXS hXN hS) rfl rfl hl.1 rfl (lv_room (Nat.le_of_ble_eq_true rfl)) dL_law_248 (lw_cs (by omega) (by omega))) hP hD hS (fun r w H locs hw hP hD hS => ?_)
              obtain ⟨rfl, h⟩ := hw
              refine tp_i (y := (nI k)) (rfl) ?_
              refine lv_iload hx hb dL_law_251 (lv_at hl 0 rfl) ?_
              refine nb_if_eq (tgt := 278) hx hb (by omega) dL_law_253 (by decide) (fun c_253 => by exfalso; omega) (fun c_253 => ?_)
              refine lv_iload hx hb dL_law_256 (lv_at hl 10 rfl) ?_
              refine lv_bipush (v := (nI 12)) hx hb dL_law_258 (by decide) ?_
              refine nb_icmp_ne (tgt := 271) hx hb (by omega) (by omega) dL_law_260 (by decide) (fun c_260 => by exfalso; omega) (fun c_260 => ?_)
              refine lv_iload hx hb dL_law_263 (lv_at hl 11 rfl) ?_
              refine lv_iconst (v := (nI 2)) hx hb dL_law_265 (by decide) ?_
              refine lv_irem hx hb dL_law_266 (nI_ne0 (by omega) (by omega)) ?_
              refine tp_i (y := (nI (zz % 2))) (pk_rem (by omega) (by omega) (by omega)) ?_
              refine lv_iconst (v := (nI 1)) hx hb dL_law_267 (by decide) ?_
              refine nb_icmp_eq (tgt := 278) hx hb (by omega) (by omega) dL_law_268 (by decide) (fun c_268 => ?_) (fun c_268 => by exfalso; omega)
              refine lv_iload hx hb dL_law_278 (lv_at hl 9 rfl) ?_
              refine lv_goto (tgt := 287) hx hb dL_law_280 (by decide) ?_
              refine nb_icmp_ne (tgt := 294) hx hb (by have q9 := svS_6 k; omega) (by have q9 := svS_6 k; omega) dL_law_287 (by decide) (fun c_287 => by exfalso; exact c_287 (by first | rfl | exact sv_hi c_275 | exact sv_lo hk6 c_275)) (fun c_287 => ?_)
              exact CT290   _ h _ _ hP hD hS ls (lv_sub hl [0, 1, 2, 3, 4, 5, 6, 7, 8, 9, 10, 11, 12, 13, 14, 15, 16] rfl)
          refine lv_iload hx hb dL_law_200 (lv_at hl 7 rfl) ?_
          refine lv_bipush (v := (nI 6)) hx hb dL_law_202 (by decide) ?_
          refine nb_icmp_ne (tgt := 220) hx hb (by omega) (by omega) dL_law_204 (by decide) (fun c_204 => ?_) (fun c_204 => ?_)
          · skip
            refine lv_iconst (v := (-1)) hx hb dL_law_220 (by decide) ?_
            refine tp_i (y := (dueM kd g th n)) (dueM_o (by omega)) ?_
            exact CT221   _ h _ _ hP hD hS ls (lv_sub hl [0, 1, 2, 3, 4, 5, 6, 7, 8, 9, 10, 11, 12, 13] rfl)
          · skip
            refine lv_iload hx hb dL_law_207 (lv_at hl 5 rfl) ?_
            refine nb_if_le (tgt := 220) hx hb (by omega) dL_law_209 (by decide) (fun c_209 => ?_) (fun c_209 => ?_)
            · skip
              refine lv_iconst (v := (-1)) hx hb dL_law_220 (by decide) ?_
              refine tp_i (y := (dueM kd g th n)) (dueM_o (by omega)) ?_
              exact CT221   _ h _ _ hP hD hS ls (lv_sub hl [0, 1, 2, 3, 4, 5, 6, 7, 8, 9, 10, 11, 12, 13] rfl)
            · skip
              refine lv_aload_n hx hb dL_law_212 rfl (lv_at hl 12 rfl) ?_
              refine lv_iconst (v := (nI 0)) hx hb dL_law_213 (by decide) ?_
              refine wy_fin (vx_runSW (As := [.ref (z.1 0), .int (nI 0)]) (rest := []) ⟨hx, hb, hml, hown, hts⟩ (d_L_mirror_a l Γ z w h (nI 0) (nI_pos (by decide))) (kcwSW 2 hts kw_L_mirror mw_475 (lw_rm (Nat.le_of_ble_eq_true rfl) (Nat.le_of_ble_eq_true rfl))) (kPy_S hK hP hD hXS hXN hS) rfl rfl hl.1 rfl (lv_room (Nat.le_of_ble_eq_true rfl)) dL_law_214 (lw_cs (by omega) (by omega))) hP hD hS (fun r w H locs hw hP hD hS => ?_)
              obtain ⟨rfl, h⟩ := hw
              refine tp_i (y := (dueM kd g th n)) (dueM_a c_204 c_209) ?_
              refine lv_goto (tgt := 221) hx hb dL_law_217 (by decide) ?_
              exact CT221   _ h _ _ hP hD hS ls (lv_sub hl [0, 1, 2, 3, 4, 5, 6, 7, 8, 9, 10, 11, 12, 13] rfl)
        have CT177 : ∀  (hk45 : kd = 4 ∨ kd = 5), ∀ (w : tST), OKW n th mv g k w → ∀ (H : Heap) (locs : List Loc), va_P Γ.1 vwCl (LW Γ z w) H → va_D A (LW Γ z w) → va_S A st.heap H locs → ∀ (ls : Array Slot), lv_has ls 17 [(12, .int (bst (wnP g th) n)), (11, .int (nI (mv &&& 1))), (10, .int (nI mv)), (9, .int (nI (pc th))), (8, .int (nI n)), (7, .int (nI k)), (6, .int (nI kd)), (5, .int (nI zz)), (4, .int (nI y9)), (3, .int (nI i1)), (2, .int (nI 1)), (1, .ref (z.1 0)), (0, .ref zb)] → W p l ev room_1 st mi args below meth cd H locs (53 + 5 * i1) (33083 + 30 * i1) Q (F0 mi 177 ls []) := by
          intro hk45 w h H locs hP hD hS ls hl
          refine lv_aload_n hx hb dL_law_177 rfl (lv_at hl 11 rfl) ?_
          refine lv_iload hx hb dL_law_178 (lv_at hl 7 rfl) ?_
          refine lv_bipush (v := (nI 10)) hx hb dL_law_180 (by decide) ?_
          refine lv_irem hx hb dL_law_182 (nI_ne0 (by omega) (by omega)) ?_
          refine tp_i (y := (nI (zz % 10))) (pk_rem (by omega) (by omega) (by omega)) ?_
          refine lv_iload hx hb dL_law_183 (lv_at hl 7 rfl) ?_
          refine lv_bipush (v := (nI 16)) hx hb dL_law_185 (by decide) ?_
          refine lv_idiv hx hb dL_law_187 (nI_ne0 (by omega) (by omega)) ?_
          refine tp_i (y := (nI (zz / 16))) (pk_div (by omega) (by omega) (by omega)) ?_
          refine lv_bipush (v := (nI 10)) hx hb dL_law_188 (by decide) ?_
          refine lv_irem hx hb dL_law_190 (nI_ne0 (by omega) (by omega)) ?_
          refine tp_i (y := (nI ((zz / 16) % 10))) (pk_rem (by omega) (by omega) (by omega)) ?_
          rcases jn_cases (cjB g th n (zz % 10) (zz / 16 % 10)) n (zz % 10) (zz / 16 % 10) with ⟨hi9, hj9, hc9⟩ | ⟨hi9, hj9, hc9⟩ | ⟨hi9, hj9⟩ | hi9
          · skip
            refine wy_fin (vx_runSW (As := [.ref (z.1 0), .int (nI (zz % 10)), .int (nI ((zz / 16) % 10))]) (rest := []) ⟨hx, hb, hml, hown, hts⟩ (d_L_ifJoined_a l Γ z w h (zz % 10) (zz / 16 % 10) hi9 hj9 hc9) (kcwSW 3 hts kw_L_ifJoined mw_494 (lw_rm (Nat.le_of_ble_eq_true rfl) (Nat.le_of_ble_eq_true rfl))) (kPy_S hK hP hD hXS hXN hS) rfl rfl hl.1 rfl (lv_room (Nat.le_of_ble_eq_true rfl)) dL_law_191 (lw_cs (by omega) (by omega))) hP hD hS (fun r w H locs hw hP hD hS => ?_)
            obtain ⟨rfl, h⟩ := hw
            refine tp_i (y := (dueK kd zz g th n)) (dueK_a hk45 hi9 hj9 hc9) ?_
            refine lv_goto (tgt := 198) hx hb dL_law_194 (by decide) ?_
            refine W.widen (k := 53 + 5 * i1 + 1) (n := 33083 + 30 * i1 + 6) (by omega) (by omega) ?_
            exact CT198   _ h _ _ hP hD hS ls (lv_sub hl [0, 1, 2, 3, 4, 5, 6, 7, 8, 9, 10, 11, 12] rfl)
          · skip
            refine wy_fin (vx_runSW (As := [.ref (z.1 0), .int (nI (zz % 10)), .int (nI ((zz / 16) % 10))]) (rest := []) ⟨hx, hb, hml, hown, hts⟩ (d_L_ifJoined_n l Γ z w h (zz % 10) (zz / 16 % 10) hi9 hj9 hc9) (kcwSW 3 hts kw_L_ifJoined mw_494 (lw_rm (Nat.le_of_ble_eq_true rfl) (Nat.le_of_ble_eq_true rfl))) (kPy_S hK hP hD hXS hXN hS) rfl rfl hl.1 rfl (lv_room (Nat.le_of_ble_eq_true rfl)) dL_law_191 (lw_cs (by omega) (by omega))) hP hD hS (fun r w H locs hw hP hD hS => ?_)
            obtain ⟨rfl, h⟩ := hw
            refine tp_i (y := (dueK kd zz g th n)) (dueK_n hk45 hi9 hj9 hc9) ?_
            refine lv_goto (tgt := 198) hx hb dL_law_194 (by decide) ?_
            refine W.widen (k := 53 + 5 * i1 + 1) (n := 33083 + 30 * i1 + 6) (by omega) (by omega) ?_
            exact CT198   _ h _ _ hP hD hS ls (lv_sub hl [0, 1, 2, 3, 4, 5, 6, 7, 8, 9, 10, 11, 12] rfl)
          · skip
            refine wy_fin (vx_runSW (As := [.ref (z.1 0), .int (nI (zz % 10)), .int (nI ((zz / 16) % 10))]) (rest := []) ⟨hx, hb, hml, hown, hts⟩ (d_L_ifJoined_y l hls Γ z w h (zz % 10) (nI (zz / 16 % 10)) hi9 (isN_no hn0 hj9 (by omega))) (kcwSW 3 hts kw_L_ifJoined mw_494 (lw_rm (Nat.le_of_ble_eq_true rfl) (Nat.le_of_ble_eq_true rfl))) (kPy_S hK hP hD hXS hXN hS) rfl rfl hl.1 rfl (lv_room (Nat.le_of_ble_eq_true rfl)) dL_law_191 (lw_cs (by omega) (by omega))) hP hD hS (fun r w H locs hw hP hD hS => ?_)
            obtain ⟨rfl, e9⟩ := hw
            rw [← e9] at h
            refine tp_i (y := (dueK kd zz g th n)) (dueK_y hk45 hi9 hj9) ?_
            refine lv_goto (tgt := 198) hx hb dL_law_194 (by decide) ?_
            exact CT198   _ h _ _ hP hD hS ls (lv_sub hl [0, 1, 2, 3, 4, 5, 6, 7, 8, 9, 10, 11, 12] rfl)
          · skip
            refine wy_fin (vx_runSW (As := [.ref (z.1 0), .int (nI (zz % 10)), .int (nI ((zz / 16) % 10))]) (rest := []) ⟨hx, hb, hml, hown, hts⟩ (d_L_ifJoined_x l hls Γ z w h (nI (zz % 10)) (nI (zz / 16 % 10)) (isN_no hn0 hi9 (by omega))) (kcwSW 3 hts kw_L_ifJoined mw_494 (lw_rm (Nat.le_of_ble_eq_true rfl) (Nat.le_of_ble_eq_true rfl))) (kPy_S hK hP hD hXS hXN hS) rfl rfl hl.1 rfl (lv_room (Nat.le_of_ble_eq_true rfl)) dL_law_191 (lw_cs (by omega) (by omega))) hP hD hS (fun r w H locs hw hP hD hS => ?_)
            obtain ⟨rfl, e9⟩ := hw
            rw [← e9] at h
            refine tp_i (y := (dueK kd zz g th n)) (dueK_x hk45 hi9) ?_
            refine lv_goto (tgt := 198) hx hb dL_law_194 (by decide) ?_
            exact CT198   _ h _ _ hP hD hS ls (lv_sub hl [0, 1, 2, 3, 4, 5, 6, 7, 8, 9, 10, 11, 12] rfl)
        refine lv_iload hx hb dL_law_165 (lv_at hl 6 rfl) ?_
        refine lv_iconst (v := (nI 4)) hx hb dL_law_167 (by decide) ?_
        refine nb_icmp_eq (tgt := 177) hx hb (by omega) (by omega) dL_law_168 (by decide) (fun c_168 => ?_) (fun c_168 => ?_)
        · skip
          exact CT177  (by omega) _ h _ _ hP hD hS ls (lv_sub hl [0, 1, 2, 3, 4, 5, 6, 7, 8, 9, 10, 11, 12] rfl)
        · skip
          refine lv_iload hx hb dL_law_171 (lv_at hl 6 rfl) ?_
          refine lv_iconst (v := (nI 5)) hx hb dL_law_173 (by decide) ?_
          refine nb_icmp_ne (tgt := 197) hx hb (by omega) (by omega) dL_law_174 (by decide) (fun c_174 => ?_) (fun c_174 => ?_)
          · skip
            refine lv_iconst (v := (-1)) hx hb dL_law_197 (by decide) ?_
            refine tp_i (y := (dueK kd zz g th n)) (dueK_o (by omega)) ?_
            refine W.widen (k := 53 + 5 * i1 + 1) (n := 33083 + 30 * i1 + 6) (by omega) (by omega) ?_
            exact CT198   _ h _ _ hP hD hS ls (lv_sub hl [0, 1, 2, 3, 4, 5, 6, 7, 8, 9, 10, 11, 12] rfl)
          · skip
            exact CT177  (by omega) _ h _ _ hP hD hS ls (lv_sub hl [0, 1, 2, 3, 4, 5, 6, 7, 8, 9, 10, 11, 12] rfl)
  exact LP90 ((16 - 0) + 1) 0 0 0 0 (fun _ => 0) 0 (by first | omega | assumption) (Nat.lt_succ_self _) _ h _ _ hP hD hS ls (lv_cast (lv_sub hl [0, 1, 2, 3] rfl) (by rfl))
