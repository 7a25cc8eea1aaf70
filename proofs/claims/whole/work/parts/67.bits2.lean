set_option maxHeartbeats 8000000 in
set_option maxRecDepth 100000 in
theorem c_X6_bitsOfShare (l : Launch) (Γ : kG) (a0 : Nat) (b0 : Nat) (hb0 : b0 < 15) (hab : a0 ≤ b0) : WRl l yX6_bitsOfShare (wsq yX6_bitsOfShare cX6_bitsOfShare 7 (some .long)) (rmL 1) Γ [.double (shD a0 b0)] [] (fun u : Unit => []) (fun (r : Int64) (u : Unit) => r = ((shD a0 b0).toInt64)) := by
  refine wr_ofl (cc := cX6_bitsOfShare) (maxL := 7) (by decide +kernel) (Nat.le_of_ble_eq_true rfl) rfl ?_
  intro p ev R st mi args below meth cd Q A ls C0 hR hret hP hD hS hl
  obtain ⟨hx, hb, hr, hml, hown, hts, hlk, hK, hnm⟩ := C0
  have hown : st.vm.findClass RX6 = some mi.cls := hown
  have hfin := bs_fin b0 hb0 a0 hab
  refine lv_dload_n hx hb dX6_bitsOfShare_0 rfl (lv_at hl 0 rfl) ?_
  refine lv_dconst0 hx hb dX6_bitsOfShare_1 ?_
  refine lv_dcmp hx hb dX6_bitsOfShare_2 ?_
  refine lv_if_gt (tgt := 8) hx hb dX6_bitsOfShare_3 (by decide) (fun c_3 => ?_) (fun c_3 => ?_)
  · skip
    have hck : chkB (shD a0 b0) = true := by
      rcases hfin with q9 | q9
      · exact q9.2
      · exact absurd (by first | exact c_3 | exact Int32.not_le.mp c_3) q9.1
    obtain ⟨hk1, hk2, hk3, hk4, hk5⟩ := chk_get hck
    refine lv_dload_n hx hb dX6_bitsOfShare_8 rfl (lv_at hl 0 rfl) ?_
    refine lv_dstore_n (lv' := [(2, .double (shD a0 b0)), (0, .double (shD a0 b0))]) hx hb dX6_bitsOfShare_9 rfl hl (by decide) rfl (fun ls hl => ?_)
    refine lv_ldc2 (v := (1023)) hx hb hown (hts (.constantLong RX6 323 (1023)) (by decide +kernel)) dX6_bitsOfShare_10 ?_
    refine lv_lstore (lv' := [(4, .long (1023)), (2, .double (shD a0 b0)), (0, .double (shD a0 b0))]) hx hb dX6_bitsOfShare_13 hl (by decide) rfl (fun ls hl => ?_)
    refine lv_iconst (v := (nI 0)) hx hb dX6_bitsOfShare_15 (by decide) ?_
    refine lv_istore (lv' := [(6, .int (nI 0)), (4, .long (1023)), (2, .double (shD a0 b0)), (0, .double (shD a0 b0))]) hx hb dX6_bitsOfShare_16 hl (by decide) rfl (fun ls hl => ?_)
    have LP18 : ∀ (fu : Nat) (t1 : Nat) (ht1 : t1 ≤ stpN (shD a0 b0)), (5 - t1) < fu → ∀ (H : Heap) (locs : List Loc), va_P Γ.1 vwCl [] H → va_D A [] → va_S A st.heap H locs → ∀ (ls : Array Slot), lv_has ls 7 [(6, .int (nI t1)), (4, .long (lN (1023 - t1))), (2, .double (scN (shD a0 b0) t1)), (0, .double (shD a0 b0))] → W p l ev R st mi args below meth cd H locs 0 0 Q (F0 mi 18 ls []) := by
      intro fu
      induction fu with
      | zero => intro t1 ht1 hfu; exact absurd hfu (Nat.not_lt_zero _)
      | succ fu ih18 =>
        intro t1 ht1 hfu H locs hP hD hS ls hl
        refine lv_iload hx hb dX6_bitsOfShare_18 (lv_at hl 0 rfl) ?_
        refine lv_bipush (v := (nI 14)) hx hb dX6_bitsOfShare_20 (by decide) ?_
        refine nb_icmp_ge (tgt := 49) hx hb (by omega) (by omega) dX6_bitsOfShare_22 (by decide) (fun c_22 => by exfalso; omega) (fun c_22 => ?_)
        refine lv_dload_n hx hb dX6_bitsOfShare_25 rfl (lv_at hl 2 rfl) ?_
        refine lv_dconst1 hx hb dX6_bitsOfShare_26 ?_
        refine lv_dcmp hx hb dX6_bitsOfShare_27 ?_
        refine lv_if_ge (tgt := 49) hx hb dX6_bitsOfShare_28 (by decide) (fun c_28 => ?_) (fun c_28 => ?_)
        · skip
          have hst : t1 = stpN (shD a0 b0) := stp_at hk1 ht1 (by rw [lt1]; exact decide_eq_false (by first | exact Int32.not_lt.mpr c_28 | exact c_28))
          refine lv_lload hx hb dX6_bitsOfShare_49 (lv_at hl 1 rfl) ?_
          refine lv_bipush (v := (nI 52)) hx hb dX6_bitsOfShare_51 (by decide) ?_
          refine lv_lshl (v := (lN (1023 - t1) <<< ((nI 52).toInt64 &&& 63))) hx hb dX6_bitsOfShare_53 (rfl) ?_
          refine lv_dload_n hx hb dX6_bitsOfShare_54 rfl (lv_at hl 2 rfl) ?_
          refine lv_dconst1 hx hb dX6_bitsOfShare_55 ?_
          subst hst
          refine lv_dsub hx hb dX6_bitsOfShare_56 (nn_vf hk3) ?_
          refine lv_ldc2d (v := 4841369599423283200) hx hb hown (hts _ mw_368) dX6_bitsOfShare_57 ?_
          refine lv_dmul hx hb dX6_bitsOfShare_60 (nn_vf hk4) ?_
          refine lv_d2l hx hb dX6_bitsOfShare_61 ?_
          refine lv_lor hx hb dX6_bitsOfShare_62 ?_
          exact hret () hP hS (hk5) dX6_bitsOfShare_63
        · skip
          have hlt : lt1 (scN (shD a0 b0) t1) = true := by rw [lt1]; exact decide_eq_true (by first | exact c_28 | exact Int32.not_le.mp c_28)
          have ht2 : t1 + 1 ≤ stpN (shD a0 b0) := by
            rcases Nat.lt_or_ge t1 (stpN (shD a0 b0)) with q9 | q9
            · exact q9
            · have e9 : t1 = stpN (shD a0 b0) := by omega
              rw [e9, stp_end hk1] at hlt; cases hlt
          refine lv_dload_n hx hb dX6_bitsOfShare_31 rfl (lv_at hl 2 rfl) ?_
          refine lv_ldc2d (v := 4611686018427387904) hx hb hown (hts _ mw_367) dX6_bitsOfShare_32 ?_
          refine lv_dmul hx hb dX6_bitsOfShare_35 (nn_vf (hk2 (t1 + 1) ht2)) ?_
          refine tp_v (y := .double (scN (shD a0 b0) (t1 + 1))) (rfl) ?_
          refine lv_dstore_n (lv' := [(2, .double (scN (shD a0 b0) (t1 + 1))), (6, .int (nI t1)), (4, .long (lN (1023 - t1))), (0, .double (shD a0 b0))]) hx hb dX6_bitsOfShare_36 rfl hl (by decide) rfl (fun ls hl => ?_)
          refine lv_lload hx hb dX6_bitsOfShare_37 (lv_at hl 2 rfl) ?_
          refine lv_lconst (v := lN 1) hx hb dX6_bitsOfShare_39 rfl ?_
          refine lv_lsub hx hb dX6_bitsOfShare_40 ?_
          refine tp_l (y := (lN (1023 - (t1 + 1)))) (lN_sub (by omega)) ?_
          refine lv_lstore (lv' := [(4, .long (lN (1023 - (t1 + 1)))), (2, .double (scN (shD a0 b0) (t1 + 1))), (6, .int (nI t1)), (0, .double (shD a0 b0))]) hx hb dX6_bitsOfShare_41 hl (by decide) rfl (fun ls hl => ?_)
          refine lv_iinc (v := (nI (t1 + 1))) (lv' := [(6, .int (nI (t1 + 1))), (4, .long (lN (1023 - (t1 + 1)))), (2, .double (scN (shD a0 b0) (t1 + 1))), (0, .double (shD a0 b0))]) hx hb dX6_bitsOfShare_43 hl (k := 2) rfl (nI_1 _) (by decide) rfl (fun ls hl => ?_)
          refine lv_goto (tgt := 18) hx hb dX6_bitsOfShare_46 (by decide) ?_
          exact ih18 (t1 + 1) (ht2) (by omega) _ _ hP hD hS ls (lv_cast (lv_sub hl [0, 1, 2, 3] rfl) (by rfl))
    exact LP18 ((5 - 0) + 1) 0 (by first | omega | assumption) (Nat.lt_succ_self _) _ _ hP hD hS ls (lv_cast (lv_sub hl [0, 1, 2, 3] rfl) (by rfl))
  · skip
    have hzz : (shD a0 b0).toInt64 = 0 := by
      rcases hfin with q9 | q9
      · exact absurd q9.1 (by first | exact c_3 | exact Int32.not_lt.mpr c_3)
      · exact q9.2
    refine lv_lconst (v := 0) hx hb dX6_bitsOfShare_6 (by decide) ?_
    exact hret () hP hS (by rw [hzz]) dX6_bitsOfShare_7
