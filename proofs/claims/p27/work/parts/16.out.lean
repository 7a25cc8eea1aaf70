set_option maxHeartbeats 8000000 in
set_option maxRecDepth 100000 in
theorem c_X3_pack (l : Launch) (Γ : kG) (H0 : Heap) (v0 : Nat) (s0 : Nat) (l0 : Nat) (hv0 : v0 < 256) (hs0 : s0 < 256) (hl0 : l0 < 256) : RO l yX3_pack (wsq yX3_pack cX3_pack 3 (some .int)) (rmL 1) Γ H0 [.int (nI v0), .int (nI s0), .int (nI l0)] (nI (pk3 v0 s0 l0)) := by
  refine ro_ofi (cc := cX3_pack) (maxL := 3) (by decide +kernel) (Nat.le_of_ble_eq_true rfl) rfl ?_
  intro p ev R st mi args below meth cd Q ls C0 hR hret hh hS hl
  obtain ⟨hx, hb, hr, hml, hown, hts, hlk, hK, hnm⟩ := C0
  have hown : st.vm.findClass RX3 = some mi.cls := hown
  refine lv_iload_n hx hb dX3_pack_0 rfl (lv_at hl 0 rfl) ?_
  refine lv_iload_n hx hb dX3_pack_1 rfl (lv_at hl 1 rfl) ?_
  refine lv_bipush (v := (nI 8)) hx hb dX3_pack_2 (by decide) ?_
  refine lv_ishl hx hb dX3_pack_4 ?_
  refine tp_i (y := (nI (s0 * 2 ^ 8))) (ni_shl (by omega) (by omega)) ?_
  refine lv_ior hx hb dX3_pack_5 ?_
  refine tp_i (y := (nI (v0 ||| (s0 * 2 ^ 8)))) (ni_or _ _) ?_
  refine lv_iload_n hx hb dX3_pack_6 rfl (lv_at hl 2 rfl) ?_
  refine lv_bipush (v := (nI 16)) hx hb dX3_pack_7 (by decide) ?_
  refine lv_ishl hx hb dX3_pack_9 ?_
  refine tp_i (y := (nI (l0 * 2 ^ 16))) (ni_shl (by omega) (by omega)) ?_
  refine lv_ior hx hb dX3_pack_10 ?_
  refine tp_i (y := (nI ((v0 ||| (s0 * 2 ^ 8)) ||| (l0 * 2 ^ 16)))) (ni_or _ _) ?_
  exact hret hS (rfl) dX3_pack_11
set_option maxHeartbeats 8000000 in
set_option maxRecDepth 100000 in
theorem c_X3_factsOfTree (l : Launch) (Γ : kG) (n9 : Nat) (oa : Nat) (oz : Nat) (oe : Nat) (oq : Nat) (g : Nat → Nat) (ff : Nat → Nat) (S0 : Nat) (d0 : Nat) (hg : ∀ i, i < 14 → g i < 16384) (hS0 : S0 < 16384) (h0 : S0 ≠ 0) (hpn : pc S0 ≤ n9 + 1) (hpd : pc S0 + d0 ≤ 14) (hok : okF g ff) (IH : ∀ (ff : Nat → Nat) (S0 : Nat) (d0 : Nat), okF g ff → S0 < 16384 → pc S0 ≤ n9 → pc S0 + d0 ≤ 14 → WRi l yX3_factsOf (wsq yX3_factsOf cX3_factsOf 5 (some .int)) (rmL (2 * n9 + 6)) Γ [.ref oa, .int (nI S0), .int (nI d0)] [(oa, .inr (3, [.ref oz, .ref oq])), (oz, .inr (1, [.ref oe])), (oe, .inl (Γ.2 0, 14, .inl (aN g))), (oq, .inl (Γ.2 0, 16384, .inl (aN ff)))] (fun u : (Nat → Nat) × Nat => [(oa, .inr (3, [.ref oz, .ref oq])), (oz, .inr (1, [.ref oe])), (oe, .inl (Γ.2 0, 14, .inl (aN g))), (oq, .inl (Γ.2 0, 16384, .inl (aN u.1)))]) (fun (r : Int32) (u : (Nat → Nat) × Nat) => r = (nI u.2) ∧ okF g u.1 ∧ gotF g S0 u.2)) : WRi l yX3_factsOfTree (wsq yX3_factsOfTree cX3_factsOfTree 8 (some .int)) (rmL (2 * n9 + 7)) Γ [.ref oa, .int (nI S0), .int (nI d0)] [(oa, .inr (3, [.ref oz, .ref oq])), (oz, .inr (1, [.ref oe])), (oe, .inl (Γ.2 0, 14, .inl (aN g))), (oq, .inl (Γ.2 0, 16384, .inl (aN ff)))] (fun u : (Nat → Nat) => [(oa, .inr (3, [.ref oz, .ref oq])), (oz, .inr (1, [.ref oe])), (oe, .inl (Γ.2 0, 14, .inl (aN g))), (oq, .inl (Γ.2 0, 16384, .inl (aN u)))]) (fun (r : Int32) (u : (Nat → Nat)) => r = (nI (pkS g S0)) ∧ okF g u) := by
  refine wr_ofi (cc := cX3_factsOfTree) (maxL := 8) (by decide +kernel) (Nat.le_of_ble_eq_true rfl) rfl ?_
  intro p ev R st mi args below meth cd Q A ls C0 hR hret hP hD hS hl
  obtain ⟨hx, hb, hr, hml, hown, hts, hlk, hK, hnm⟩ := C0
  have hown : st.vm.findClass RX3 = some mi.cls := hown
  refine lv_iconst (v := (nI 0)) hx hb dX3_factsOfTree_0 (by decide) ?_
  refine lv_istore_n (lv' := [(3, .int (nI 0)), (0, .ref oa), (1, .int (nI S0)), (2, .int (nI d0))]) hx hb dX3_factsOfTree_1 rfl hl (by decide) rfl (fun ls hl => ?_)
  refine lv_bipush (v := (nI 14)) hx hb dX3_factsOfTree_2 (by decide) ?_
  refine lv_istore (lv' := [(4, .int (nI 14)), (3, .int (nI 0)), (0, .ref oa), (1, .int (nI S0)), (2, .int (nI d0))]) hx hb dX3_factsOfTree_4 hl (by decide) rfl (fun ls hl => ?_)
  refine lv_iconst (v := (nI 0)) hx hb dX3_factsOfTree_6 (by decide) ?_
  refine lv_istore (lv' := [(5, .int (nI 0)), (4, .int (nI 14)), (3, .int (nI 0)), (0, .ref oa), (1, .int (nI S0)), (2, .int (nI d0))]) hx hb dX3_factsOfTree_7 hl (by decide) rfl (fun ls hl => ?_)
  refine lv_iconst (v := (nI 0)) hx hb dX3_factsOfTree_9 (by decide) ?_
  refine lv_istore (lv' := [(6, .int (nI 0)), (5, .int (nI 0)), (4, .int (nI 14)), (3, .int (nI 0)), (0, .ref oa), (1, .int (nI S0)), (2, .int (nI d0))]) hx hb dX3_factsOfTree_10 hl (by decide) rfl (fun ls hl => ?_)
  have LP12 : ∀ (fu : Nat) (k0 : Nat) (f8 : Nat → Nat) (hk0 : k0 ≤ 14) (hok8 : okF g f8), (14 - k0) < fu → ∀ (H : Heap) (locs : List Loc), va_P Γ.1 vwCl [(oa, .inr (3, [.ref oz, .ref oq])), (oz, .inr (1, [.ref oe])), (oe, .inl (Γ.2 0, 14, .inl (aN g))), (oq, .inl (Γ.2 0, 16384, .inl (aN f8)))] H → va_D A [(oa, .inr (3, [.ref oz, .ref oq])), (oz, .inr (1, [.ref oe])), (oe, .inl (Γ.2 0, 14, .inl (aN g))), (oq, .inl (Γ.2 0, 16384, .inl (aN f8)))] → va_S A st.heap H locs → ∀ (ls : Array Slot), lv_has ls 8 [(6, .int (nI k0)), (5, .int (nI (lonF g (T g) S0 k0))), (4, .int (nI (min 14 (shoF g (T g) S0 k0)))), (3, .int (nI (seenF g (T g) S0 k0))), (0, .ref oa), (1, .int (nI S0)), (2, .int (nI d0))] → W p l ev R st mi args below meth cd H locs 0 0 Q (F0 mi 12 ls []) := by
    intro fu
    induction fu with
    | zero => intro k0 f8 hk0 hok8 hfu; exact absurd hfu (Nat.not_lt_zero _)
    | succ fu ih12 =>
      intro k0 f8 hk0 hok8 hfu H locs hP hD hS ls hl
      refine lv_iload hx hb dX3_factsOfTree_12 (lv_at hl 0 rfl) ?_
      refine lv_bipush (v := (nI 14)) hx hb dX3_factsOfTree_14 (by decide) ?_
      refine nb_icmp_ge (tgt := 99) hx hb (by first | omega | assumption) (by first | omega | assumption) dX3_factsOfTree_16 (by decide) (fun c_16 => ?_) (fun c_16 => ?_)
      · skip
        obtain rfl : k0 = 14 := by omega
        refine lv_iload_n hx hb dX3_factsOfTree_99 rfl (lv_at hl 3 rfl) ?_
        refine lv_iconst (v := (-1)) hx hb dX3_factsOfTree_100 (by decide) ?_
        refine lv_ixor hx hb dX3_factsOfTree_101 ?_
        refine ro_fin (va_runS (As := [.int (nI (seenF g (T g) S0 14) ^^^ (-1))]) (rest := []) ⟨hx, hb, hml, hown, hts⟩ (c_J6_numberOfTrailingZeros_0f7a4 l Γ _ (nI (seenF g (T g) S0 14) ^^^ (-1)) (mex (seenF g (T g) S0 14)) ((ntz_mex (seen_lt 14)).1) ((ntz_mex (seen_lt 14)).2)) (kcwS 1 hts kv_J6_numberOfTrailingZeros_0f7a4 mw_136 (rm_le hR (Nat.le_of_ble_eq_true rfl) (Nat.le_of_ble_eq_true rfl))) (kPc_S hK) rfl rfl hl.1 rfl (lv_room (Nat.le_of_ble_eq_true rfl)) dX3_factsOfTree_102 ⟨Nat.zero_le _, Nat.zero_le _⟩) hS (fun locs hS => ?_)
        refine lv_iload hx hb dX3_factsOfTree_105 (lv_at hl 2 rfl) ?_
        refine lv_iconst (v := (nI 1)) hx hb dX3_factsOfTree_107 (by decide) ?_
        refine lv_iadd hx hb dX3_factsOfTree_108 ?_
        refine tp_i (y := (nI ((min 14 (shoF g (T g) S0 14)) + 1))) (nI_add _ _) ?_
        refine lv_iload hx hb dX3_factsOfTree_109 (lv_at hl 1 rfl) ?_
        refine lv_iconst (v := (nI 1)) hx hb dX3_factsOfTree_111 (by decide) ?_
        refine lv_iadd hx hb dX3_factsOfTree_112 ?_
        refine tp_i (y := (nI ((lonF g (T g) S0 14) + 1))) (nI_add _ _) ?_
        have hl9 := lonF_16 g (T g) S0 14
        have hm9 := (ntz_mex (seen_lt (g := g) (t := T g) (S := S0) 14)).1
        refine ro_fin (va_runS (As := [.int (nI (mex (seenF g (T g) S0 14))), .int (nI ((min 14 (shoF g (T g) S0 14)) + 1)), .int (nI ((lonF g (T g) S0 14) + 1))]) (rest := []) ⟨hx, hb, hml, hown, hts⟩ (c_X3_pack l Γ _ (mex (seenF g (T g) S0 14)) ((min 14 (shoF g (T g) S0 14)) + 1) ((lonF g (T g) S0 14) + 1) (by omega) (by omega) (by omega)) (kcwS 3 hts kv_X3_pack mw_148 (rm_le hR (Nat.le_of_ble_eq_true rfl) (Nat.le_of_ble_eq_true rfl))) (kPc_S hK) rfl rfl hl.1 rfl (lv_room (Nat.le_of_ble_eq_true rfl)) dX3_factsOfTree_113 ⟨Nat.zero_le _, Nat.zero_le _⟩) hS (fun locs hS => ?_)
        refine tp_i (y := (nI (pkS g S0))) (by rw [tree_pk hS0 h0]) ?_
        exact hret f8 hP hS (⟨rfl, hok8⟩) dX3_factsOfTree_116
      · skip
        refine lv_iload_n hx hb dX3_factsOfTree_19 rfl (lv_at hl 5 rfl) ?_
        refine lv_iload hx hb dX3_factsOfTree_20 (lv_at hl 0 rfl) ?_
        refine ro_fin (va_runSN (As := [.int (nI S0), .int (nI k0)]) (rest := []) ⟨hx, hb, hml, hown, hts⟩ (c_X6_has l Γ _ S0 k0 (by first | omega | assumption) (by first | omega | assumption)) (kcwSN 2 hts kv_X6_has (hK.nw _ (nwL_at 63 rfl)) (rm_le hR (Nat.le_of_ble_eq_true rfl) (Nat.le_of_ble_eq_true rfl))) (kPc_S hK) rfl rfl hl.1 rfl (lv_room (Nat.le_of_ble_eq_true rfl)) dX3_factsOfTree_22 ⟨Nat.zero_le _, Nat.zero_le _⟩) hS (fun locs hS => ?_)
        refine nb_ifb_eq (tgt := 93) hx hb dX3_factsOfTree_25 (by decide) (fun c_25 => ?_) (fun c_25 => ?_)
        · skip
          have hl : lv_has ls 8 [(6, .int (nI k0)), (5, .int (nI (lonF g (T g) S0 (k0 + 1)))), (4, .int (nI (min 14 (shoF g (T g) S0 (k0 + 1))))), (3, .int (nI (seenF g (T g) S0 (k0 + 1)))), (0, .ref oa), (1, .int (nI S0)), (2, .int (nI d0))] := lv_cast hl (by simp only [seenF, shoF, lonF, c_25, Bool.false_eq_true, if_false])
          refine lv_iinc (v := (nI (k0 + 1))) (lv' := [(6, .int (nI (k0 + 1))), (5, .int (nI (lonF g (T g) S0 (k0 + 1)))), (4, .int (nI (min 14 (shoF g (T g) S0 (k0 + 1))))), (3, .int (nI (seenF g (T g) S0 (k0 + 1)))), (0, .ref oa), (1, .int (nI S0)), (2, .int (nI d0))]) hx hb dX3_factsOfTree_93 hl (k := 0) rfl (nI_1 _) (by decide) rfl (fun ls hl => ?_)
          refine lv_goto (tgt := 12) hx hb dX3_factsOfTree_96 (by decide) ?_
          exact ih12 (k0 + 1) f8 (by first | omega | assumption) (hok8) (by omega) _ _ hP hD hS ls (lv_sub hl [0, 1, 2, 3, 4, 5, 6] rfl)
        · skip
          have hp9 := lft_pc (g := g) hS0 c_25
          refine lv_aload_n hx hb dX3_factsOfTree_28 rfl (lv_at hl 4 rfl) ?_
          refine lv_iload_n hx hb dX3_factsOfTree_29 rfl (lv_at hl 5 rfl) ?_
          refine lv_aload_n hx hb dX3_factsOfTree_30 rfl (lv_at hl 4 rfl) ?_
          refine va_get (D := Γ.1) (ci := 3) (v := .ref oz) (C := RX3) (T := TX3) (N := 2) hx hb hts hinX3 hown hK.1 hP 0 rfl rfl 0 (by decide) (hts _ mw_128) (fun _ h9 => h9) rfl dX3_factsOfTree_31 ?_
          refine lv_iload hx hb dX3_factsOfTree_34 (lv_at hl 0 rfl) ?_
          refine ro_fin (va_runVN (As := [.int (nI k0)]) (rest := [.int (nI S0), .ref oa]) ⟨hx, hb, hml, hown, hts⟩ (c_X1_takenWith l Γ _ oz oe g k0 (hP.sub (ws' := [(oz, .inr (1, [.ref oe])), (oe, .inl (Γ.2 0, 14, .inl (aN g)))]) [1, 2] rfl) (by first | omega | assumption)) (kcwVN 1 hts kv_X1_takenWith (hK.nw _ (nwL_at 64 rfl)) (rm_le hR (Nat.le_of_ble_eq_true rfl) (Nat.le_of_ble_eq_true rfl))) (kPc_V hK (va_recv hK.1 hP (ci := 1) (q0 := 1) rfl rfl)) rfl rfl hl.1 rfl (lv_room (Nat.le_of_ble_eq_true rfl)) dX3_factsOfTree_36 ⟨Nat.zero_le _, Nat.zero_le _⟩) hS (fun locs hS => ?_)
          refine lv_iconst (v := (-1)) hx hb dX3_factsOfTree_39 (by decide) ?_
          refine lv_ixor hx hb dX3_factsOfTree_40 ?_
          refine lv_iand hx hb dX3_factsOfTree_41 ?_
          refine tp_i (y := (nI (sd S0 (g k0 ||| 2 ^ k0)))) (ni_sd _ _) ?_
          refine tp_i (y := (nI (lft g S0 k0))) (by rw [lft, Nat.or_comm]) ?_
          refine lv_iload_n hx hb dX3_factsOfTree_42 rfl (lv_at hl 6 rfl) ?_
          refine lv_iconst (v := (nI 1)) hx hb dX3_factsOfTree_43 (by decide) ?_
          refine lv_iadd hx hb dX3_factsOfTree_44 ?_
          refine tp_i (y := (nI (d0 + 1))) (nI_add _ _) ?_
          refine wr_fini (va_runV (As := [.int (nI (lft g S0 k0)), .int (nI (d0 + 1))]) (rest := []) ⟨hx, hb, hml, hown, hts⟩ (IH f8 (lft g S0 k0) (d0 + 1) (hok8) (lft_lt _ hS0) (by omega) (by omega)) (kcwV 2 hts kv_X3_factsOf mw_145 (rm_le hR (by omega) (Nat.le_of_ble_eq_true rfl))) (kPw_V hK (va_recv hK.1 hP (ci := 3) (q0 := 0) rfl rfl) (hP.sub (ws' := [(oa, .inr (3, [.ref oz, .ref oq])), (oz, .inr (1, [.ref oe])), (oe, .inl (Γ.2 0, 14, .inl (aN g))), (oq, .inl (Γ.2 0, 16384, .inl (aN f8)))]) [0, 1, 2, 3] rfl) (hD.sub (ws' := [(oa, .inr (3, [.ref oz, .ref oq])), (oz, .inr (1, [.ref oe])), (oe, .inl (Γ.2 0, 14, .inl (aN g))), (oq, .inl (Γ.2 0, 16384, .inl (aN f8)))]) [0, 1, 2, 3] (by decide) rfl)) rfl rfl hl.1 rfl (lv_room (Nat.le_of_ble_eq_true rfl)) dX3_factsOfTree_45 ⟨Nat.zero_le _, Nat.zero_le _⟩) hP hD hS [0, 1, 2, 3] rfl (fun _ => rfl) (fun r u H locs hw hP hD hS => ?_)
          obtain ⟨f7, x7⟩ := u
          obtain ⟨rfl, hk7, hx7⟩ := hw
          have hP : va_P Γ.1 vwCl [(oa, .inr (3, [.ref oz, .ref oq])), (oz, .inr (1, [.ref oe])), (oe, .inl (Γ.2 0, 14, .inl (aN g))), (oq, .inl (Γ.2 0, 16384, .inl (aN f7)))] H := hP
          have hD : va_D A [(oa, .inr (3, [.ref oz, .ref oq])), (oz, .inr (1, [.ref oe])), (oe, .inl (Γ.2 0, 14, .inl (aN g))), (oq, .inl (Γ.2 0, 16384, .inl (aN f7)))] := hD
          refine lv_istore (lv' := [(7, .int (nI x7)), (6, .int (nI k0)), (5, .int (nI (lonF g (T g) S0 k0))), (4, .int (nI (min 14 (shoF g (T g) S0 k0)))), (3, .int (nI (seenF g (T g) S0 k0))), (0, .ref oa), (1, .int (nI S0)), (2, .int (nI d0))]) hx hb dX3_factsOfTree_48 hl (by decide) rfl (fun ls hl => ?_)
          refine lv_iload_n hx hb dX3_factsOfTree_50 rfl (lv_at hl 4 rfl) ?_
          refine lv_iconst (v := (nI 1)) hx hb dX3_factsOfTree_51 (by decide) ?_
          refine lv_iload hx hb dX3_factsOfTree_52 (lv_at hl 0 rfl) ?_
          refine lv_sipush (v := (nI 255)) hx hb dX3_factsOfTree_54 (by decide) ?_
          refine lv_iand hx hb dX3_factsOfTree_57 ?_
          refine tp_i (y := (nI (x7 &&& 255))) (ni_and _ _) ?_
          refine tp_i (y := (nI (V g (lft g S0 k0)))) (by rw [hx7.2.1]) ?_
          refine lv_ishl hx hb dX3_factsOfTree_58 ?_
          refine tp_i (y := (nI (2 ^ (V g (lft g S0 k0))))) (ni_shl1 (Nat.lt_trans (V_16 g _) (by decide))) ?_
          refine lv_ior hx hb dX3_factsOfTree_59 ?_
          refine tp_i (y := (nI ((seenF g (T g) S0 k0) ||| (2 ^ (V g (lft g S0 k0)))))) (ni_or _ _) ?_
          refine tp_i (y := (nI (seenF g (T g) S0 (k0 + 1)))) (by rw [sn_s c_25]) ?_
          refine lv_istore_n (lv' := [(3, .int (nI (seenF g (T g) S0 (k0 + 1)))), (7, .int (nI x7)), (6, .int (nI k0)), (5, .int (nI (lonF g (T g) S0 k0))), (4, .int (nI (min 14 (shoF g (T g) S0 k0)))), (0, .ref oa), (1, .int (nI S0)), (2, .int (nI d0))]) hx hb dX3_factsOfTree_60 rfl hl (by decide) rfl (fun ls hl => ?_)
          refine lv_iload hx hb dX3_factsOfTree_61 (lv_at hl 4 rfl) ?_
          refine lv_iload hx hb dX3_factsOfTree_63 (lv_at hl 1 rfl) ?_
          refine lv_bipush (v := (nI 8)) hx hb dX3_factsOfTree_65 (by decide) ?_
          refine lv_ishr hx hb dX3_factsOfTree_67 ?_
          refine tp_i (y := (nI (x7 >>> 8))) (ni_shr (by omega) (Nat.lt_trans hx7.1 (by decide))) ?_
          refine lv_sipush (v := (nI 255)) hx hb dX3_factsOfTree_68 (by decide) ?_
          refine lv_iand hx hb dX3_factsOfTree_71 ?_
          refine tp_i (y := (nI ((x7 >>> 8) &&& 255))) (ni_and _ _) ?_
          refine tp_i (y := (nI (Sh g (lft g S0 k0)))) (by rw [hx7.2.2.1]) ?_
          refine va_mmin hx hb (hml.trans hl.1.symm) hown (hts _ mw_151) (hts _ mw_152) (hts _ mw_104) (hts _ mw_153) (by subst hR; exact Nat.le_of_ble_eq_true rfl) (by subst hR; exact Nat.le_of_ble_eq_true rfl) (Nat.zero_le _) (Nat.zero_le _) dX3_factsOfTree_72 ?_
          refine tp_i (y := (nI (min (min 14 (shoF g (T g) S0 k0)) (Sh g (lft g S0 k0))))) (nmin (by omega) (Nat.lt_trans (Sh_16 g _) (by decide))) ?_
          refine tp_i (y := (nI (min 14 (shoF g (T g) S0 (k0 + 1))))) (by rw [mn_s c_25]) ?_
          refine lv_istore (lv' := [(4, .int (nI (min 14 (shoF g (T g) S0 (k0 + 1))))), (3, .int (nI (seenF g (T g) S0 (k0 + 1)))), (7, .int (nI x7)), (6, .int (nI k0)), (5, .int (nI (lonF g (T g) S0 k0))), (0, .ref oa), (1, .int (nI S0)), (2, .int (nI d0))]) hx hb dX3_factsOfTree_75 hl (by decide) rfl (fun ls hl => ?_)
          refine lv_iload hx hb dX3_factsOfTree_77 (lv_at hl 4 rfl) ?_
          refine lv_iload hx hb dX3_factsOfTree_79 (lv_at hl 2 rfl) ?_
          refine lv_bipush (v := (nI 16)) hx hb dX3_factsOfTree_81 (by decide) ?_
          refine lv_ishr hx hb dX3_factsOfTree_83 ?_
          refine tp_i (y := (nI (x7 >>> 16))) (ni_shr (by omega) (Nat.lt_trans hx7.1 (by decide))) ?_
          refine lv_sipush (v := (nI 255)) hx hb dX3_factsOfTree_84 (by decide) ?_
          refine lv_iand hx hb dX3_factsOfTree_87 ?_
          refine tp_i (y := (nI ((x7 >>> 16) &&& 255))) (ni_and _ _) ?_
          refine tp_i (y := (nI (Lo g (lft g S0 k0)))) (by rw [hx7.2.2.2]) ?_
          refine va_mmax hx hb (hml.trans hl.1.symm) hown (hts _ mw_154) (hts _ mw_103) (hts _ mw_104) (hts _ mw_105) (by subst hR; exact Nat.le_of_ble_eq_true rfl) (by subst hR; exact Nat.le_of_ble_eq_true rfl) (Nat.zero_le _) (Nat.zero_le _) dX3_factsOfTree_88 ?_
          refine tp_i (y := (nI (max (lonF g (T g) S0 k0) (Lo g (lft g S0 k0))))) (nmax (Nat.lt_of_le_of_lt (lonF_16 g (T g) S0 k0) (by decide)) (Nat.lt_trans (Lo_16 g _) (by decide))) ?_
          refine tp_i (y := (nI (lonF g (T g) S0 (k0 + 1)))) (by rw [mx_s c_25]) ?_
          refine lv_istore (lv' := [(5, .int (nI (lonF g (T g) S0 (k0 + 1)))), (4, .int (nI (min 14 (shoF g (T g) S0 (k0 + 1))))), (3, .int (nI (seenF g (T g) S0 (k0 + 1)))), (7, .int (nI x7)), (6, .int (nI k0)), (0, .ref oa), (1, .int (nI S0)), (2, .int (nI d0))]) hx hb dX3_factsOfTree_91 hl (by decide) rfl (fun ls hl => ?_)
          refine lv_iinc (v := (nI (k0 + 1))) (lv' := [(6, .int (nI (k0 + 1))), (5, .int (nI (lonF g (T g) S0 (k0 + 1)))), (4, .int (nI (min 14 (shoF g (T g) S0 (k0 + 1))))), (3, .int (nI (seenF g (T g) S0 (k0 + 1)))), (7, .int (nI x7)), (0, .ref oa), (1, .int (nI S0)), (2, .int (nI d0))]) hx hb dX3_factsOfTree_93 hl (k := 4) rfl (nI_1 _) (by decide) rfl (fun ls hl => ?_)
          refine lv_goto (tgt := 12) hx hb dX3_factsOfTree_96 (by decide) ?_
          exact ih12 (k0 + 1) f7 (by first | omega | assumption) (hk7) (by omega) _ _ hP hD hS ls (lv_sub hl [0, 1, 2, 3, 5, 6, 7] rfl)
  exact LP12 ((14 - 0) + 1) 0 ff (by first | omega | assumption) (hok) (Nat.lt_succ_self _) _ _ hP hD hS ls (lv_cast (lv_sub hl [0, 1, 2, 3, 4, 5, 6] rfl) (by first | rfl | simp [seenF, shoF, lonF]))
set_option maxHeartbeats 8000000 in
set_option maxRecDepth 100000 in
theorem c_X3_factsOfParts (l : Launch) (Γ : kG) (n9 : Nat) (oa : Nat) (oz : Nat) (oe : Nat) (oq : Nat) (g : Nat → Nat) (ff : Nat → Nat) (A0 : Nat) (B0 : Nat) (d0 : Nat) (hA0 : A0 < 16384) (hB0 : B0 < 16384) (hap : apart g A0 B0) (hpA : pc A0 ≤ n9) (hpB : pc B0 ≤ n9) (hdA : pc A0 + (d0 + 1) ≤ 14) (hdB : pc B0 + (d0 + 1) ≤ 14) (hok : okF g ff) (IH : ∀ (ff : Nat → Nat) (S0 : Nat) (d0 : Nat), okF g ff → S0 < 16384 → pc S0 ≤ n9 → pc S0 + d0 ≤ 14 → WRi l yX3_factsOf (wsq yX3_factsOf cX3_factsOf 5 (some .int)) (rmL (2 * n9 + 6)) Γ [.ref oa, .int (nI S0), .int (nI d0)] [(oa, .inr (3, [.ref oz, .ref oq])), (oz, .inr (1, [.ref oe])), (oe, .inl (Γ.2 0, 14, .inl (aN g))), (oq, .inl (Γ.2 0, 16384, .inl (aN ff)))] (fun u : (Nat → Nat) × Nat => [(oa, .inr (3, [.ref oz, .ref oq])), (oz, .inr (1, [.ref oe])), (oe, .inl (Γ.2 0, 14, .inl (aN g))), (oq, .inl (Γ.2 0, 16384, .inl (aN u.1)))]) (fun (r : Int32) (u : (Nat → Nat) × Nat) => r = (nI u.2) ∧ okF g u.1 ∧ gotF g S0 u.2)) : WRi l yX3_factsOfParts (wsq yX3_factsOfParts cX3_factsOfParts 6 (some .int)) (rmL (2 * n9 + 7)) Γ [.ref oa, .int (nI A0), .int (nI B0), .int (nI d0)] [(oa, .inr (3, [.ref oz, .ref oq])), (oz, .inr (1, [.ref oe])), (oe, .inl (Γ.2 0, 14, .inl (aN g))), (oq, .inl (Γ.2 0, 16384, .inl (aN ff)))] (fun u : (Nat → Nat) => [(oa, .inr (3, [.ref oz, .ref oq])), (oz, .inr (1, [.ref oe])), (oe, .inl (Γ.2 0, 14, .inl (aN g))), (oq, .inl (Γ.2 0, 16384, .inl (aN u)))]) (fun (r : Int32) (u : (Nat → Nat)) => r = (nI (pkS g (A0 ||| B0))) ∧ okF g u) := by
  refine wr_ofi (cc := cX3_factsOfParts) (maxL := 6) (by decide +kernel) (Nat.le_of_ble_eq_true rfl) rfl ?_
  intro p ev R st mi args below meth cd Q A ls C0 hR hret hP hD hS hl
  obtain ⟨hx, hb, hr, hml, hown, hts, hlk, hK, hnm⟩ := C0
  have hown : st.vm.findClass RX3 = some mi.cls := hown
  refine lv_aload_n hx hb dX3_factsOfParts_0 rfl (lv_at hl 0 rfl) ?_
  refine lv_iload_n hx hb dX3_factsOfParts_1 rfl (lv_at hl 1 rfl) ?_
  refine lv_iload_n hx hb dX3_factsOfParts_2 rfl (lv_at hl 3 rfl) ?_
  refine lv_iconst (v := (nI 1)) hx hb dX3_factsOfParts_3 (by decide) ?_
  refine lv_iadd hx hb dX3_factsOfParts_4 ?_
  refine tp_i (y := (nI (d0 + 1))) (nI_add _ _) ?_
  refine wr_fini (va_runV (As := [.int (nI A0), .int (nI (d0 + 1))]) (rest := []) ⟨hx, hb, hml, hown, hts⟩ (IH ff A0 (d0 + 1) (hok) (hA0) (hpA) (hdA)) (kcwV 2 hts kv_X3_factsOf mw_145 (rm_le hR (by omega) (Nat.le_of_ble_eq_true rfl))) (kPw_V hK (va_recv hK.1 hP (ci := 3) (q0 := 0) rfl rfl) (hP.sub (ws' := [(oa, .inr (3, [.ref oz, .ref oq])), (oz, .inr (1, [.ref oe])), (oe, .inl (Γ.2 0, 14, .inl (aN g))), (oq, .inl (Γ.2 0, 16384, .inl (aN ff)))]) [0, 1, 2, 3] rfl) (hD.sub (ws' := [(oa, .inr (3, [.ref oz, .ref oq])), (oz, .inr (1, [.ref oe])), (oe, .inl (Γ.2 0, 14, .inl (aN g))), (oq, .inl (Γ.2 0, 16384, .inl (aN ff)))]) [0, 1, 2, 3] (by decide) rfl)) rfl rfl hl.1 rfl (lv_room (Nat.le_of_ble_eq_true rfl)) dX3_factsOfParts_5 ⟨Nat.zero_le _, Nat.zero_le _⟩) hP hD hS [0, 1, 2, 3] rfl (fun _ => rfl) (fun r u H locs hw hP hD hS => ?_)
  obtain ⟨f7, x7⟩ := u
  obtain ⟨rfl, hk7, hx7⟩ := hw
  have hP : va_P Γ.1 vwCl [(oa, .inr (3, [.ref oz, .ref oq])), (oz, .inr (1, [.ref oe])), (oe, .inl (Γ.2 0, 14, .inl (aN g))), (oq, .inl (Γ.2 0, 16384, .inl (aN f7)))] H := hP
  have hD : va_D A [(oa, .inr (3, [.ref oz, .ref oq])), (oz, .inr (1, [.ref oe])), (oe, .inl (Γ.2 0, 14, .inl (aN g))), (oq, .inl (Γ.2 0, 16384, .inl (aN f7)))] := hD
  refine lv_istore (lv' := [(4, .int (nI x7)), (0, .ref oa), (1, .int (nI A0)), (2, .int (nI B0)), (3, .int (nI d0))]) hx hb dX3_factsOfParts_8 hl (by decide) rfl (fun ls hl => ?_)
  refine lv_aload_n hx hb dX3_factsOfParts_10 rfl (lv_at hl 1 rfl) ?_
  refine lv_iload_n hx hb dX3_factsOfParts_11 rfl (lv_at hl 3 rfl) ?_
  refine lv_iload_n hx hb dX3_factsOfParts_12 rfl (lv_at hl 4 rfl) ?_
  refine lv_iconst (v := (nI 1)) hx hb dX3_factsOfParts_13 (by decide) ?_
  refine lv_iadd hx hb dX3_factsOfParts_14 ?_
  refine tp_i (y := (nI (d0 + 1))) (nI_add _ _) ?_
  refine wr_fini (va_runV (As := [.int (nI B0), .int (nI (d0 + 1))]) (rest := []) ⟨hx, hb, hml, hown, hts⟩ (IH f7 B0 (d0 + 1) (hk7) (hB0) (hpB) (hdB)) (kcwV 2 hts kv_X3_factsOf mw_145 (rm_le hR (by omega) (Nat.le_of_ble_eq_true rfl))) (kPw_V hK (va_recv hK.1 hP (ci := 3) (q0 := 0) rfl rfl) (hP.sub (ws' := [(oa, .inr (3, [.ref oz, .ref oq])), (oz, .inr (1, [.ref oe])), (oe, .inl (Γ.2 0, 14, .inl (aN g))), (oq, .inl (Γ.2 0, 16384, .inl (aN f7)))]) [0, 1, 2, 3] rfl) (hD.sub (ws' := [(oa, .inr (3, [.ref oz, .ref oq])), (oz, .inr (1, [.ref oe])), (oe, .inl (Γ.2 0, 14, .inl (aN g))), (oq, .inl (Γ.2 0, 16384, .inl (aN f7)))]) [0, 1, 2, 3] (by decide) rfl)) rfl rfl hl.1 rfl (lv_room (Nat.le_of_ble_eq_true rfl)) dX3_factsOfParts_15 ⟨Nat.zero_le _, Nat.zero_le _⟩) hP hD hS [0, 1, 2, 3] rfl (fun _ => rfl) (fun r u H locs hw hP hD hS => ?_)
  obtain ⟨f6, x6⟩ := u
  obtain ⟨rfl, hk6, hx6⟩ := hw
  have hP : va_P Γ.1 vwCl [(oa, .inr (3, [.ref oz, .ref oq])), (oz, .inr (1, [.ref oe])), (oe, .inl (Γ.2 0, 14, .inl (aN g))), (oq, .inl (Γ.2 0, 16384, .inl (aN f6)))] H := hP
  have hD : va_D A [(oa, .inr (3, [.ref oz, .ref oq])), (oz, .inr (1, [.ref oe])), (oe, .inl (Γ.2 0, 14, .inl (aN g))), (oq, .inl (Γ.2 0, 16384, .inl (aN f6)))] := hD
  refine lv_istore (lv' := [(5, .int (nI x6)), (4, .int (nI x7)), (0, .ref oa), (1, .int (nI A0)), (2, .int (nI B0)), (3, .int (nI d0))]) hx hb dX3_factsOfParts_18 hl (by decide) rfl (fun ls hl => ?_)
  refine lv_iload hx hb dX3_factsOfParts_20 (lv_at hl 1 rfl) ?_
  refine lv_iload hx hb dX3_factsOfParts_22 (lv_at hl 0 rfl) ?_
  refine lv_ixor hx hb dX3_factsOfParts_24 ?_
  refine tp_i (y := (nI (x7 ^^^ x6))) (ni_xor _ _) ?_
  refine lv_sipush (v := (nI 255)) hx hb dX3_factsOfParts_25 (by decide) ?_
  refine lv_iand hx hb dX3_factsOfParts_28 ?_
  refine tp_i (y := (nI ((x7 ^^^ x6) &&& 255))) (ni_and _ _) ?_
  refine tp_i (y := (nI (V g A0 ^^^ V g B0))) (by rw [xor255, hx7.2.1, hx6.2.1]) ?_
  refine lv_iload hx hb dX3_factsOfParts_29 (lv_at hl 1 rfl) ?_
  refine lv_bipush (v := (nI 8)) hx hb dX3_factsOfParts_31 (by decide) ?_
  refine lv_ishr hx hb dX3_factsOfParts_33 ?_
  refine tp_i (y := (nI (x7 >>> 8))) (ni_shr (by omega) (Nat.lt_trans hx7.1 (by decide))) ?_
  refine lv_sipush (v := (nI 255)) hx hb dX3_factsOfParts_34 (by decide) ?_
  refine lv_iand hx hb dX3_factsOfParts_37 ?_
  refine tp_i (y := (nI ((x7 >>> 8) &&& 255))) (ni_and _ _) ?_
  refine tp_i (y := (nI (Sh g A0))) (by rw [hx7.2.2.1]) ?_
  refine lv_iload hx hb dX3_factsOfParts_38 (lv_at hl 0 rfl) ?_
  refine lv_bipush (v := (nI 8)) hx hb dX3_factsOfParts_40 (by decide) ?_
  refine lv_ishr hx hb dX3_factsOfParts_42 ?_
  refine tp_i (y := (nI (x6 >>> 8))) (ni_shr (by omega) (Nat.lt_trans hx6.1 (by decide))) ?_
  refine lv_sipush (v := (nI 255)) hx hb dX3_factsOfParts_43 (by decide) ?_
  refine lv_iand hx hb dX3_factsOfParts_46 ?_
  refine tp_i (y := (nI ((x6 >>> 8) &&& 255))) (ni_and _ _) ?_
  refine tp_i (y := (nI (Sh g B0))) (by rw [hx6.2.2.1]) ?_
  refine lv_iadd hx hb dX3_factsOfParts_47 ?_
  refine tp_i (y := (nI ((Sh g A0) + (Sh g B0)))) (nI_add _ _) ?_
  refine lv_iload hx hb dX3_factsOfParts_48 (lv_at hl 1 rfl) ?_
  refine lv_bipush (v := (nI 16)) hx hb dX3_factsOfParts_50 (by decide) ?_
  refine lv_ishr hx hb dX3_factsOfParts_52 ?_
  refine tp_i (y := (nI (x7 >>> 16))) (ni_shr (by omega) (Nat.lt_trans hx7.1 (by decide))) ?_
  refine lv_sipush (v := (nI 255)) hx hb dX3_factsOfParts_53 (by decide) ?_
  refine lv_iand hx hb dX3_factsOfParts_56 ?_
  refine tp_i (y := (nI ((x7 >>> 16) &&& 255))) (ni_and _ _) ?_
  refine tp_i (y := (nI (Lo g A0))) (by rw [hx7.2.2.2]) ?_
  refine lv_iload hx hb dX3_factsOfParts_57 (lv_at hl 0 rfl) ?_
  refine lv_bipush (v := (nI 16)) hx hb dX3_factsOfParts_59 (by decide) ?_
  refine lv_ishr hx hb dX3_factsOfParts_61 ?_
  refine tp_i (y := (nI (x6 >>> 16))) (ni_shr (by omega) (Nat.lt_trans hx6.1 (by decide))) ?_
  refine lv_sipush (v := (nI 255)) hx hb dX3_factsOfParts_62 (by decide) ?_
  refine lv_iand hx hb dX3_factsOfParts_65 ?_
  refine tp_i (y := (nI ((x6 >>> 16) &&& 255))) (ni_and _ _) ?_
  refine tp_i (y := (nI (Lo g B0))) (by rw [hx6.2.2.2]) ?_
  refine lv_iadd hx hb dX3_factsOfParts_66 ?_
  refine tp_i (y := (nI ((Lo g A0) + (Lo g B0)))) (nI_add _ _) ?_
  have z1 := Sh_16 g A0
  have z2 := Sh_16 g B0
  have z3 := Lo_16 g A0
  have z4 := Lo_16 g B0
  refine ro_fin (va_runS (As := [.int (nI (V g A0 ^^^ V g B0)), .int (nI ((Sh g A0) + (Sh g B0))), .int (nI ((Lo g A0) + (Lo g B0)))]) (rest := []) ⟨hx, hb, hml, hown, hts⟩ (c_X3_pack l Γ _ (V g A0 ^^^ V g B0) ((Sh g A0) + (Sh g B0)) ((Lo g A0) + (Lo g B0)) (Nat.lt_trans (Nat.xor_lt_two_pow (n := 4) (V_16 g A0) (V_16 g B0)) (by decide)) (by omega) (by omega)) (kcwS 3 hts kv_X3_pack mw_148 (rm_le hR (Nat.le_of_ble_eq_true rfl) (Nat.le_of_ble_eq_true rfl))) (kPc_S hK) rfl rfl hl.1 rfl (lv_room (Nat.le_of_ble_eq_true rfl)) dX3_factsOfParts_67 ⟨Nat.zero_le _, Nat.zero_le _⟩) hS (fun locs hS => ?_)
  refine tp_i (y := (nI (pkS g (A0 ||| B0)))) (by rw [parts_pk hA0 hB0 hap]) ?_
  exact hret f6 hP hS (⟨rfl, hk6⟩) dX3_factsOfParts_70
set_option maxHeartbeats 8000000 in
set_option maxRecDepth 100000 in
theorem c_X3_factsOf_s (l : Launch) (Γ : kG) (n9 : Nat) (oa : Nat) (oz : Nat) (oe : Nat) (oq : Nat) (g : Nat → Nat) (ff : Nat → Nat) (S0 : Nat) (d0 : Nat) (hg : ∀ i, i < 14 → g i < 16384) (hsy : ∀ i, i < 14 → ∀ j, j < 14 → (g i).testBit j = (g j).testBit i) (hok : okF g ff) (hS0 : S0 < 16384) (hpn : pc S0 ≤ n9 + 1) (hpd : pc S0 + d0 ≤ 14) (IH : ∀ (ff : Nat → Nat) (S0 : Nat) (d0 : Nat), okF g ff → S0 < 16384 → pc S0 ≤ n9 → pc S0 + d0 ≤ 14 → WRi l yX3_factsOf (wsq yX3_factsOf cX3_factsOf 5 (some .int)) (rmL (2 * n9 + 6)) Γ [.ref oa, .int (nI S0), .int (nI d0)] [(oa, .inr (3, [.ref oz, .ref oq])), (oz, .inr (1, [.ref oe])), (oe, .inl (Γ.2 0, 14, .inl (aN g))), (oq, .inl (Γ.2 0, 16384, .inl (aN ff)))] (fun u : (Nat → Nat) × Nat => [(oa, .inr (3, [.ref oz, .ref oq])), (oz, .inr (1, [.ref oe])), (oe, .inl (Γ.2 0, 14, .inl (aN g))), (oq, .inl (Γ.2 0, 16384, .inl (aN u.1)))]) (fun (r : Int32) (u : (Nat → Nat) × Nat) => r = (nI u.2) ∧ okF g u.1 ∧ gotF g S0 u.2)) : WRi l yX3_factsOf (wsq yX3_factsOf cX3_factsOf 5 (some .int)) (rmL (2 * n9 + 8)) Γ [.ref oa, .int (nI S0), .int (nI d0)] [(oa, .inr (3, [.ref oz, .ref oq])), (oz, .inr (1, [.ref oe])), (oe, .inl (Γ.2 0, 14, .inl (aN g))), (oq, .inl (Γ.2 0, 16384, .inl (aN ff)))] (fun u : (Nat → Nat) × Nat => [(oa, .inr (3, [.ref oz, .ref oq])), (oz, .inr (1, [.ref oe])), (oe, .inl (Γ.2 0, 14, .inl (aN g))), (oq, .inl (Γ.2 0, 16384, .inl (aN u.1)))]) (fun (r : Int32) (u : (Nat → Nat) × Nat) => r = (nI u.2) ∧ okF g u.1 ∧ gotF g S0 u.2) := by
  refine wr_ofi (cc := cX3_factsOf) (maxL := 5) (by decide +kernel) (Nat.le_of_ble_eq_true rfl) rfl ?_
  intro p ev R st mi args below meth cd Q A ls C0 hR hret hP hD hS hl
  obtain ⟨hx, hb, hr, hml, hown, hts, hlk, hK, hnm⟩ := C0
  have hown : st.vm.findClass RX3 = some mi.cls := hown
  refine lv_iload_n hx hb dX3_factsOf_0 rfl (lv_at hl 1 rfl) ?_
  refine nb_if_le (tgt := 19) hx hb (by omega) dX3_factsOf_1 (by decide) (fun c_1 => ?_) (fun c_1 => ?_)
  · skip
    refine lv_iconst (v := (nI 0)) hx hb dX3_factsOf_19 (by decide) ?_
    exact hret (ff, 0) hP hS (⟨rfl, hok, by rw [c_1]; exact got_0 g⟩) dX3_factsOf_20
  · skip
    refine lv_iload_n hx hb dX3_factsOf_4 rfl (lv_at hl 1 rfl) ?_
    refine lv_aload_n hx hb dX3_factsOf_5 rfl (lv_at hl 0 rfl) ?_
    refine va_get (D := Γ.1) (ci := 3) (v := .ref oq) (C := RX3) (T := TX3) (N := 2) hx hb hts hinX3 hown hK.1 hP 0 rfl rfl 1 (by decide) (hts _ mw_129) (fun _ h9 => h9) rfl dX3_factsOf_6 ?_
    refine va_alen hx hb hK.1 hP 3 0 rfl rfl (v := nI 16384) rfl dX3_factsOf_9 ?_
    refine nb_icmp_ge (tgt := 19) hx hb (by first | omega | assumption) (by first | omega | assumption) dX3_factsOf_10 (by decide) (fun c_10 => absurd c_10 (by omega)) (fun c_10 => ?_)
    refine lv_iload_n hx hb dX3_factsOf_13 rfl (lv_at hl 2 rfl) ?_
    refine lv_bipush (v := (nI 14)) hx hb dX3_factsOf_14 (by decide) ?_
    refine nb_icmp_le (tgt := 21) hx hb (by first | omega | assumption) (by first | omega | assumption) dX3_factsOf_16 (by decide) (fun c_16 => ?_) (fun c_16 => by exfalso; omega)
    refine lv_aload_n hx hb dX3_factsOf_21 rfl (lv_at hl 0 rfl) ?_
    refine va_get (D := Γ.1) (ci := 3) (v := .ref oq) (C := RX3) (T := TX3) (N := 2) hx hb hts hinX3 hown hK.1 hP 0 rfl rfl 1 (by decide) (hts _ mw_129) (fun _ h9 => h9) rfl dX3_factsOf_22 ?_
    refine lv_iload_n hx hb dX3_factsOf_25 rfl (lv_at hl 1 rfl) ?_
    refine iald_N hx hb hK.1 hP 3 0 rfl rfl (by omega) (by first | decide | assumption) dX3_factsOf_26 ?_
    refine lv_ldc (v := 16777216) hx hb hown (hts _ mw_135) dX3_factsOf_27 ?_
    refine tp_i (y := nI 16777216) (by decide +kernel) ?_
    refine lv_iand hx hb dX3_factsOf_29 ?_
    refine tp_i (y := (nI ((ff S0) &&& 16777216))) (ni_and _ _) ?_
    refine nb_if_ne (tgt := 87) hx hb (Nat.lt_of_le_of_lt Nat.and_le_left (Nat.lt_trans (okE_lt hS0 (hok S0 hS0)) (by decide))) dX3_factsOf_30 (by decide) (fun c_30 => ?_) (fun c_30 => ?_)
    · skip
      refine lv_aload_n hx hb dX3_factsOf_87 rfl (lv_at hl 0 rfl) ?_
      refine va_get (D := Γ.1) (ci := 3) (v := .ref oq) (C := RX3) (T := TX3) (N := 2) hx hb hts hinX3 hown hK.1 hP 0 rfl rfl 1 (by decide) (hts _ mw_129) (fun _ h9 => h9) rfl dX3_factsOf_88 ?_
      refine lv_iload_n hx hb dX3_factsOf_91 rfl (lv_at hl 1 rfl) ?_
      refine iald_N hx hb hK.1 hP 3 0 rfl rfl (by omega) (by first | decide | assumption) dX3_factsOf_92 ?_
      exact hret (ff, ff S0) hP hS (⟨rfl, hok, ok_got hS0 (hok S0 hS0) c_30⟩) dX3_factsOf_93
    · skip
      have hnz : S0 ≠ 0 := by omega
      obtain ⟨hl0, hl1, hl2⟩ := low_spec hS0 hnz
      have hca := comp_apart hsy hS0 hl1
      refine lv_aload_n hx hb dX3_factsOf_33 rfl (lv_at hl 0 rfl) ?_
      refine va_get (D := Γ.1) (ci := 3) (v := .ref oz) (C := RX3) (T := TX3) (N := 2) hx hb hts hinX3 hown hK.1 hP 0 rfl rfl 0 (by decide) (hts _ mw_128) (fun _ h9 => h9) rfl dX3_factsOf_34 ?_
      have CT71 : ∀ (f5 : Nat → Nat) (hok5 : okF g f5), ∀ (H : Heap) (locs : List Loc), va_P Γ.1 vwCl [(oa, .inr (3, [.ref oz, .ref oq])), (oz, .inr (1, [.ref oe])), (oe, .inl (Γ.2 0, 14, .inl (aN g))), (oq, .inl (Γ.2 0, 16384, .inl (aN f5)))] H → va_D A [(oa, .inr (3, [.ref oz, .ref oq])), (oz, .inr (1, [.ref oe])), (oe, .inl (Γ.2 0, 14, .inl (aN g))), (oq, .inl (Γ.2 0, 16384, .inl (aN f5)))] → va_S A st.heap H locs → ∀ (ls : Array Slot), lv_has ls 5 [(0, .ref oa), (1, .int (nI S0)), (2, .int (nI d0))] → W p l ev R st mi args below meth cd H locs 0 0 Q (F0 mi 71 ls [.int (nI (pkS g S0))]) := by
        intro f5 hok5 H locs hP hD hS ls hl
        refine lv_istore (lv' := [(4, .int (nI (pkS g S0))), (0, .ref oa), (1, .int (nI S0)), (2, .int (nI d0))]) hx hb dX3_factsOf_71 hl (by decide) rfl (fun ls hl => ?_)
        refine lv_aload_n hx hb dX3_factsOf_73 rfl (lv_at hl 1 rfl) ?_
        refine va_get (D := Γ.1) (ci := 3) (v := .ref oq) (C := RX3) (T := TX3) (N := 2) hx hb hts hinX3 hown hK.1 hP 0 rfl rfl 1 (by decide) (hts _ mw_129) (fun _ h9 => h9) rfl dX3_factsOf_74 ?_
        refine lv_iload_n hx hb dX3_factsOf_77 rfl (lv_at hl 2 rfl) ?_
        refine lv_dup2_11 hx hb dX3_factsOf_78 rfl rfl ?_
        refine iald_N hx hb hK.1 hP 3 0 rfl rfl (by omega) (by first | decide | assumption) dX3_factsOf_79 ?_
        refine lv_iload hx hb dX3_factsOf_80 (lv_at hl 0 rfl) ?_
        refine lv_ldc (v := 16777216) hx hb hown (hts _ mw_135) dX3_factsOf_82 ?_
        refine tp_i (y := nI 16777216) (by decide +kernel) ?_
        refine lv_ior hx hb dX3_factsOf_84 ?_
        refine tp_i (y := (nI ((pkS g S0) ||| 16777216))) (ni_or _ _) ?_
        obtain ⟨x5, hx5, hy5, hz5⟩ := ok_ins hS0 (hok5 S0 hS0)
        refine lv_ior hx hb dX3_factsOf_85 ?_
        refine tp_i (y := (nI ((f5 S0) ||| ((pkS g S0) ||| 16777216)))) (ni_or _ _) ?_
        refine tp_i (y := (nI x5)) (by rw [hx5]) ?_
        refine iast_N hx hb hK.1 hP hD hS 3 0 rfl rfl (by omega) (by first | decide | assumption) dX3_factsOf_86 (fun H locs hP hD hS => ?_)
        have hP : va_P Γ.1 vwCl [(oa, .inr (3, [.ref oz, .ref oq])), (oz, .inr (1, [.ref oe])), (oe, .inl (Γ.2 0, 14, .inl (aN g))), (oq, .inl (Γ.2 0, 16384, .inl (aN (upN f5 S0 x5))))] H := hP
        have hD : va_D A [(oa, .inr (3, [.ref oz, .ref oq])), (oz, .inr (1, [.ref oe])), (oe, .inl (Γ.2 0, 14, .inl (aN g))), (oq, .inl (Γ.2 0, 16384, .inl (aN (upN f5 S0 x5))))] := hD
        refine lv_aload_n hx hb dX3_factsOf_87 rfl (lv_at hl 1 rfl) ?_
        refine va_get (D := Γ.1) (ci := 3) (v := .ref oq) (C := RX3) (T := TX3) (N := 2) hx hb hts hinX3 hown hK.1 hP 0 rfl rfl 1 (by decide) (hts _ mw_129) (fun _ h9 => h9) rfl dX3_factsOf_88 ?_
        refine lv_iload_n hx hb dX3_factsOf_91 rfl (lv_at hl 2 rfl) ?_
        refine iald_N hx hb hK.1 hP 3 0 rfl rfl (by omega) (by first | decide | assumption) dX3_factsOf_92 ?_
        exact hret (upN f5 S0 x5, x5) hP hS (⟨by rw [upN_s], okF_up hok5 hy5, hz5⟩) dX3_factsOf_93
      refine lv_iload_n hx hb dX3_factsOf_37 rfl (lv_at hl 1 rfl) ?_
      refine ro_fin (va_runS (As := [.int (nI S0)]) (rest := [.ref oz]) ⟨hx, hb, hml, hown, hts⟩ (c_J6_numberOfTrailingZeros_0f7a4 l Γ _ (nI S0) (low S0) (by omega) (ntz_low hS0 hnz)) (kcwS 1 hts kv_J6_numberOfTrailingZeros_0f7a4 mw_136 (rm_le hR (Nat.le_of_ble_eq_true rfl) (Nat.le_of_ble_eq_true rfl))) (kPc_S hK) rfl rfl hl.1 rfl (lv_room (Nat.le_of_ble_eq_true rfl)) dX3_factsOf_38 ⟨Nat.zero_le _, Nat.zero_le _⟩) hS (fun locs hS => ?_)
      refine lv_iload_n hx hb dX3_factsOf_41 rfl (lv_at hl 1 rfl) ?_
      refine ro_fin (va_runVN (As := [.int (nI (low S0)), .int (nI S0)]) (rest := []) ⟨hx, hb, hml, hown, hts⟩ (c_X1_reach l Γ _ oz oe g (low S0) S0 (hP.sub (ws' := [(oz, .inr (1, [.ref oe])), (oe, .inl (Γ.2 0, 14, .inl (aN g)))]) [1, 2] rfl) (by first | omega | assumption) (hl0) (by first | omega | assumption) (hl1)) (kcwVN 2 hts kv_X1_reach (hK.nw _ (nwL_at 62 rfl)) (rm_le hR (Nat.le_of_ble_eq_true rfl) (Nat.le_of_ble_eq_true rfl))) (kPc_V hK (va_recv hK.1 hP (ci := 1) (q0 := 1) rfl rfl)) rfl rfl hl.1 rfl (lv_room (Nat.le_of_ble_eq_true rfl)) dX3_factsOf_42 ⟨Nat.zero_le _, Nat.zero_le _⟩) hS (fun locs hS => ?_)
      refine lv_istore_n (lv' := [(3, .int (nI (comp g S0 (low S0)))), (0, .ref oa), (1, .int (nI S0)), (2, .int (nI d0))]) hx hb dX3_factsOf_45 rfl hl (by decide) rfl (fun ls hl => ?_)
      refine lv_iload_n hx hb dX3_factsOf_46 rfl (lv_at hl 0 rfl) ?_
      refine lv_iload_n hx hb dX3_factsOf_47 rfl (lv_at hl 2 rfl) ?_
      refine nb_icmp_ne (tgt := 60) hx hb (Nat.lt_trans (comp_lt _ _ _) (by decide)) (by omega) dX3_factsOf_48 (by decide) (fun c_48 => ?_) (fun c_48 => ?_)
      · skip
        refine lv_aload_n hx hb dX3_factsOf_60 rfl (lv_at hl 1 rfl) ?_
        refine lv_iload_n hx hb dX3_factsOf_61 rfl (lv_at hl 0 rfl) ?_
        refine lv_iload_n hx hb dX3_factsOf_62 rfl (lv_at hl 2 rfl) ?_
        refine lv_iload_n hx hb dX3_factsOf_63 rfl (lv_at hl 0 rfl) ?_
        refine lv_iconst (v := (-1)) hx hb dX3_factsOf_64 (by decide) ?_
        refine lv_ixor hx hb dX3_factsOf_65 ?_
        refine lv_iand hx hb dX3_factsOf_66 ?_
        refine tp_i (y := (nI (sd S0 (comp g S0 (low S0))))) (ni_sd _ _) ?_
        refine lv_iload_n hx hb dX3_factsOf_67 rfl (lv_at hl 3 rfl) ?_
        have hcl := comp_lt g S0 (low S0)
        have hsl := sd_14 (comp g S0 (low S0)) hS0
        have hc1 : pc (comp g S0 (low S0)) < pc S0 := by
          have hne : ∃ j, j < 14 ∧ (sd S0 (comp g S0 (low S0))).testBit j = true := bit_ex hsl (fun q9 => c_48 (by have h9 := hca.2; rw [q9, Nat.or_zero] at h9; exact h9))
          obtain ⟨j, hj1, hj2⟩ := hne
          rw [sd_bit, Bool.and_eq_true, Bool.not_eq_true'] at hj2
          exact pc_lt (fun i h9 => comp_in hl1 h9) hj2.1 hj2.2 hj1
        have hc2 : pc (sd S0 (comp g S0 (low S0))) < pc S0 := pc_lt (fun i h9 => sd_in h9) hl1 (by rw [sd_bit, comp_self g S0 hl0]; simp) hl0
        refine wr_fini (va_runV (As := [.int (nI (comp g S0 (low S0))), .int (nI (sd S0 (comp g S0 (low S0)))), .int (nI d0)]) (rest := []) ⟨hx, hb, hml, hown, hts⟩ (c_X3_factsOfParts l Γ n9 oa oz oe oq g ff (comp g S0 (low S0)) (sd S0 (comp g S0 (low S0))) d0 (hcl) (hsl) (hca.1) (by omega) (by omega) (by omega) (by omega) (by first | omega | assumption) (IH)) (kcwV 3 hts kv_X3_factsOfParts mw_141 (rm_le hR (by omega) (Nat.le_of_ble_eq_true rfl))) (kPw_V hK (va_recv hK.1 hP (ci := 3) (q0 := 0) rfl rfl) (hP.sub (ws' := [(oa, .inr (3, [.ref oz, .ref oq])), (oz, .inr (1, [.ref oe])), (oe, .inl (Γ.2 0, 14, .inl (aN g))), (oq, .inl (Γ.2 0, 16384, .inl (aN ff)))]) [0, 1, 2, 3] rfl) (hD.sub (ws' := [(oa, .inr (3, [.ref oz, .ref oq])), (oz, .inr (1, [.ref oe])), (oe, .inl (Γ.2 0, 14, .inl (aN g))), (oq, .inl (Γ.2 0, 16384, .inl (aN ff)))]) [0, 1, 2, 3] (by decide) rfl)) rfl rfl hl.1 rfl (lv_room (Nat.le_of_ble_eq_true rfl)) dX3_factsOf_68 ⟨Nat.zero_le _, Nat.zero_le _⟩) hP hD hS [0, 1, 2, 3] rfl (fun _ => rfl) (fun r f9_68 H locs hw hP hD hS => ?_)
        obtain ⟨rfl, hw68_0⟩ := hw
        have hP : va_P Γ.1 vwCl [(oa, .inr (3, [.ref oz, .ref oq])), (oz, .inr (1, [.ref oe])), (oe, .inl (Γ.2 0, 14, .inl (aN g))), (oq, .inl (Γ.2 0, 16384, .inl (aN f9_68)))] H := hP
        have hD : va_D A [(oa, .inr (3, [.ref oz, .ref oq])), (oz, .inr (1, [.ref oe])), (oe, .inl (Γ.2 0, 14, .inl (aN g))), (oq, .inl (Γ.2 0, 16384, .inl (aN f9_68)))] := hD
        refine tp_i (y := (nI (pkS g S0))) (by rw [hca.2]) ?_
        exact CT71 f9_68 (hw68_0) _ _ hP hD hS ls (lv_sub hl [1, 2, 3] rfl)
      · skip
        refine lv_aload_n hx hb dX3_factsOf_51 rfl (lv_at hl 1 rfl) ?_
        refine lv_iload_n hx hb dX3_factsOf_52 rfl (lv_at hl 2 rfl) ?_
        refine lv_iload_n hx hb dX3_factsOf_53 rfl (lv_at hl 3 rfl) ?_
        refine wr_fini (va_runV (As := [.int (nI S0), .int (nI d0)]) (rest := []) ⟨hx, hb, hml, hown, hts⟩ (c_X3_factsOfTree l Γ n9 oa oz oe oq g ff S0 d0 (by first | omega | assumption) (by first | omega | assumption) (hnz) (by first | omega | assumption) (by first | omega | assumption) (by first | omega | assumption) (IH)) (kcwV 2 hts kv_X3_factsOfTree mw_137 (rm_le hR (by omega) (Nat.le_of_ble_eq_true rfl))) (kPw_V hK (va_recv hK.1 hP (ci := 3) (q0 := 0) rfl rfl) (hP.sub (ws' := [(oa, .inr (3, [.ref oz, .ref oq])), (oz, .inr (1, [.ref oe])), (oe, .inl (Γ.2 0, 14, .inl (aN g))), (oq, .inl (Γ.2 0, 16384, .inl (aN ff)))]) [0, 1, 2, 3] rfl) (hD.sub (ws' := [(oa, .inr (3, [.ref oz, .ref oq])), (oz, .inr (1, [.ref oe])), (oe, .inl (Γ.2 0, 14, .inl (aN g))), (oq, .inl (Γ.2 0, 16384, .inl (aN ff)))]) [0, 1, 2, 3] (by decide) rfl)) rfl rfl hl.1 rfl (lv_room (Nat.le_of_ble_eq_true rfl)) dX3_factsOf_54 ⟨Nat.zero_le _, Nat.zero_le _⟩) hP hD hS [0, 1, 2, 3] rfl (fun _ => rfl) (fun r f9_54 H locs hw hP hD hS => ?_)
        obtain ⟨rfl, hw54_0⟩ := hw
        have hP : va_P Γ.1 vwCl [(oa, .inr (3, [.ref oz, .ref oq])), (oz, .inr (1, [.ref oe])), (oe, .inl (Γ.2 0, 14, .inl (aN g))), (oq, .inl (Γ.2 0, 16384, .inl (aN f9_54)))] H := hP
        have hD : va_D A [(oa, .inr (3, [.ref oz, .ref oq])), (oz, .inr (1, [.ref oe])), (oe, .inl (Γ.2 0, 14, .inl (aN g))), (oq, .inl (Γ.2 0, 16384, .inl (aN f9_54)))] := hD
        refine lv_goto (tgt := 71) hx hb dX3_factsOf_57 (by decide) ?_
        exact CT71 f9_54 (hw54_0) _ _ hP hD hS ls (lv_sub hl [1, 2, 3] rfl)
