set_option maxHeartbeats 8000000 in
set_option maxRecDepth 100000 in
theorem c_X6_bit (l : Launch) (Γ : kG) (H0 : Heap) (k : Nat) (hk : k < 14) : RO l yX6_bit (wsq yX6_bit cX6_bit 1 (some .int)) (rmL 1) Γ H0 [.int (nI k)] (nI (2 ^ k)) := by
  refine ro_ofi (cc := cX6_bit) (maxL := 1) (by decide) (Nat.le_of_ble_eq_true rfl) rfl ?_
  intro p ev R st mi args below meth cd Q ls C0 hR hret hh hS hl
  obtain ⟨hx, hb, hr, hml, hown, hts, hlk, hK, hnm⟩ := C0
  have hown : st.vm.findClass RX6 = some mi.cls := hown
  refine lv_iload_n hx hb dX6_bit_0 rfl (lv_at hl 0 rfl) ?_
  refine nb_if_lt (tgt := 16) hx hb (by first | omega | assumption) dX6_bit_1 (by decide) ?_
  refine lv_iload_n hx hb dX6_bit_4 rfl (lv_at hl 0 rfl) ?_
  refine lv_bipush (v := (nI 14)) hx hb dX6_bit_5 (by decide) ?_
  refine nb_icmp_ge (tgt := 16) hx hb (by first | omega | assumption) (by first | omega | assumption) dX6_bit_7 (by decide) (fun c_7 => absurd c_7 (by omega)) (fun c_7 => ?_)
  refine lv_iconst (v := (nI 1)) hx hb dX6_bit_10 (by decide) ?_
  refine lv_iload_n hx hb dX6_bit_11 rfl (lv_at hl 0 rfl) ?_
  refine lv_ishl hx hb dX6_bit_12 ?_
  refine tp_i (y := (nI (2 ^ k))) (ni_shl1 (by omega)) ?_
  refine lv_goto (tgt := 17) hx hb dX6_bit_13 (by decide) ?_
  exact hret hS (rfl) dX6_bit_17
set_option maxHeartbeats 8000000 in
set_option maxRecDepth 100000 in
theorem c_X6_has (l : Launch) (Γ : kG) (H0 : Heap) (S : Nat) (k : Nat) (hS0 : S < 16384) (hk : k < 14) : RO l yX6_has (wsq yX6_has cX6_has 2 (some .boolean)) (rmL 1) Γ H0 [.int (nI S), .int (nI k)] (bI (S.testBit k)) := by
  refine ro_ofz (cc := cX6_has) (maxL := 2) (by decide) (Nat.le_of_ble_eq_true rfl) rfl ?_
  intro p ev R st mi args below meth cd Q ls C0 hR hret hh hS hl
  obtain ⟨hx, hb, hr, hml, hown, hts, hlk, hK, hnm⟩ := C0
  have hown : st.vm.findClass RX6 = some mi.cls := hown
  refine lv_iload_n hx hb dX6_has_0 rfl (lv_at hl 1 rfl) ?_
  refine nb_if_lt (tgt := 23) hx hb (by first | omega | assumption) dX6_has_1 (by decide) ?_
  refine lv_iload_n hx hb dX6_has_4 rfl (lv_at hl 1 rfl) ?_
  refine lv_bipush (v := (nI 14)) hx hb dX6_has_5 (by decide) ?_
  refine nb_icmp_ge (tgt := 23) hx hb (by first | omega | assumption) (by first | omega | assumption) dX6_has_7 (by decide) (fun c_7 => absurd c_7 (by omega)) (fun c_7 => ?_)
  refine lv_iload_n hx hb dX6_has_10 rfl (lv_at hl 0 rfl) ?_
  refine lv_iload_n hx hb dX6_has_11 rfl (lv_at hl 1 rfl) ?_
  refine lv_ishr hx hb dX6_has_12 ?_
  refine tp_i (y := (nI (S >>> k))) (ni_shr (by omega) (by omega)) ?_
  refine lv_iconst (v := (nI 1)) hx hb dX6_has_13 (by decide) ?_
  refine lv_iand hx hb dX6_has_14 ?_
  refine tp_i (y := (nI ((Nat.testBit S k).toNat))) (ni_bit _ _) ?_
  refine lv_iconst (v := (nI 1)) hx hb dX6_has_15 (by decide) ?_
  refine nb_icmp_ne (tgt := 23) hx hb (tn_lt _) (by omega) dX6_has_16 (by decide) (fun c_16 => ?_) (fun c_16 => ?_)
  · skip
    refine lv_iconst (v := (nI 0)) hx hb dX6_has_23 (by decide) ?_
    exact hret hS (by rw [ts_f (fun q => c_16 (tn_1.mpr q))]; rfl) dX6_has_24
  · skip
    refine lv_iconst (v := (nI 1)) hx hb dX6_has_19 (by decide) ?_
    refine lv_goto (tgt := 24) hx hb dX6_has_20 (by decide) ?_
    exact hret hS (by rw [tn_1.mp c_16]; rfl) dX6_has_24
set_option maxHeartbeats 8000000 in
set_option maxRecDepth 100000 in
theorem c_X1_around (l : Launch) (Γ : kG) (H0 : Heap) (a : Nat) (e : Nat) (g : Nat → Nat) (k : Nat) (hP : va_P Γ.1 vwCl [(a, .inr (1, [.ref e])), (e, .inl (Γ.2 0, 14, .inl (aN g)))] H0) (hk : k < 14) : RO l yX1_around (wsq yX1_around cX1_around 2 (some .int)) (rmL 1) Γ H0 [.ref a, .int (nI k)] (nI (g k)) := by
  refine ro_ofi (cc := cX1_around) (maxL := 2) (by decide) (Nat.le_of_ble_eq_true rfl) rfl ?_
  intro p ev R st mi args below meth cd Q ls C0 hR hret hh hS hl
  obtain ⟨hx, hb, hr, hml, hown, hts, hlk, hK, hnm⟩ := C0
  have hown : st.vm.findClass RX1 = some mi.cls := hown
  refine lv_iload_n hx hb dX1_around_0 rfl (lv_at hl 1 rfl) ?_
  refine nb_if_lt (tgt := 19) hx hb (by first | omega | assumption) dX1_around_1 (by decide) ?_
  refine lv_iload_n hx hb dX1_around_4 rfl (lv_at hl 1 rfl) ?_
  refine lv_bipush (v := (nI 14)) hx hb dX1_around_5 (by decide) ?_
  refine nb_icmp_ge (tgt := 19) hx hb (by first | omega | assumption) (by first | omega | assumption) dX1_around_7 (by decide) (fun c_7 => absurd c_7 (by omega)) (fun c_7 => ?_)
  refine lv_aload_n hx hb dX1_around_10 rfl (lv_at hl 0 rfl) ?_
  refine va_get (D := Γ.1) (ci := 1) (v := .ref e) (C := RX1) (T := TX1) (N := 1) hx hb hts hinX1 hown hK.1 hP 0 rfl rfl 0 (by decide) (hts _ mw_5) (fun _ h9 => h9) rfl dX1_around_11 ?_
  refine lv_iload_n hx hb dX1_around_14 rfl (lv_at hl 1 rfl) ?_
  refine iald_N hx hb hK.1 hP 1 0 rfl rfl (by omega) (by decide) dX1_around_15 ?_
  refine lv_goto (tgt := 20) hx hb dX1_around_16 (by decide) ?_
  exact hret hS (rfl) dX1_around_20
set_option maxHeartbeats 8000000 in
set_option maxRecDepth 100000 in
theorem c_X1_takenWith (l : Launch) (Γ : kG) (H0 : Heap) (a : Nat) (e : Nat) (g : Nat → Nat) (k : Nat) (hP : va_P Γ.1 vwCl [(a, .inr (1, [.ref e])), (e, .inl (Γ.2 0, 14, .inl (aN g)))] H0) (hk : k < 14) : RO l yX1_takenWith (wsq yX1_takenWith cX1_takenWith 2 (some .int)) (rmL 1) Γ H0 [.ref a, .int (nI k)] (nI (g k ||| 2 ^ k)) := by
  refine ro_ofi (cc := cX1_takenWith) (maxL := 2) (by decide) (Nat.le_of_ble_eq_true rfl) rfl ?_
  intro p ev R st mi args below meth cd Q ls C0 hR hret hh hS hl
  obtain ⟨hx, hb, hr, hml, hown, hts, hlk, hK, hnm⟩ := C0
  have hown : st.vm.findClass RX1 = some mi.cls := hown
  refine lv_iload_n hx hb dX1_takenWith_0 rfl (lv_at hl 1 rfl) ?_
  refine nb_if_lt (tgt := 23) hx hb (by first | omega | assumption) dX1_takenWith_1 (by decide) ?_
  refine lv_iload_n hx hb dX1_takenWith_4 rfl (lv_at hl 1 rfl) ?_
  refine lv_bipush (v := (nI 14)) hx hb dX1_takenWith_5 (by decide) ?_
  refine nb_icmp_ge (tgt := 23) hx hb (by first | omega | assumption) (by first | omega | assumption) dX1_takenWith_7 (by decide) (fun c_7 => absurd c_7 (by omega)) (fun c_7 => ?_)
  refine lv_aload_n hx hb dX1_takenWith_10 rfl (lv_at hl 0 rfl) ?_
  refine va_get (D := Γ.1) (ci := 1) (v := .ref e) (C := RX1) (T := TX1) (N := 1) hx hb hts hinX1 hown hK.1 hP 0 rfl rfl 0 (by decide) (hts _ mw_5) (fun _ h9 => h9) rfl dX1_takenWith_11 ?_
  refine lv_iload_n hx hb dX1_takenWith_14 rfl (lv_at hl 1 rfl) ?_
  refine iald_N hx hb hK.1 hP 1 0 rfl rfl (by omega) (by decide) dX1_takenWith_15 ?_
  refine lv_iconst (v := (nI 1)) hx hb dX1_takenWith_16 (by decide) ?_
  refine lv_iload_n hx hb dX1_takenWith_17 rfl (lv_at hl 1 rfl) ?_
  refine lv_ishl hx hb dX1_takenWith_18 ?_
  refine tp_i (y := (nI (2 ^ k))) (ni_shl1 (by omega)) ?_
  refine lv_ior hx hb dX1_takenWith_19 ?_
  refine tp_i (y := (nI ((g k) ||| (2 ^ k)))) (ni_or _ _) ?_
  refine lv_goto (tgt := 24) hx hb dX1_takenWith_20 (by decide) ?_
  exact hret hS (rfl) dX1_takenWith_24
set_option maxHeartbeats 8000000 in
set_option maxRecDepth 100000 in
theorem c_X1_setAround (l : Launch) (Γ : kG) (a : Nat) (e : Nat) (g : Nat → Nat) (k : Nat) (v : Nat) (hk : k < 14) : WRv l yX1_setAround (wsq yX1_setAround cX1_setAround 3 none) (rmL 1) Γ [.ref a, .int (nI k), .int (nI v)] [(a, .inr (1, [.ref e])), (e, .inl (Γ.2 0, 14, .inl (aN g)))] (fun u : Unit => [(a, .inr (1, [.ref e])), (e, .inl (Γ.2 0, 14, .inl (aN (upN g k v))))]) (fun u : Unit => True) := by
  refine wr_ofv (cc := cX1_setAround) (maxL := 3) (by decide) (Nat.le_of_ble_eq_true rfl) rfl ?_
  intro p ev R st mi args below meth cd Q A ls C0 hR hret hP hD hS hl
  obtain ⟨hx, hb, hr, hml, hown, hts, hlk, hK, hnm⟩ := C0
  have hown : st.vm.findClass RX1 = some mi.cls := hown
  refine lv_iload_n hx hb dX1_setAround_0 rfl (lv_at hl 1 rfl) ?_
  refine nb_if_lt (tgt := 17) hx hb (by first | omega | assumption) dX1_setAround_1 (by decide) ?_
  refine lv_iload_n hx hb dX1_setAround_4 rfl (lv_at hl 1 rfl) ?_
  refine lv_bipush (v := (nI 14)) hx hb dX1_setAround_5 (by decide) ?_
  refine nb_icmp_ge (tgt := 17) hx hb (by first | omega | assumption) (by first | omega | assumption) dX1_setAround_7 (by decide) (fun c_7 => absurd c_7 (by omega)) (fun c_7 => ?_)
  refine lv_aload_n hx hb dX1_setAround_10 rfl (lv_at hl 0 rfl) ?_
  refine va_get (D := Γ.1) (ci := 1) (v := .ref e) (C := RX1) (T := TX1) (N := 1) hx hb hts hinX1 hown hK.1 hP 0 rfl rfl 0 (by decide) (hts _ mw_5) (fun _ h9 => h9) rfl dX1_setAround_11 ?_
  refine lv_iload_n hx hb dX1_setAround_14 rfl (lv_at hl 1 rfl) ?_
  refine lv_iload_n hx hb dX1_setAround_15 rfl (lv_at hl 2 rfl) ?_
  refine iast_N hx hb hK.1 hP hD hS 1 0 rfl rfl (by omega) (by decide) dX1_setAround_16 (fun H locs hP hD hS => ?_)
  have hP : va_P Γ.1 vwCl [(a, .inr (1, [.ref e])), (e, .inl (Γ.2 0, 14, .inl (aN (upN g k v))))] H := hP
  have hD : va_D A [(a, .inr (1, [.ref e])), (e, .inl (Γ.2 0, 14, .inl (aN (upN g k v))))] := hD
  exact hret () hP hS (trivial) dX1_setAround_17
set_option maxHeartbeats 8000000 in
set_option maxRecDepth 100000 in
theorem c_X1_link (l : Launch) (Γ : kG) (a : Nat) (e : Nat) (g : Nat → Nat) (i : Nat) (j : Nat) (hi : i < 14) (hj : j < 14) : WRv l yX1_link (wsq yX1_link cX1_link 3 none) (rmL 2) Γ [.ref a, .int (nI i), .int (nI j)] [(a, .inr (1, [.ref e])), (e, .inl (Γ.2 0, 14, .inl (aN g)))] (fun u : Unit => [(a, .inr (1, [.ref e])), (e, .inl (Γ.2 0, 14, .inl (aN (upN (upN g i (g i ||| 2 ^ j)) j ((upN g i (g i ||| 2 ^ j)) j ||| 2 ^ i)))))]) (fun u : Unit => True) := by
  refine wr_ofv (cc := cX1_link) (maxL := 3) (by decide) (Nat.le_of_ble_eq_true rfl) rfl ?_
  intro p ev R st mi args below meth cd Q A ls C0 hR hret hP hD hS hl
  obtain ⟨hx, hb, hr, hml, hown, hts, hlk, hK, hnm⟩ := C0
  have hown : st.vm.findClass RX1 = some mi.cls := hown
  refine lv_aload_n hx hb dX1_link_0 rfl (lv_at hl 0 rfl) ?_
  refine lv_iload_n hx hb dX1_link_1 rfl (lv_at hl 1 rfl) ?_
  refine lv_aload_n hx hb dX1_link_2 rfl (lv_at hl 0 rfl) ?_
  refine lv_iload_n hx hb dX1_link_3 rfl (lv_at hl 1 rfl) ?_
  refine ro_fin (va_runV (As := [.int (nI i)]) (rest := [.int (nI i), .ref a]) ⟨hx, hb, hml, hown, hts⟩ (c_X1_around l Γ _ a e g i (hP.sub (ws' := [(a, .inr (1, [.ref e])), (e, .inl (Γ.2 0, 14, .inl (aN g)))]) [0, 1] rfl) (by first | omega | assumption)) (kcwV 1 hts kv_X1_around mw_36 (rm_le hR (Nat.le_of_ble_eq_true rfl) (Nat.le_of_ble_eq_true rfl))) (kPc_V hK (va_recv hK.1 hP (ci := 1) (q0 := 0) rfl rfl)) rfl rfl hl.1 rfl (lv_room (Nat.le_of_ble_eq_true rfl)) dX1_link_4 ⟨Nat.zero_le _, Nat.zero_le _⟩) hS (fun locs hS => ?_)
  refine lv_iload_n hx hb dX1_link_7 rfl (lv_at hl 2 rfl) ?_
  refine ro_fin (va_runSN (As := [.int (nI j)]) (rest := [.int (nI (g i)), .int (nI i), .ref a]) ⟨hx, hb, hml, hown, hts⟩ (c_X6_bit l Γ _ j (by first | omega | assumption)) (kcwSN 1 hts kv_X6_bit (hK.nw _ (nwL_at 55 rfl)) (rm_le hR (Nat.le_of_ble_eq_true rfl) (Nat.le_of_ble_eq_true rfl))) (kPc_S hK) rfl rfl hl.1 rfl (lv_room (Nat.le_of_ble_eq_true rfl)) dX1_link_8 ⟨Nat.zero_le _, Nat.zero_le _⟩) hS (fun locs hS => ?_)
  refine lv_ior hx hb dX1_link_11 ?_
  refine tp_i (y := (nI ((g i) ||| (2 ^ j)))) (ni_or _ _) ?_
  refine wr_finv (va_runV (As := [.int (nI i), .int (nI ((g i) ||| (2 ^ j)))]) (rest := []) ⟨hx, hb, hml, hown, hts⟩ (c_X1_setAround l Γ a e g i ((g i) ||| (2 ^ j)) (by first | omega | assumption)) (kcwV 2 hts kv_X1_setAround mw_41 (rm_le hR (Nat.le_of_ble_eq_true rfl) (Nat.le_of_ble_eq_true rfl))) (kPw_V hK (va_recv hK.1 hP (ci := 1) (q0 := 0) rfl rfl) (hP.sub (ws' := [(a, .inr (1, [.ref e])), (e, .inl (Γ.2 0, 14, .inl (aN g)))]) [0, 1] rfl) (hD.sub (ws' := [(a, .inr (1, [.ref e])), (e, .inl (Γ.2 0, 14, .inl (aN g)))]) [0, 1] (by decide) rfl)) rfl rfl hl.1 rfl (lv_room (Nat.le_of_ble_eq_true rfl)) dX1_link_12 ⟨Nat.zero_le _, Nat.zero_le _⟩) hP hD hS [0, 1] rfl (fun _ => rfl) (fun _ H locs hw hP hD hS => ?_)
  have hP : va_P Γ.1 vwCl [(a, .inr (1, [.ref e])), (e, .inl (Γ.2 0, 14, .inl (aN (upN g i ((g i) ||| (2 ^ j))))))] H := hP
  have hD : va_D A [(a, .inr (1, [.ref e])), (e, .inl (Γ.2 0, 14, .inl (aN (upN g i ((g i) ||| (2 ^ j))))))] := hD
  refine lv_aload_n hx hb dX1_link_15 rfl (lv_at hl 0 rfl) ?_
  refine lv_iload_n hx hb dX1_link_16 rfl (lv_at hl 2 rfl) ?_
  refine lv_aload_n hx hb dX1_link_17 rfl (lv_at hl 0 rfl) ?_
  refine lv_iload_n hx hb dX1_link_18 rfl (lv_at hl 2 rfl) ?_
  refine ro_fin (va_runV (As := [.int (nI j)]) (rest := [.int (nI j), .ref a]) ⟨hx, hb, hml, hown, hts⟩ (c_X1_around l Γ _ a e (upN g i ((g i) ||| (2 ^ j))) j (hP.sub (ws' := [(a, .inr (1, [.ref e])), (e, .inl (Γ.2 0, 14, .inl (aN (upN g i ((g i) ||| (2 ^ j))))))]) [0, 1] rfl) (by first | omega | assumption)) (kcwV 1 hts kv_X1_around mw_36 (rm_le hR (Nat.le_of_ble_eq_true rfl) (Nat.le_of_ble_eq_true rfl))) (kPc_V hK (va_recv hK.1 hP (ci := 1) (q0 := 0) rfl rfl)) rfl rfl hl.1 rfl (lv_room (Nat.le_of_ble_eq_true rfl)) dX1_link_19 ⟨Nat.zero_le _, Nat.zero_le _⟩) hS (fun locs hS => ?_)
  refine lv_iload_n hx hb dX1_link_22 rfl (lv_at hl 1 rfl) ?_
  refine ro_fin (va_runSN (As := [.int (nI i)]) (rest := [.int (nI ((upN g i ((g i) ||| (2 ^ j))) j)), .int (nI j), .ref a]) ⟨hx, hb, hml, hown, hts⟩ (c_X6_bit l Γ _ i (by first | omega | assumption)) (kcwSN 1 hts kv_X6_bit (hK.nw _ (nwL_at 55 rfl)) (rm_le hR (Nat.le_of_ble_eq_true rfl) (Nat.le_of_ble_eq_true rfl))) (kPc_S hK) rfl rfl hl.1 rfl (lv_room (Nat.le_of_ble_eq_true rfl)) dX1_link_23 ⟨Nat.zero_le _, Nat.zero_le _⟩) hS (fun locs hS => ?_)
  refine lv_ior hx hb dX1_link_26 ?_
  refine tp_i (y := (nI (((upN g i ((g i) ||| (2 ^ j))) j) ||| (2 ^ i)))) (ni_or _ _) ?_
  refine wr_finv (va_runV (As := [.int (nI j), .int (nI (((upN g i ((g i) ||| (2 ^ j))) j) ||| (2 ^ i)))]) (rest := []) ⟨hx, hb, hml, hown, hts⟩ (c_X1_setAround l Γ a e (upN g i ((g i) ||| (2 ^ j))) j (((upN g i ((g i) ||| (2 ^ j))) j) ||| (2 ^ i)) (by first | omega | assumption)) (kcwV 2 hts kv_X1_setAround mw_41 (rm_le hR (Nat.le_of_ble_eq_true rfl) (Nat.le_of_ble_eq_true rfl))) (kPw_V hK (va_recv hK.1 hP (ci := 1) (q0 := 0) rfl rfl) (hP.sub (ws' := [(a, .inr (1, [.ref e])), (e, .inl (Γ.2 0, 14, .inl (aN (upN g i ((g i) ||| (2 ^ j))))))]) [0, 1] rfl) (hD.sub (ws' := [(a, .inr (1, [.ref e])), (e, .inl (Γ.2 0, 14, .inl (aN (upN g i ((g i) ||| (2 ^ j))))))]) [0, 1] (by decide) rfl)) rfl rfl hl.1 rfl (lv_room (Nat.le_of_ble_eq_true rfl)) dX1_link_27 ⟨Nat.zero_le _, Nat.zero_le _⟩) hP hD hS [0, 1] rfl (fun _ => rfl) (fun _ H locs hw hP hD hS => ?_)
  have hP : va_P Γ.1 vwCl [(a, .inr (1, [.ref e])), (e, .inl (Γ.2 0, 14, .inl (aN (upN (upN g i ((g i) ||| (2 ^ j))) j (((upN g i ((g i) ||| (2 ^ j))) j) ||| (2 ^ i))))))] H := hP
  have hD : va_D A [(a, .inr (1, [.ref e])), (e, .inl (Γ.2 0, 14, .inl (aN (upN (upN g i ((g i) ||| (2 ^ j))) j (((upN g i ((g i) ||| (2 ^ j))) j) ||| (2 ^ i))))))] := hD
  exact hret () hP hS (trivial) dX1_link_30
set_option maxHeartbeats 8000000 in
set_option maxRecDepth 100000 in
theorem c_X1_unlink (l : Launch) (Γ : kG) (a : Nat) (e : Nat) (g : Nat → Nat) (i : Nat) (j : Nat) (hi : i < 14) (hj : j < 14) : WRv l yX1_unlink (wsq yX1_unlink cX1_unlink 3 none) (rmL 2) Γ [.ref a, .int (nI i), .int (nI j)] [(a, .inr (1, [.ref e])), (e, .inl (Γ.2 0, 14, .inl (aN g)))] (fun u : Unit => [(a, .inr (1, [.ref e])), (e, .inl (Γ.2 0, 14, .inl (aN (upN (upN g i (sd (g i) (2 ^ j))) j (sd ((upN g i (sd (g i) (2 ^ j))) j) (2 ^ i))))))]) (fun u : Unit => True) := by
  refine wr_ofv (cc := cX1_unlink) (maxL := 3) (by decide) (Nat.le_of_ble_eq_true rfl) rfl ?_
  intro p ev R st mi args below meth cd Q A ls C0 hR hret hP hD hS hl
  obtain ⟨hx, hb, hr, hml, hown, hts, hlk, hK, hnm⟩ := C0
  have hown : st.vm.findClass RX1 = some mi.cls := hown
  refine lv_aload_n hx hb dX1_unlink_0 rfl (lv_at hl 0 rfl) ?_
  refine lv_iload_n hx hb dX1_unlink_1 rfl (lv_at hl 1 rfl) ?_
  refine lv_aload_n hx hb dX1_unlink_2 rfl (lv_at hl 0 rfl) ?_
  refine lv_iload_n hx hb dX1_unlink_3 rfl (lv_at hl 1 rfl) ?_
  refine ro_fin (va_runV (As := [.int (nI i)]) (rest := [.int (nI i), .ref a]) ⟨hx, hb, hml, hown, hts⟩ (c_X1_around l Γ _ a e g i (hP.sub (ws' := [(a, .inr (1, [.ref e])), (e, .inl (Γ.2 0, 14, .inl (aN g)))]) [0, 1] rfl) (by first | omega | assumption)) (kcwV 1 hts kv_X1_around mw_36 (rm_le hR (Nat.le_of_ble_eq_true rfl) (Nat.le_of_ble_eq_true rfl))) (kPc_V hK (va_recv hK.1 hP (ci := 1) (q0 := 0) rfl rfl)) rfl rfl hl.1 rfl (lv_room (Nat.le_of_ble_eq_true rfl)) dX1_unlink_4 ⟨Nat.zero_le _, Nat.zero_le _⟩) hS (fun locs hS => ?_)
  refine lv_iload_n hx hb dX1_unlink_7 rfl (lv_at hl 2 rfl) ?_
  refine ro_fin (va_runSN (As := [.int (nI j)]) (rest := [.int (nI (g i)), .int (nI i), .ref a]) ⟨hx, hb, hml, hown, hts⟩ (c_X6_bit l Γ _ j (by first | omega | assumption)) (kcwSN 1 hts kv_X6_bit (hK.nw _ (nwL_at 55 rfl)) (rm_le hR (Nat.le_of_ble_eq_true rfl) (Nat.le_of_ble_eq_true rfl))) (kPc_S hK) rfl rfl hl.1 rfl (lv_room (Nat.le_of_ble_eq_true rfl)) dX1_unlink_8 ⟨Nat.zero_le _, Nat.zero_le _⟩) hS (fun locs hS => ?_)
  refine lv_iconst (v := (-1)) hx hb dX1_unlink_11 (by decide) ?_
  refine lv_ixor hx hb dX1_unlink_12 ?_
  refine lv_iand hx hb dX1_unlink_13 ?_
  refine tp_i (y := (nI (sd (g i) (2 ^ j)))) (ni_sd _ _) ?_
  refine wr_finv (va_runV (As := [.int (nI i), .int (nI (sd (g i) (2 ^ j)))]) (rest := []) ⟨hx, hb, hml, hown, hts⟩ (c_X1_setAround l Γ a e g i (sd (g i) (2 ^ j)) (by first | omega | assumption)) (kcwV 2 hts kv_X1_setAround mw_41 (rm_le hR (Nat.le_of_ble_eq_true rfl) (Nat.le_of_ble_eq_true rfl))) (kPw_V hK (va_recv hK.1 hP (ci := 1) (q0 := 0) rfl rfl) (hP.sub (ws' := [(a, .inr (1, [.ref e])), (e, .inl (Γ.2 0, 14, .inl (aN g)))]) [0, 1] rfl) (hD.sub (ws' := [(a, .inr (1, [.ref e])), (e, .inl (Γ.2 0, 14, .inl (aN g)))]) [0, 1] (by decide) rfl)) rfl rfl hl.1 rfl (lv_room (Nat.le_of_ble_eq_true rfl)) dX1_unlink_14 ⟨Nat.zero_le _, Nat.zero_le _⟩) hP hD hS [0, 1] rfl (fun _ => rfl) (fun _ H locs hw hP hD hS => ?_)
  have hP : va_P Γ.1 vwCl [(a, .inr (1, [.ref e])), (e, .inl (Γ.2 0, 14, .inl (aN (upN g i (sd (g i) (2 ^ j))))))] H := hP
  have hD : va_D A [(a, .inr (1, [.ref e])), (e, .inl (Γ.2 0, 14, .inl (aN (upN g i (sd (g i) (2 ^ j))))))] := hD
  refine lv_aload_n hx hb dX1_unlink_17 rfl (lv_at hl 0 rfl) ?_
  refine lv_iload_n hx hb dX1_unlink_18 rfl (lv_at hl 2 rfl) ?_
  refine lv_aload_n hx hb dX1_unlink_19 rfl (lv_at hl 0 rfl) ?_
  refine lv_iload_n hx hb dX1_unlink_20 rfl (lv_at hl 2 rfl) ?_
  refine ro_fin (va_runV (As := [.int (nI j)]) (rest := [.int (nI j), .ref a]) ⟨hx, hb, hml, hown, hts⟩ (c_X1_around l Γ _ a e (upN g i (sd (g i) (2 ^ j))) j (hP.sub (ws' := [(a, .inr (1, [.ref e])), (e, .inl (Γ.2 0, 14, .inl (aN (upN g i (sd (g i) (2 ^ j))))))]) [0, 1] rfl) (by first | omega | assumption)) (kcwV 1 hts kv_X1_around mw_36 (rm_le hR (Nat.le_of_ble_eq_true rfl) (Nat.le_of_ble_eq_true rfl))) (kPc_V hK (va_recv hK.1 hP (ci := 1) (q0 := 0) rfl rfl)) rfl rfl hl.1 rfl (lv_room (Nat.le_of_ble_eq_true rfl)) dX1_unlink_21 ⟨Nat.zero_le _, Nat.zero_le _⟩) hS (fun locs hS => ?_)
  refine lv_iload_n hx hb dX1_unlink_24 rfl (lv_at hl 1 rfl) ?_
  refine ro_fin (va_runSN (As := [.int (nI i)]) (rest := [.int (nI ((upN g i (sd (g i) (2 ^ j))) j)), .int (nI j), .ref a]) ⟨hx, hb, hml, hown, hts⟩ (c_X6_bit l Γ _ i (by first | omega | assumption)) (kcwSN 1 hts kv_X6_bit (hK.nw _ (nwL_at 55 rfl)) (rm_le hR (Nat.le_of_ble_eq_true rfl) (Nat.le_of_ble_eq_true rfl))) (kPc_S hK) rfl rfl hl.1 rfl (lv_room (Nat.le_of_ble_eq_true rfl)) dX1_unlink_25 ⟨Nat.zero_le _, Nat.zero_le _⟩) hS (fun locs hS => ?_)
  refine lv_iconst (v := (-1)) hx hb dX1_unlink_28 (by decide) ?_
  refine lv_ixor hx hb dX1_unlink_29 ?_
  refine lv_iand hx hb dX1_unlink_30 ?_
  refine tp_i (y := (nI (sd ((upN g i (sd (g i) (2 ^ j))) j) (2 ^ i)))) (ni_sd _ _) ?_
  refine wr_finv (va_runV (As := [.int (nI j), .int (nI (sd ((upN g i (sd (g i) (2 ^ j))) j) (2 ^ i)))]) (rest := []) ⟨hx, hb, hml, hown, hts⟩ (c_X1_setAround l Γ a e (upN g i (sd (g i) (2 ^ j))) j (sd ((upN g i (sd (g i) (2 ^ j))) j) (2 ^ i)) (by first | omega | assumption)) (kcwV 2 hts kv_X1_setAround mw_41 (rm_le hR (Nat.le_of_ble_eq_true rfl) (Nat.le_of_ble_eq_true rfl))) (kPw_V hK (va_recv hK.1 hP (ci := 1) (q0 := 0) rfl rfl) (hP.sub (ws' := [(a, .inr (1, [.ref e])), (e, .inl (Γ.2 0, 14, .inl (aN (upN g i (sd (g i) (2 ^ j))))))]) [0, 1] rfl) (hD.sub (ws' := [(a, .inr (1, [.ref e])), (e, .inl (Γ.2 0, 14, .inl (aN (upN g i (sd (g i) (2 ^ j))))))]) [0, 1] (by decide) rfl)) rfl rfl hl.1 rfl (lv_room (Nat.le_of_ble_eq_true rfl)) dX1_unlink_31 ⟨Nat.zero_le _, Nat.zero_le _⟩) hP hD hS [0, 1] rfl (fun _ => rfl) (fun _ H locs hw hP hD hS => ?_)
  have hP : va_P Γ.1 vwCl [(a, .inr (1, [.ref e])), (e, .inl (Γ.2 0, 14, .inl (aN (upN (upN g i (sd (g i) (2 ^ j))) j (sd ((upN g i (sd (g i) (2 ^ j))) j) (2 ^ i))))))] H := hP
  have hD : va_D A [(a, .inr (1, [.ref e])), (e, .inl (Γ.2 0, 14, .inl (aN (upN (upN g i (sd (g i) (2 ^ j))) j (sd ((upN g i (sd (g i) (2 ^ j))) j) (2 ^ i))))))] := hD
  exact hret () hP hS (trivial) dX1_unlink_34
