set_option maxHeartbeats 8000000 in
set_option maxRecDepth 100000 in
theorem c_X3_factsOf_z (l : Launch) (Γ : kG) (oa : Nat) (oz : Nat) (oe : Nat) (oq : Nat) (g : Nat → Nat) (ff : Nat → Nat) (S0 : Nat) (d0 : Nat) (hok : okF g ff) (hz : S0 = 0) : WRi l yX3_factsOf (wsq yX3_factsOf cX3_factsOf 5 (some .int)) (rmL 6) Γ [.ref oa, .int (nI S0), .int (nI d0)] [(oa, .inr (3, [.ref oz, .ref oq])), (oz, .inr (1, [.ref oe])), (oe, .inl (Γ.2 0, 14, .inl (aN g))), (oq, .inl (Γ.2 0, 16384, .inl (aN ff)))] (fun u : (Nat → Nat) × Nat => [(oa, .inr (3, [.ref oz, .ref oq])), (oz, .inr (1, [.ref oe])), (oe, .inl (Γ.2 0, 14, .inl (aN g))), (oq, .inl (Γ.2 0, 16384, .inl (aN u.1)))]) (fun (r : Int32) (u : (Nat → Nat) × Nat) => r = (nI u.2) ∧ okF g u.1 ∧ gotF g S0 u.2) := by
  refine wr_ofi (cc := cX3_factsOf) (maxL := 5) (by decide +kernel) (Nat.le_of_ble_eq_true rfl) rfl ?_
  intro p ev R st mi args below meth cd Q A ls C0 hR hret hP hD hS hl
  obtain ⟨hx, hb, hr, hml, hown, hts, hlk, hK, hnm⟩ := C0
  have hown : st.vm.findClass RX3 = some mi.cls := hown
  refine lv_iload_n hx hb dX3_factsOf_0 rfl (lv_at hl 1 rfl) ?_
  refine nb_if_le (tgt := 19) hx hb (by omega) dX3_factsOf_1 (by decide) (fun c_1 => ?_) (fun c_1 => by exfalso; omega)
  refine lv_iconst (v := (nI 0)) hx hb dX3_factsOf_19 (by decide) ?_
  exact hret (ff, 0) hP hS (⟨rfl, hok, by rw [hz]; exact got_0 g⟩) dX3_factsOf_20
theorem c_X3_factsOf_all (l : Launch) (Γ : kG) (oa oz oe oq : Nat) (g : Nat → Nat) (hg : ∀ i, i < 14 → g i < 16384) (hsy : ∀ i, i < 14 → ∀ j, j < 14 → (g i).testBit j = (g j).testBit i) : ∀ (n9 : Nat), ∀ (ff : Nat → Nat) (S0 : Nat) (d0 : Nat), okF g ff → S0 < 16384 → pc S0 ≤ n9 → pc S0 + d0 ≤ 14 → WRi l yX3_factsOf (wsq yX3_factsOf cX3_factsOf 5 (some .int)) (rmL (2 * n9 + 6)) Γ [.ref oa, .int (nI S0), .int (nI d0)] [(oa, .inr (3, [.ref oz, .ref oq])), (oz, .inr (1, [.ref oe])), (oe, .inl (Γ.2 0, 14, .inl (aN g))), (oq, .inl (Γ.2 0, 16384, .inl (aN ff)))] (fun u : (Nat → Nat) × Nat => [(oa, .inr (3, [.ref oz, .ref oq])), (oz, .inr (1, [.ref oe])), (oe, .inl (Γ.2 0, 14, .inl (aN g))), (oq, .inl (Γ.2 0, 16384, .inl (aN u.1)))]) (fun (r : Int32) (u : (Nat → Nat) × Nat) => r = (nI u.2) ∧ okF g u.1 ∧ gotF g S0 u.2) := by
  intro n9
  induction n9 with
  | zero =>
    intro ff S0 d0 hok hS0 hpn hpd
    refine c_X3_factsOf_z l Γ oa oz oe oq g ff S0 d0 hok ?_
    by_cases h : S0 = 0
    · exact h
    · have := pc_pos hS0 h
      omega
  | succ n9 ih =>
    intro ff S0 d0 hok hS0 hpn hpd
    rw [show 2 * (n9 + 1) + 6 = 2 * n9 + 8 by omega]
    exact c_X3_factsOf_s l Γ n9 oa oz oe oq g ff S0 d0 hg hsy hok hS0 hpn hpd ih
theorem c_X3_factsOf (l : Launch) (Γ : kG) (oa : Nat) (oz : Nat) (oe : Nat) (oq : Nat) (g : Nat → Nat) (ff : Nat → Nat) (S0 : Nat) (d0 : Nat) (hg : ∀ i, i < 14 → g i < 16384) (hsy : ∀ i, i < 14 → ∀ j, j < 14 → (g i).testBit j = (g j).testBit i) (hok : okF g ff) (hS0 : S0 < 16384) (hpd : pc S0 + d0 ≤ 14) : WRi l yX3_factsOf (wsq yX3_factsOf cX3_factsOf 5 (some .int)) (rmL 34) Γ [.ref oa, .int (nI S0), .int (nI d0)] [(oa, .inr (3, [.ref oz, .ref oq])), (oz, .inr (1, [.ref oe])), (oe, .inl (Γ.2 0, 14, .inl (aN g))), (oq, .inl (Γ.2 0, 16384, .inl (aN ff)))] (fun u : (Nat → Nat) × Nat => [(oa, .inr (3, [.ref oz, .ref oq])), (oz, .inr (1, [.ref oe])), (oe, .inl (Γ.2 0, 14, .inl (aN g))), (oq, .inl (Γ.2 0, 16384, .inl (aN u.1)))]) (fun (r : Int32) (u : (Nat → Nat) × Nat) => r = (nI u.2) ∧ okF g u.1 ∧ gotF g S0 u.2) := c_X3_factsOf_all l Γ oa oz oe oq g hg hsy 14 ff S0 d0 hok hS0 (pc_le _) hpd
set_option maxHeartbeats 8000000 in
set_option maxRecDepth 100000 in
theorem c_X3_valueFor (l : Launch) (Γ : kG) (oa : Nat) (oz : Nat) (oe : Nat) (oq : Nat) (g : Nat → Nat) (ff : Nat → Nat) (S0 : Nat) (hg : ∀ i, i < 14 → g i < 16384) (hsy : ∀ i, i < 14 → ∀ j, j < 14 → (g i).testBit j = (g j).testBit i) (hok : okF g ff) (hS0 : S0 < 16384) : WRi l yX3_valueFor (wsq yX3_valueFor cX3_valueFor 2 (some .int)) (rmL 35) Γ [.ref oa, .int (nI S0)] [(oa, .inr (3, [.ref oz, .ref oq])), (oz, .inr (1, [.ref oe])), (oe, .inl (Γ.2 0, 14, .inl (aN g))), (oq, .inl (Γ.2 0, 16384, .inl (aN ff)))] (fun u : (Nat → Nat) => [(oa, .inr (3, [.ref oz, .ref oq])), (oz, .inr (1, [.ref oe])), (oe, .inl (Γ.2 0, 14, .inl (aN g))), (oq, .inl (Γ.2 0, 16384, .inl (aN u)))]) (fun (r : Int32) (u : (Nat → Nat)) => r = (nI (V g S0)) ∧ okF g u) := by
  refine wr_ofi (cc := cX3_valueFor) (maxL := 2) (by decide +kernel) (Nat.le_of_ble_eq_true rfl) rfl ?_
  intro p ev R st mi args below meth cd Q A ls C0 hR hret hP hD hS hl
  obtain ⟨hx, hb, hr, hml, hown, hts, hlk, hK, hnm⟩ := C0
  have hown : st.vm.findClass RX3 = some mi.cls := hown
  refine lv_aload_n hx hb dX3_valueFor_0 rfl (lv_at hl 0 rfl) ?_
  refine lv_iload_n hx hb dX3_valueFor_1 rfl (lv_at hl 1 rfl) ?_
  refine lv_iconst (v := (nI 0)) hx hb dX3_valueFor_2 (by decide) ?_
  refine wr_fini (va_runV (As := [.int (nI S0), .int (nI 0)]) (rest := []) ⟨hx, hb, hml, hown, hts⟩ (c_X3_factsOf l Γ oa oz oe oq g ff S0 0 (by first | omega | assumption) (by first | omega | assumption) (by first | omega | assumption) (by first | omega | assumption) (by have := pc_le S0; omega)) (kcwV 2 hts kv_X3_factsOf mw_145 (rm_le hR (Nat.le_of_ble_eq_true rfl) (Nat.le_of_ble_eq_true rfl))) (kPw_V hK (va_recv hK.1 hP (ci := 3) (q0 := 0) rfl rfl) (hP.sub (ws' := [(oa, .inr (3, [.ref oz, .ref oq])), (oz, .inr (1, [.ref oe])), (oe, .inl (Γ.2 0, 14, .inl (aN g))), (oq, .inl (Γ.2 0, 16384, .inl (aN ff)))]) [0, 1, 2, 3] rfl) (hD.sub (ws' := [(oa, .inr (3, [.ref oz, .ref oq])), (oz, .inr (1, [.ref oe])), (oe, .inl (Γ.2 0, 14, .inl (aN g))), (oq, .inl (Γ.2 0, 16384, .inl (aN ff)))]) [0, 1, 2, 3] (by decide) rfl)) rfl rfl hl.1 rfl (lv_room (Nat.le_of_ble_eq_true rfl)) dX3_valueFor_3 ⟨Nat.zero_le _, Nat.zero_le _⟩) hP hD hS [0, 1, 2, 3] rfl (fun _ => rfl) (fun r u H locs hw hP hD hS => ?_)
  obtain ⟨f7, x7⟩ := u
  obtain ⟨rfl, hk7, hx7⟩ := hw
  have hP : va_P Γ.1 vwCl [(oa, .inr (3, [.ref oz, .ref oq])), (oz, .inr (1, [.ref oe])), (oe, .inl (Γ.2 0, 14, .inl (aN g))), (oq, .inl (Γ.2 0, 16384, .inl (aN f7)))] H := hP
  have hD : va_D A [(oa, .inr (3, [.ref oz, .ref oq])), (oz, .inr (1, [.ref oe])), (oe, .inl (Γ.2 0, 14, .inl (aN g))), (oq, .inl (Γ.2 0, 16384, .inl (aN f7)))] := hD
  refine lv_sipush (v := (nI 255)) hx hb dX3_valueFor_6 (by decide) ?_
  refine lv_iand hx hb dX3_valueFor_9 ?_
  refine tp_i (y := (nI (x7 &&& 255))) (ni_and _ _) ?_
  refine tp_i (y := (nI (V g S0))) (by rw [hx7.2.1]) ?_
  exact hret f7 hP hS (⟨rfl, hk7⟩) dX3_valueFor_10
set_option maxHeartbeats 8000000 in
set_option maxRecDepth 100000 in
theorem c_X3_shortestFor (l : Launch) (Γ : kG) (oa : Nat) (oz : Nat) (oe : Nat) (oq : Nat) (g : Nat → Nat) (ff : Nat → Nat) (S0 : Nat) (hg : ∀ i, i < 14 → g i < 16384) (hsy : ∀ i, i < 14 → ∀ j, j < 14 → (g i).testBit j = (g j).testBit i) (hok : okF g ff) (hS0 : S0 < 16384) : WRi l yX3_shortestFor (wsq yX3_shortestFor cX3_shortestFor 2 (some .int)) (rmL 35) Γ [.ref oa, .int (nI S0)] [(oa, .inr (3, [.ref oz, .ref oq])), (oz, .inr (1, [.ref oe])), (oe, .inl (Γ.2 0, 14, .inl (aN g))), (oq, .inl (Γ.2 0, 16384, .inl (aN ff)))] (fun u : (Nat → Nat) => [(oa, .inr (3, [.ref oz, .ref oq])), (oz, .inr (1, [.ref oe])), (oe, .inl (Γ.2 0, 14, .inl (aN g))), (oq, .inl (Γ.2 0, 16384, .inl (aN u)))]) (fun (r : Int32) (u : (Nat → Nat)) => r = (nI (Sh g S0)) ∧ okF g u) := by
  refine wr_ofi (cc := cX3_shortestFor) (maxL := 2) (by decide +kernel) (Nat.le_of_ble_eq_true rfl) rfl ?_
  intro p ev R st mi args below meth cd Q A ls C0 hR hret hP hD hS hl
  obtain ⟨hx, hb, hr, hml, hown, hts, hlk, hK, hnm⟩ := C0
  have hown : st.vm.findClass RX3 = some mi.cls := hown
  refine lv_aload_n hx hb dX3_shortestFor_0 rfl (lv_at hl 0 rfl) ?_
  refine lv_iload_n hx hb dX3_shortestFor_1 rfl (lv_at hl 1 rfl) ?_
  refine lv_iconst (v := (nI 0)) hx hb dX3_shortestFor_2 (by decide) ?_
  refine wr_fini (va_runV (As := [.int (nI S0), .int (nI 0)]) (rest := []) ⟨hx, hb, hml, hown, hts⟩ (c_X3_factsOf l Γ oa oz oe oq g ff S0 0 (by first | omega | assumption) (by first | omega | assumption) (by first | omega | assumption) (by first | omega | assumption) (by have := pc_le S0; omega)) (kcwV 2 hts kv_X3_factsOf mw_145 (rm_le hR (Nat.le_of_ble_eq_true rfl) (Nat.le_of_ble_eq_true rfl))) (kPw_V hK (va_recv hK.1 hP (ci := 3) (q0 := 0) rfl rfl) (hP.sub (ws' := [(oa, .inr (3, [.ref oz, .ref oq])), (oz, .inr (1, [.ref oe])), (oe, .inl (Γ.2 0, 14, .inl (aN g))), (oq, .inl (Γ.2 0, 16384, .inl (aN ff)))]) [0, 1, 2, 3] rfl) (hD.sub (ws' := [(oa, .inr (3, [.ref oz, .ref oq])), (oz, .inr (1, [.ref oe])), (oe, .inl (Γ.2 0, 14, .inl (aN g))), (oq, .inl (Γ.2 0, 16384, .inl (aN ff)))]) [0, 1, 2, 3] (by decide) rfl)) rfl rfl hl.1 rfl (lv_room (Nat.le_of_ble_eq_true rfl)) dX3_shortestFor_3 ⟨Nat.zero_le _, Nat.zero_le _⟩) hP hD hS [0, 1, 2, 3] rfl (fun _ => rfl) (fun r u H locs hw hP hD hS => ?_)
  obtain ⟨f7, x7⟩ := u
  obtain ⟨rfl, hk7, hx7⟩ := hw
  have hP : va_P Γ.1 vwCl [(oa, .inr (3, [.ref oz, .ref oq])), (oz, .inr (1, [.ref oe])), (oe, .inl (Γ.2 0, 14, .inl (aN g))), (oq, .inl (Γ.2 0, 16384, .inl (aN f7)))] H := hP
  have hD : va_D A [(oa, .inr (3, [.ref oz, .ref oq])), (oz, .inr (1, [.ref oe])), (oe, .inl (Γ.2 0, 14, .inl (aN g))), (oq, .inl (Γ.2 0, 16384, .inl (aN f7)))] := hD
  refine lv_bipush (v := (nI 8)) hx hb dX3_shortestFor_6 (by decide) ?_
  refine lv_ishr hx hb dX3_shortestFor_8 ?_
  refine tp_i (y := (nI (x7 >>> 8))) (ni_shr (by omega) (Nat.lt_trans hx7.1 (by decide))) ?_
  refine lv_sipush (v := (nI 255)) hx hb dX3_shortestFor_9 (by decide) ?_
  refine lv_iand hx hb dX3_shortestFor_12 ?_
  refine tp_i (y := (nI ((x7 >>> 8) &&& 255))) (ni_and _ _) ?_
  refine tp_i (y := (nI (Sh g S0))) (by rw [hx7.2.2.1]) ?_
  exact hret f7 hP hS (⟨rfl, hk7⟩) dX3_shortestFor_13
set_option maxHeartbeats 8000000 in
set_option maxRecDepth 100000 in
theorem c_X3_longestFor (l : Launch) (Γ : kG) (oa : Nat) (oz : Nat) (oe : Nat) (oq : Nat) (g : Nat → Nat) (ff : Nat → Nat) (S0 : Nat) (hg : ∀ i, i < 14 → g i < 16384) (hsy : ∀ i, i < 14 → ∀ j, j < 14 → (g i).testBit j = (g j).testBit i) (hok : okF g ff) (hS0 : S0 < 16384) : WRi l yX3_longestFor (wsq yX3_longestFor cX3_longestFor 2 (some .int)) (rmL 35) Γ [.ref oa, .int (nI S0)] [(oa, .inr (3, [.ref oz, .ref oq])), (oz, .inr (1, [.ref oe])), (oe, .inl (Γ.2 0, 14, .inl (aN g))), (oq, .inl (Γ.2 0, 16384, .inl (aN ff)))] (fun u : (Nat → Nat) => [(oa, .inr (3, [.ref oz, .ref oq])), (oz, .inr (1, [.ref oe])), (oe, .inl (Γ.2 0, 14, .inl (aN g))), (oq, .inl (Γ.2 0, 16384, .inl (aN u)))]) (fun (r : Int32) (u : (Nat → Nat)) => r = (nI (Lo g S0)) ∧ okF g u) := by
  refine wr_ofi (cc := cX3_longestFor) (maxL := 2) (by decide +kernel) (Nat.le_of_ble_eq_true rfl) rfl ?_
  intro p ev R st mi args below meth cd Q A ls C0 hR hret hP hD hS hl
  obtain ⟨hx, hb, hr, hml, hown, hts, hlk, hK, hnm⟩ := C0
  have hown : st.vm.findClass RX3 = some mi.cls := hown
  refine lv_aload_n hx hb dX3_longestFor_0 rfl (lv_at hl 0 rfl) ?_
  refine lv_iload_n hx hb dX3_longestFor_1 rfl (lv_at hl 1 rfl) ?_
  refine lv_iconst (v := (nI 0)) hx hb dX3_longestFor_2 (by decide) ?_
  refine wr_fini (va_runV (As := [.int (nI S0), .int (nI 0)]) (rest := []) ⟨hx, hb, hml, hown, hts⟩ (c_X3_factsOf l Γ oa oz oe oq g ff S0 0 (by first | omega | assumption) (by first | omega | assumption) (by first | omega | assumption) (by first | omega | assumption) (by have := pc_le S0; omega)) (kcwV 2 hts kv_X3_factsOf mw_145 (rm_le hR (Nat.le_of_ble_eq_true rfl) (Nat.le_of_ble_eq_true rfl))) (kPw_V hK (va_recv hK.1 hP (ci := 3) (q0 := 0) rfl rfl) (hP.sub (ws' := [(oa, .inr (3, [.ref oz, .ref oq])), (oz, .inr (1, [.ref oe])), (oe, .inl (Γ.2 0, 14, .inl (aN g))), (oq, .inl (Γ.2 0, 16384, .inl (aN ff)))]) [0, 1, 2, 3] rfl) (hD.sub (ws' := [(oa, .inr (3, [.ref oz, .ref oq])), (oz, .inr (1, [.ref oe])), (oe, .inl (Γ.2 0, 14, .inl (aN g))), (oq, .inl (Γ.2 0, 16384, .inl (aN ff)))]) [0, 1, 2, 3] (by decide) rfl)) rfl rfl hl.1 rfl (lv_room (Nat.le_of_ble_eq_true rfl)) dX3_longestFor_3 ⟨Nat.zero_le _, Nat.zero_le _⟩) hP hD hS [0, 1, 2, 3] rfl (fun _ => rfl) (fun r u H locs hw hP hD hS => ?_)
  obtain ⟨f7, x7⟩ := u
  obtain ⟨rfl, hk7, hx7⟩ := hw
  have hP : va_P Γ.1 vwCl [(oa, .inr (3, [.ref oz, .ref oq])), (oz, .inr (1, [.ref oe])), (oe, .inl (Γ.2 0, 14, .inl (aN g))), (oq, .inl (Γ.2 0, 16384, .inl (aN f7)))] H := hP
  have hD : va_D A [(oa, .inr (3, [.ref oz, .ref oq])), (oz, .inr (1, [.ref oe])), (oe, .inl (Γ.2 0, 14, .inl (aN g))), (oq, .inl (Γ.2 0, 16384, .inl (aN f7)))] := hD
  refine lv_bipush (v := (nI 16)) hx hb dX3_longestFor_6 (by decide) ?_
  refine lv_ishr hx hb dX3_longestFor_8 ?_
  refine tp_i (y := (nI (x7 >>> 16))) (ni_shr (by omega) (Nat.lt_trans hx7.1 (by decide))) ?_
  refine lv_sipush (v := (nI 255)) hx hb dX3_longestFor_9 (by decide) ?_
  refine lv_iand hx hb dX3_longestFor_12 ?_
  refine tp_i (y := (nI ((x7 >>> 16) &&& 255))) (ni_and _ _) ?_
  refine tp_i (y := (nI (Lo g S0))) (by rw [hx7.2.2.2]) ?_
  exact hret f7 hP hS (⟨rfl, hk7⟩) dX3_longestFor_13
set_option maxHeartbeats 8000000 in
set_option maxRecDepth 100000 in
theorem c_X3_follow (l : Launch) (Γ : kG) (oa : Nat) (oz : Nat) (oe : Nat) (oq : Nat) (g : Nat → Nat) (ff : Nat → Nat) (a2 : Nat) (e2 : Nat) (g2 : Nat → Nat) (hg : ∀ i, i < 14 → g i < 16384) (hg2 : ∀ i, i < 14 → g2 i < 16384) (hok : okF g ff) : WRv l yX3_follow (wsq yX3_follow cX3_follow 2 none) (rmL 4) Γ [.ref oa, .ref a2] [(oa, .inr (3, [.ref oz, .ref oq])), (oz, .inr (1, [.ref oe])), (oe, .inl (Γ.2 0, 14, .inl (aN g))), (oq, .inl (Γ.2 0, 16384, .inl (aN ff))), (a2, .inr (1, [.ref e2])), (e2, .inl (Γ.2 0, 14, .inl (aN g2)))] (fun u : (Nat → Nat) × (Nat → Nat) => [(oa, .inr (3, [.ref oz, .ref oq])), (oz, .inr (1, [.ref oe])), (oe, .inl (Γ.2 0, 14, .inl (aN u.1))), (oq, .inl (Γ.2 0, 16384, .inl (aN u.2))), (a2, .inr (1, [.ref e2])), (e2, .inl (Γ.2 0, 14, .inl (aN g2)))]) (fun u : (Nat → Nat) × (Nat → Nat) => okF u.1 u.2 ∧ ∀ i, i < 14 → u.1 i = g2 i) := by
  refine wr_ofv (cc := cX3_follow) (maxL := 2) (by decide +kernel) (Nat.le_of_ble_eq_true rfl) rfl ?_
  intro p ev R st mi args below meth cd Q A ls C0 hR hret hP hD hS hl
  obtain ⟨hx, hb, hr, hml, hown, hts, hlk, hK, hnm⟩ := C0
  have hown : st.vm.findClass RX3 = some mi.cls := hown
  refine lv_aload_n hx hb dX3_follow_0 rfl (lv_at hl 0 rfl) ?_
  refine va_get (D := Γ.1) (ci := 3) (v := .ref oz) (C := RX3) (T := TX3) (N := 2) hx hb hts hinX3 hown hK.1 hP 0 rfl rfl 0 (by decide) (hts _ mw_128) (fun _ h9 => h9) rfl dX3_follow_1 ?_
  refine lv_aload_n hx hb dX3_follow_4 rfl (lv_at hl 1 rfl) ?_
  refine ro_fin (va_runVN (As := [.ref a2]) (rest := []) ⟨hx, hb, hml, hown, hts⟩ (c_X1_isLike l Γ _ oz oe g a2 e2 g2 (hP.sub (ws' := [(oz, .inr (1, [.ref oe])), (oe, .inl (Γ.2 0, 14, .inl (aN g))), (a2, .inr (1, [.ref e2])), (e2, .inl (Γ.2 0, 14, .inl (aN g2)))]) [1, 2, 4, 5] rfl) (by first | omega | assumption) (by first | omega | assumption)) (kcwVN 1 hts kv_X1_isLike (hK.nw _ (nwL_at 60 rfl)) (rm_le hR (Nat.le_of_ble_eq_true rfl) (Nat.le_of_ble_eq_true rfl))) (kPc_V hK (va_recv hK.1 hP (ci := 1) (q0 := 1) rfl rfl)) rfl rfl hl.1 rfl (lv_room (Nat.le_of_ble_eq_true rfl)) dX3_follow_5 ⟨Nat.zero_le _, Nat.zero_le _⟩) hS (fun locs hS => ?_)
  refine nb_ifb_ne (tgt := 27) hx hb dX3_follow_8 (by decide) (fun c_8 => ?_) (fun c_8 => ?_)
  · skip
    exact hret (g, ff) hP hS (⟨hok, (gLike_iff 14).mp c_8⟩) dX3_follow_27
  · skip
    refine lv_aload_n hx hb dX3_follow_11 rfl (lv_at hl 0 rfl) ?_
    refine va_get (D := Γ.1) (ci := 3) (v := .ref oz) (C := RX3) (T := TX3) (N := 2) hx hb hts hinX3 hown hK.1 hP 0 rfl rfl 0 (by decide) (hts _ mw_128) (fun _ h9 => h9) rfl dX3_follow_12 ?_
    refine lv_aload_n hx hb dX3_follow_15 rfl (lv_at hl 1 rfl) ?_
    refine wr_finv (va_runVN (As := [.ref a2]) (rest := []) ⟨hx, hb, hml, hown, hts⟩ (c_X1_copyFrom l Γ oz oe g a2 e2 g2 ) (kcwVN 1 hts kv_X1_copyFrom (hK.nw _ (nwL_at 61 rfl)) (rm_le hR (Nat.le_of_ble_eq_true rfl) (Nat.le_of_ble_eq_true rfl))) (kPw_V hK (va_recv hK.1 hP (ci := 1) (q0 := 1) rfl rfl) (hP.sub (ws' := [(oz, .inr (1, [.ref oe])), (oe, .inl (Γ.2 0, 14, .inl (aN g))), (a2, .inr (1, [.ref e2])), (e2, .inl (Γ.2 0, 14, .inl (aN g2)))]) [1, 2, 4, 5] rfl) (hD.sub (ws' := [(oz, .inr (1, [.ref oe])), (oe, .inl (Γ.2 0, 14, .inl (aN g))), (a2, .inr (1, [.ref e2])), (e2, .inl (Γ.2 0, 14, .inl (aN g2)))]) [1, 2, 4, 5] (by decide) rfl)) rfl rfl hl.1 rfl (lv_room (Nat.le_of_ble_eq_true rfl)) dX3_follow_16 ⟨Nat.zero_le _, Nat.zero_le _⟩) hP hD hS [1, 2, 4, 5] rfl (fun _ => rfl) (fun _ H locs hw hP hD hS => ?_)
    have hP : va_P Γ.1 vwCl [(oa, .inr (3, [.ref oz, .ref oq])), (oz, .inr (1, [.ref oe])), (oe, .inl (Γ.2 0, 14, .inl (aN g2))), (oq, .inl (Γ.2 0, 16384, .inl (aN ff))), (a2, .inr (1, [.ref e2])), (e2, .inl (Γ.2 0, 14, .inl (aN g2)))] H := hP
    have hD : va_D A [(oa, .inr (3, [.ref oz, .ref oq])), (oz, .inr (1, [.ref oe])), (oe, .inl (Γ.2 0, 14, .inl (aN g2))), (oq, .inl (Γ.2 0, 16384, .inl (aN ff))), (a2, .inr (1, [.ref e2])), (e2, .inl (Γ.2 0, 14, .inl (aN g2)))] := hD
    refine lv_aload_n hx hb dX3_follow_19 rfl (lv_at hl 0 rfl) ?_
    refine va_get (D := Γ.1) (ci := 3) (v := .ref oq) (C := RX3) (T := TX3) (N := 2) hx hb hts hinX3 hown hK.1 hP 0 rfl rfl 1 (by decide) (hts _ mw_129) (fun _ h9 => h9) rfl dX3_follow_20 ?_
    refine lv_iconst (v := (nI 0)) hx hb dX3_follow_23 (by decide) ?_
    refine wr_finv (va_runS (As := [.ref oq, .int (nI 0)]) (rest := []) ⟨hx, hb, hml, hown, hts⟩ (c_J7_fill_53178 l Γ oq ff 16384 0 (by decide)) (kcwS 2 hts kv_J7_fill_53178 mw_133 (rm_le hR (Nat.le_of_ble_eq_true rfl) (Nat.le_of_ble_eq_true rfl))) (kPw_S hK (hP.sub (ws' := [(oq, .inl (Γ.2 0, 16384, .inl (aN ff)))]) [3] rfl) (hD.sub (ws' := [(oq, .inl (Γ.2 0, 16384, .inl (aN ff)))]) [3] (by decide) rfl)) rfl rfl hl.1 rfl (lv_room (Nat.le_of_ble_eq_true rfl)) dX3_follow_24 ⟨Nat.zero_le _, Nat.zero_le _⟩) hP hD hS [3] rfl (fun _ => rfl) (fun _ H locs hw hP hD hS => ?_)
    have hP : va_P Γ.1 vwCl [(oa, .inr (3, [.ref oz, .ref oq])), (oz, .inr (1, [.ref oe])), (oe, .inl (Γ.2 0, 14, .inl (aN g2))), (oq, .inl (Γ.2 0, 16384, .inl (aN (flN ff 0 16384)))), (a2, .inr (1, [.ref e2])), (e2, .inl (Γ.2 0, 14, .inl (aN g2)))] H := hP
    have hD : va_D A [(oa, .inr (3, [.ref oz, .ref oq])), (oz, .inr (1, [.ref oe])), (oe, .inl (Γ.2 0, 14, .inl (aN g2))), (oq, .inl (Γ.2 0, 16384, .inl (aN (flN ff 0 16384)))), (a2, .inr (1, [.ref e2])), (e2, .inl (Γ.2 0, 14, .inl (aN g2)))] := hD
    exact hret (g2, fun _ => 0) (va_P_arr (k := 3) hP rfl (fun i hi => by simp [aN, flN, hi])) hS (⟨fun S9 _ => okE_0 g2 S9, fun _ _ => rfl⟩) dX3_follow_27
