theorem isN_f {n : Nat} {x : Int32} (hn : n ≤ 14) (h : isN n x = false) (h0 : ¬ x < 0) (h1 : x < nI n) : False := by
  rw [isN, decide_eq_false_iff_not] at h
  rw [Int32.lt_iff_toInt_lt] at h0 h1
  rw [nI_toInt (by omega)] at h1
  have e0 : (0 : Int32).toInt = 0 := by decide
  omega
theorem bl_f {b : Nat} {x : Int32} (hb : b < 1000) (h : ¬ (nI 0 ≤ x ∧ x ≤ nI b)) (h0 : ¬ x < 0) (h1 : x < nI (b + 1)) : False := by
  rw [Int32.lt_iff_toInt_lt] at h0 h1
  rw [Int32.le_iff_toInt_le, Int32.le_iff_toInt_le, nI_toInt (by omega), nI_toInt (by omega)] at h
  rw [nI_toInt (by omega)] at h1
  have e0 : (0 : Int32).toInt = 0 := by decide
  omega
theorem trA_no {g : Nat → Nat} {W k : Nat} (hW : W < 16384) (hk : trC g W ≤ k) : trA g W k = 0 := trA_up (trC_spec g hW).2.1 hk
set_option maxHeartbeats 8000000 in
set_option maxRecDepth 100000 in
theorem c_X6_requireNode_x (l : Launch) (hls : l.stackTraces = false) (Γ : kG) (xa : Nat) (xs : Nat) (xk : Nat) (ha : Nat) (ta : Nat) (sa : Nat) (oa : Nat) (pa : Nat) (ja : Nat) (fa : Nat) (n0 : Nat) (th0 : Nat) (mv0 : Nat) (a : Nat) (e : Nat) (g : Nat → Nat) (x0 : Int32) (hn0 : n0 ≤ 14) (hx0 : isN n0 x0 = false) : WX l yX6_requireNode (wsq yX6_requireNode cX6_requireNode 2 none) (rmX 6 1 6) Γ [.ref xa, .int x0] [(xa, .inr (6, [.ref fa, .ref xs, .ref xk, .ref ha, .ref ta, .ref sa, .ref oa, .ref pa, .ref ja])), (fa, .inr (0, [.ref a, .int (nI n0), .int (nI th0), .int (nI mv0)])), (a, .inr (1, [.ref e])), (e, .inl (Γ.2 0, 14, .inl (aN g)))] jIO := by
  refine xt_of (cc := cX6_requireNode) (maxL := 2) (by decide +kernel) (Nat.le_of_ble_eq_true rfl) rfl ?_
  intro p ev R st mi args below meth cd Q A ls C0 hR hret hP hD hS hl
  obtain ⟨hx, hb, hr, hml, hown, hts, hlk, hK, hnm⟩ := C0
  have hown : st.vm.findClass RX6 = some mi.cls := hown
  obtain ⟨rfl, htb, hXS⟩ := hret
  refine lv_iload_n hx hb dX6_requireNode_0 rfl (lv_at hl 1 rfl) ?_
  refine lv_if_lt (tgt := 15) hx hb dX6_requireNode_1 (by decide) (fun c_1 => ?_) (fun c_1 => ?_)
  · skip
    exact xt_thrW hx hb hml hown hts hlk hls htb hXS hR (Nat.le_of_ble_eq_true rfl) hP hS hl.1 xE_IO (text := "there is no such node") (is := 302) (by decide +kernel) dX6_requireNode_15 dX6_requireNode_18 dX6_requireNode_19 dX6_requireNode_22 dX6_requireNode_25
  · skip
    refine lv_iload_n hx hb dX6_requireNode_4 rfl (lv_at hl 1 rfl) ?_
    refine lv_aload_n hx hb dX6_requireNode_5 rfl (lv_at hl 0 rfl) ?_
    refine va_get (D := Γ.1) (ci := 6) (v := .ref fa) (C := RX6) (T := TX6) (N := 9) hx hb hts hinX6 hown hK.1 hP 0 rfl rfl 0 (by decide) (hts _ mw_209) (fun _ h9 => h9) rfl dX6_requireNode_6 ?_
    refine va_getN (host := "TreeKayles") (D := Γ.1) (ci := 0) (v := .int (nI n0)) (C := RX0) (T := TX0) (N := 4) hx hb hts hinX0 hown hK.1 hP 1 rfl rfl 1 (by decide) (va_Nw.use rfl (hK.nw _ (nwL_at 4 rfl))) (fun _ h9 => h9) rfl dX6_requireNode_9 ?_
    refine lv_icmp_lt (tgt := 26) hx hb dX6_requireNode_12 (by decide) (fun c_12 => by exfalso; exact isN_f hn0 hx0 c_1 c_12) (fun c_12 => ?_)
    exact xt_thrW hx hb hml hown hts hlk hls htb hXS hR (Nat.le_of_ble_eq_true rfl) hP hS hl.1 xE_IO (text := "there is no such node") (is := 302) (by decide +kernel) dX6_requireNode_15 dX6_requireNode_18 dX6_requireNode_19 dX6_requireNode_22 dX6_requireNode_25
set_option maxHeartbeats 8000000 in
set_option maxRecDepth 100000 in
theorem c_X6_requireThere_x (l : Launch) (hls : l.stackTraces = false) (Γ : kG) (xa : Nat) (xs : Nat) (xk : Nat) (ha : Nat) (ta : Nat) (sa : Nat) (oa : Nat) (pa : Nat) (ja : Nat) (fa : Nat) (n0 : Nat) (th0 : Nat) (mv0 : Nat) (a : Nat) (e : Nat) (g : Nat → Nat) (v0 : Nat) (hn0 : n0 ≤ 14) (hth : th0 < 2 ^ n0) (hv0 : v0 < n0) (hb0 : th0.testBit v0 = false) : WX l yX6_requireThere (wsq yX6_requireThere cX6_requireThere 2 none) (rmX 6 1 6) Γ [.ref xa, .int (nI v0)] [(xa, .inr (6, [.ref fa, .ref xs, .ref xk, .ref ha, .ref ta, .ref sa, .ref oa, .ref pa, .ref ja])), (fa, .inr (0, [.ref a, .int (nI n0), .int (nI th0), .int (nI mv0)])), (a, .inr (1, [.ref e])), (e, .inl (Γ.2 0, 14, .inl (aN g)))] jIS := by
  refine xt_of (cc := cX6_requireThere) (maxL := 2) (by decide +kernel) (Nat.le_of_ble_eq_true rfl) rfl ?_
  intro p ev R st mi args below meth cd Q A ls C0 hR hret hP hD hS hl
  obtain ⟨hx, hb, hr, hml, hown, hts, hlk, hK, hnm⟩ := C0
  have hown : st.vm.findClass RX6 = some mi.cls := hown
  obtain ⟨rfl, htb, hXS⟩ := hret
  have hw14 := w14 hth hn0
  refine lv_aload_n hx hb dX6_requireThere_0 rfl (lv_at hl 0 rfl) ?_
  refine va_get (D := Γ.1) (ci := 6) (v := .ref fa) (C := RX6) (T := TX6) (N := 9) hx hb hts hinX6 hown hK.1 hP 0 rfl rfl 0 (by decide) (hts _ mw_209) (fun _ h9 => h9) rfl dX6_requireThere_1 ?_
  refine lv_iload_n hx hb dX6_requireThere_4 rfl (lv_at hl 1 rfl) ?_
  refine ro_fin (va_runVN (As := [.int (nI v0)]) (rest := []) ⟨hx, hb, hml, hown, hts⟩ (c_X0_isThere l Γ _ fa n0 th0 mv0 a e g v0 (hP.sub (ws' := [(fa, .inr (0, [.ref a, .int (nI n0), .int (nI th0), .int (nI mv0)])), (a, .inr (1, [.ref e])), (e, .inl (Γ.2 0, 14, .inl (aN g)))]) [1, 2, 3] rfl) (hw14) (by omega)) (kcwVN 1 hts kv_X0_isThere (hK.nw _ (nwL_at 21 rfl)) (rm_le hR (Nat.le_of_ble_eq_true rfl) (Nat.le_of_ble_eq_true rfl))) (kPc_V hK (va_recv hK.1 hP (ci := 0) (q0 := 1) rfl rfl)) rfl rfl hl.1 rfl (lv_room (Nat.le_of_ble_eq_true rfl)) dX6_requireThere_5 ⟨Nat.zero_le _, Nat.zero_le _⟩) hS (fun locs hS => ?_)
  refine tp_i (y := (bI false)) (by rw [hb0]) ?_
  refine nb_ifb_ne (tgt := 22) hx hb dX6_requireThere_8 (by decide) (fun c_8 => by exfalso; exact absurd c_8 (by decide)) (fun c_8 => ?_)
  exact xt_thrW hx hb hml hown hts hlk hls htb hXS hR (Nat.le_of_ble_eq_true rfl) hP hS hl.1 xE_IS (text := "the node was taken") (is := 304) (by decide +kernel) dX6_requireThere_11 dX6_requireThere_14 dX6_requireThere_15 dX6_requireThere_18 dX6_requireThere_21
set_option maxHeartbeats 8000000 in
set_option maxRecDepth 100000 in
theorem c_X6_requireSlot_x (l : Launch) (hls : l.stackTraces = false) (Γ : kG) (x0 : Int32) (hx0 : ¬ (nI 0 ≤ x0 ∧ x0 ≤ nI 1)) : WX l yX6_requireSlot (wsq yX6_requireSlot cX6_requireSlot 1 none) (rmX 6 1 6) Γ [.int x0] [] jIA := by
  refine xt_of (cc := cX6_requireSlot) (maxL := 1) (by decide +kernel) (Nat.le_of_ble_eq_true rfl) rfl ?_
  intro p ev R st mi args below meth cd Q A ls C0 hR hret hP hD hS hl
  obtain ⟨hx, hb, hr, hml, hown, hts, hlk, hK, hnm⟩ := C0
  have hown : st.vm.findClass RX6 = some mi.cls := hown
  obtain ⟨rfl, htb, hXS⟩ := hret
  refine lv_iload_n hx hb dX6_requireSlot_0 rfl (lv_at hl 0 rfl) ?_
  refine lv_if_lt (tgt := 9) hx hb dX6_requireSlot_1 (by decide) (fun c_1 => ?_) (fun c_1 => ?_)
  · skip
    exact xt_thrW hx hb hml hown hts hlk hls htb hXS hR (Nat.le_of_ble_eq_true rfl) hP hS hl.1 xE_IA (text := "the slot is out of range") (is := 306) (by decide +kernel) dX6_requireSlot_9 dX6_requireSlot_12 dX6_requireSlot_13 dX6_requireSlot_16 dX6_requireSlot_19
  · skip
    refine lv_iload_n hx hb dX6_requireSlot_4 rfl (lv_at hl 0 rfl) ?_
    refine lv_iconst (v := (nI 2)) hx hb dX6_requireSlot_5 (by decide) ?_
    refine lv_icmp_lt (tgt := 20) hx hb dX6_requireSlot_6 (by decide) (fun c_6 => by exfalso; exact bl_f (b := 1) (by omega) hx0 c_1 c_6) (fun c_6 => ?_)
    exact xt_thrW hx hb hml hown hts hlk hls htb hXS hR (Nat.le_of_ble_eq_true rfl) hP hS hl.1 xE_IA (text := "the slot is out of range") (is := 306) (by decide +kernel) dX6_requireSlot_9 dX6_requireSlot_12 dX6_requireSlot_13 dX6_requireSlot_16 dX6_requireSlot_19
set_option maxHeartbeats 8000000 in
set_option maxRecDepth 100000 in
theorem c_X6_requireBelow_x (l : Launch) (hls : l.stackTraces = false) (Γ : kG) (x0 : Int32) (b0 : Nat) (hb0 : b0 < 100) (hx0 : ¬ (nI 0 ≤ x0 ∧ x0 ≤ nI (b0 - 1))) (hb1 : 0 < b0) : WX l yX6_requireBelow (wsq yX6_requireBelow cX6_requireBelow 2 none) (rmX 6 1 6) Γ [.int x0, .int (nI b0)] [] jIA := by
  refine xt_of (cc := cX6_requireBelow) (maxL := 2) (by decide +kernel) (Nat.le_of_ble_eq_true rfl) rfl ?_
  intro p ev R st mi args below meth cd Q A ls C0 hR hret hP hD hS hl
  obtain ⟨hx, hb, hr, hml, hown, hts, hlk, hK, hnm⟩ := C0
  have hown : st.vm.findClass RX6 = some mi.cls := hown
  obtain ⟨rfl, htb, hXS⟩ := hret
  refine lv_iload_n hx hb dX6_requireBelow_0 rfl (lv_at hl 0 rfl) ?_
  refine lv_if_lt (tgt := 9) hx hb dX6_requireBelow_1 (by decide) (fun c_1 => ?_) (fun c_1 => ?_)
  · skip
    exact xt_thrW hx hb hml hown hts hlk hls htb hXS hR (Nat.le_of_ble_eq_true rfl) hP hS hl.1 xE_IA (text := "there is nothing of this number to tell") (is := 308) (by decide +kernel) dX6_requireBelow_9 dX6_requireBelow_12 dX6_requireBelow_13 dX6_requireBelow_16 dX6_requireBelow_19
  · skip
    refine lv_iload_n hx hb dX6_requireBelow_4 rfl (lv_at hl 0 rfl) ?_
    refine lv_iload_n hx hb dX6_requireBelow_5 rfl (lv_at hl 1 rfl) ?_
    refine lv_icmp_lt (tgt := 20) hx hb dX6_requireBelow_6 (by decide) (fun c_6 => by exfalso; exact bl_f (b := b0 - 1) (by omega) hx0 c_1 (by rw [Nat.sub_add_cancel hb1]; exact c_6)) (fun c_6 => ?_)
    exact xt_thrW hx hb hml hown hts hlk hls htb hXS hR (Nat.le_of_ble_eq_true rfl) hP hS hl.1 xE_IA (text := "there is nothing of this number to tell") (is := 308) (by decide +kernel) dX6_requireBelow_9 dX6_requireBelow_12 dX6_requireBelow_13 dX6_requireBelow_16 dX6_requireBelow_19
set_option maxHeartbeats 8000000 in
set_option maxRecDepth 100000 in
theorem c_X6_node_x (l : Launch) (hls : l.stackTraces = false) (Γ : kG) (xa : Nat) (xs : Nat) (xk : Nat) (ha : Nat) (ta : Nat) (sa : Nat) (oa : Nat) (pa : Nat) (ja : Nat) (fa : Nat) (n0 : Nat) (th0 : Nat) (mv0 : Nat) (a : Nat) (e : Nat) (g : Nat → Nat) (x0 : Int32) (hn0 : n0 ≤ 14) (hne : x0 ≠ -1) (hx0 : isN n0 x0 = false) : WX l yX6_node (wsq yX6_node cX6_node 2 (some .int)) (rmX 8 1 6) Γ [.ref xa, .int x0] [(xa, .inr (6, [.ref fa, .ref xs, .ref xk, .ref ha, .ref ta, .ref sa, .ref oa, .ref pa, .ref ja])), (fa, .inr (0, [.ref a, .int (nI n0), .int (nI th0), .int (nI mv0)])), (a, .inr (1, [.ref e])), (e, .inl (Γ.2 0, 14, .inl (aN g)))] jIO := by
  refine xt_of (cc := cX6_node) (maxL := 2) (by decide +kernel) (Nat.le_of_ble_eq_true rfl) rfl ?_
  intro p ev R st mi args below meth cd Q A ls C0 hR hret hP hD hS hl
  obtain ⟨hx, hb, hr, hml, hown, hts, hlk, hK, hnm⟩ := C0
  have hown : st.vm.findClass RX6 = some mi.cls := hown
  obtain ⟨rfl, htb, hXS⟩ := hret
  refine lv_iload_n hx hb dX6_node_0 rfl (lv_at hl 1 rfl) ?_
  refine lv_iconst (v := (-1)) hx hb dX6_node_1 (by decide) ?_
  refine lv_icmp_eq (tgt := 10) hx hb dX6_node_2 (by decide) (fun c_2 => by exfalso; exact hne c_2) (fun c_2 => ?_)
  refine lv_aload_n hx hb dX6_node_5 rfl (lv_at hl 0 rfl) ?_
  refine lv_iload_n hx hb dX6_node_6 rfl (lv_at hl 1 rfl) ?_
  exact xt_prop (vx_runV (As := [.int x0]) (rest := []) ⟨hx, hb, hml, hown, hts⟩ (c_X6_requireNode_x l hls Γ xa xs xk ha ta sa oa pa ja fa n0 th0 mv0 a e g x0 (by first | omega | assumption) (hx0)) (kcwV 1 hts kv_X6_requireNode mw_240 (rm_le hR (Nat.le_of_ble_eq_true rfl) (Nat.le_of_ble_eq_true rfl))) (kPx_V hK (va_recv hK.1 hP (ci := 6) (q0 := 0) rfl rfl) (hP.sub (ws' := [(xa, .inr (6, [.ref fa, .ref xs, .ref xk, .ref ha, .ref ta, .ref sa, .ref oa, .ref pa, .ref ja])), (fa, .inr (0, [.ref a, .int (nI n0), .int (nI th0), .int (nI mv0)])), (a, .inr (1, [.ref e])), (e, .inl (Γ.2 0, 14, .inl (aN g)))]) [0, 1, 2, 3] rfl) (hD.sub (ws' := [(xa, .inr (6, [.ref fa, .ref xs, .ref xk, .ref ha, .ref ta, .ref sa, .ref oa, .ref pa, .ref ja])), (fa, .inr (0, [.ref a, .int (nI n0), .int (nI th0), .int (nI mv0)])), (a, .inr (1, [.ref e])), (e, .inl (Γ.2 0, 14, .inl (aN g)))]) [0, 1, 2, 3] (by decide +kernel) rfl) hXS hS) rfl rfl hl.1 rfl (lv_room (Nat.le_of_ble_eq_true rfl)) dX6_node_7 (by rw [hR]; exact ⟨Nat.le_refl _, Nat.le_refl _⟩)) hlk htb hP hD hS [0, 1, 2, 3] rfl rfl
set_option maxHeartbeats 8000000 in
set_option maxRecDepth 100000 in
theorem c_X6_node_f (l : Launch) (hls : l.stackTraces = false) (Γ : kG) (xa : Nat) (xs : Nat) (xk : Nat) (ha : Nat) (ta : Nat) (sa : Nat) (oa : Nat) (pa : Nat) (ja : Nat) (fa : Nat) (n0 : Nat) (th0 : Nat) (mv0 : Nat) (a : Nat) (e : Nat) (g : Nat → Nat) (hn1 : n0 = 14) : WX l yX6_node (wsq yX6_node cX6_node 2 (some .int)) (rmX 8 1 6) Γ [.ref xa, .int (-1)] [(xa, .inr (6, [.ref fa, .ref xs, .ref xk, .ref ha, .ref ta, .ref sa, .ref oa, .ref pa, .ref ja])), (fa, .inr (0, [.ref a, .int (nI n0), .int (nI th0), .int (nI mv0)])), (a, .inr (1, [.ref e])), (e, .inl (Γ.2 0, 14, .inl (aN g)))] jIS := by
  refine xt_of (cc := cX6_node) (maxL := 2) (by decide +kernel) (Nat.le_of_ble_eq_true rfl) rfl ?_
  intro p ev R st mi args below meth cd Q A ls C0 hR hret hP hD hS hl
  obtain ⟨hx, hb, hr, hml, hown, hts, hlk, hK, hnm⟩ := C0
  have hown : st.vm.findClass RX6 = some mi.cls := hown
  obtain ⟨rfl, htb, hXS⟩ := hret
  refine lv_iload_n hx hb dX6_node_0 rfl (lv_at hl 1 rfl) ?_
  refine lv_iconst (v := (-1)) hx hb dX6_node_1 (by decide) ?_
  refine lv_icmp_eq (tgt := 10) hx hb dX6_node_2 (by decide) (fun c_2 => ?_) (fun c_2 => by exfalso; first | exact c_2 rfl | simp_all)
  refine lv_aload_n hx hb dX6_node_10 rfl (lv_at hl 0 rfl) ?_
  refine va_get (D := Γ.1) (ci := 6) (v := .ref fa) (C := RX6) (T := TX6) (N := 9) hx hb hts hinX6 hown hK.1 hP 0 rfl rfl 0 (by decide) (hts _ mw_209) (fun _ h9 => h9) rfl dX6_node_11 ?_
  refine va_getN (host := "TreeKayles") (D := Γ.1) (ci := 0) (v := .int (nI n0)) (C := RX0) (T := TX0) (N := 4) hx hb hts hinX0 hown hK.1 hP 1 rfl rfl 1 (by decide) (va_Nw.use rfl (hK.nw _ (nwL_at 4 rfl))) (fun _ h9 => h9) rfl dX6_node_14 ?_
  refine lv_bipush (v := (nI 14)) hx hb dX6_node_17 (by decide) ?_
  refine nb_icmp_lt (tgt := 32) hx hb (by first | omega | assumption) (by first | omega | assumption) dX6_node_19 (by decide) (fun c_19 => by exfalso; omega) (fun c_19 => ?_)
  exact xt_thr hx hb hml hown hts hlk hls htb hXS hR (Nat.le_of_ble_eq_true rfl) hP hS hl.1 xE_IS (text := "there is no room for a further node") (is := 72) (by decide +kernel) dX6_node_22 dX6_node_25 dX6_node_26 dX6_node_28 dX6_node_31
set_option maxHeartbeats 8000000 in
set_option maxRecDepth 100000 in
theorem c_X6_node_g (l : Launch) (hls : l.stackTraces = false) (Γ : kG) (xa : Nat) (xs : Nat) (xk : Nat) (ha : Nat) (ta : Nat) (sa : Nat) (oa : Nat) (pa : Nat) (ja : Nat) (fa : Nat) (n0 : Nat) (th0 : Nat) (mv0 : Nat) (a : Nat) (e : Nat) (g : Nat → Nat) (v0 : Nat) (hn1 : n0 = 14) (hv0 : v0 < n0) : WX l yX6_node (wsq yX6_node cX6_node 2 (some .int)) (rmX 8 1 6) Γ [.ref xa, .int (nI v0)] [(xa, .inr (6, [.ref fa, .ref xs, .ref xk, .ref ha, .ref ta, .ref sa, .ref oa, .ref pa, .ref ja])), (fa, .inr (0, [.ref a, .int (nI n0), .int (nI th0), .int (nI mv0)])), (a, .inr (1, [.ref e])), (e, .inl (Γ.2 0, 14, .inl (aN g)))] jIS := by
  refine xt_of (cc := cX6_node) (maxL := 2) (by decide +kernel) (Nat.le_of_ble_eq_true rfl) rfl ?_
  intro p ev R st mi args below meth cd Q A ls C0 hR hret hP hD hS hl
  obtain ⟨hx, hb, hr, hml, hown, hts, hlk, hK, hnm⟩ := C0
  have hown : st.vm.findClass RX6 = some mi.cls := hown
  obtain ⟨rfl, htb, hXS⟩ := hret
  refine lv_iload_n hx hb dX6_node_0 rfl (lv_at hl 1 rfl) ?_
  refine lv_iconst (v := (-1)) hx hb dX6_node_1 (by decide) ?_
  refine lv_icmp_eq (tgt := 10) hx hb dX6_node_2 (by decide) (fun c_2 => by exfalso; exact nI_m1 (by omega) c_2) (fun c_2 => ?_)
  refine lv_aload_n hx hb dX6_node_5 rfl (lv_at hl 0 rfl) ?_
  refine lv_iload_n hx hb dX6_node_6 rfl (lv_at hl 1 rfl) ?_
  refine wr_finv (va_runV (As := [.int (nI v0)]) (rest := []) ⟨hx, hb, hml, hown, hts⟩ (c_X6_requireNode_a l Γ xa xs xk ha ta sa oa pa ja fa n0 th0 mv0 a e g v0 (hv0) (by first | omega | assumption)) (kcwV 1 hts kv_X6_requireNode mw_240 (rm_le hR (Nat.le_of_ble_eq_true rfl) (Nat.le_of_ble_eq_true rfl))) (kPw_V hK (va_recv hK.1 hP (ci := 6) (q0 := 0) rfl rfl) (hP.sub (ws' := [(xa, .inr (6, [.ref fa, .ref xs, .ref xk, .ref ha, .ref ta, .ref sa, .ref oa, .ref pa, .ref ja])), (fa, .inr (0, [.ref a, .int (nI n0), .int (nI th0), .int (nI mv0)])), (a, .inr (1, [.ref e])), (e, .inl (Γ.2 0, 14, .inl (aN g)))]) [0, 1, 2, 3] rfl) (hD.sub (ws' := [(xa, .inr (6, [.ref fa, .ref xs, .ref xk, .ref ha, .ref ta, .ref sa, .ref oa, .ref pa, .ref ja])), (fa, .inr (0, [.ref a, .int (nI n0), .int (nI th0), .int (nI mv0)])), (a, .inr (1, [.ref e])), (e, .inl (Γ.2 0, 14, .inl (aN g)))]) [0, 1, 2, 3] (by decide +kernel) rfl)) rfl rfl hl.1 rfl (lv_room (Nat.le_of_ble_eq_true rfl)) dX6_node_7 ⟨Nat.zero_le _, Nat.zero_le _⟩) hP hD hS [0, 1, 2, 3] rfl (fun _ => rfl) (fun _ H locs hw hP hD hS => ?_)
  have hP : va_P Γ.1 vwCl [(xa, .inr (6, [.ref fa, .ref xs, .ref xk, .ref ha, .ref ta, .ref sa, .ref oa, .ref pa, .ref ja])), (fa, .inr (0, [.ref a, .int (nI n0), .int (nI th0), .int (nI mv0)])), (a, .inr (1, [.ref e])), (e, .inl (Γ.2 0, 14, .inl (aN g)))] H := hP
  have hD : va_D A [(xa, .inr (6, [.ref fa, .ref xs, .ref xk, .ref ha, .ref ta, .ref sa, .ref oa, .ref pa, .ref ja])), (fa, .inr (0, [.ref a, .int (nI n0), .int (nI th0), .int (nI mv0)])), (a, .inr (1, [.ref e])), (e, .inl (Γ.2 0, 14, .inl (aN g)))] := hD
  refine lv_aload_n hx hb dX6_node_10 rfl (lv_at hl 0 rfl) ?_
  refine va_get (D := Γ.1) (ci := 6) (v := .ref fa) (C := RX6) (T := TX6) (N := 9) hx hb hts hinX6 hown hK.1 hP 0 rfl rfl 0 (by decide) (hts _ mw_209) (fun _ h9 => h9) rfl dX6_node_11 ?_
  refine va_getN (host := "TreeKayles") (D := Γ.1) (ci := 0) (v := .int (nI n0)) (C := RX0) (T := TX0) (N := 4) hx hb hts hinX0 hown hK.1 hP 1 rfl rfl 1 (by decide) (va_Nw.use rfl (hK.nw _ (nwL_at 4 rfl))) (fun _ h9 => h9) rfl dX6_node_14 ?_
  refine lv_bipush (v := (nI 14)) hx hb dX6_node_17 (by decide) ?_
  refine nb_icmp_lt (tgt := 32) hx hb (by first | omega | assumption) (by first | omega | assumption) dX6_node_19 (by decide) (fun c_19 => by exfalso; omega) (fun c_19 => ?_)
  exact xt_thr hx hb hml hown hts hlk hls htb hXS hR (Nat.le_of_ble_eq_true rfl) hP hS hl.1 xE_IS (text := "there is no room for a further node") (is := 72) (by decide +kernel) dX6_node_22 dX6_node_25 dX6_node_26 dX6_node_28 dX6_node_31
set_option maxHeartbeats 8000000 in
set_option maxRecDepth 100000 in
theorem c_X6_node_t (l : Launch) (hls : l.stackTraces = false) (Γ : kG) (xa : Nat) (xs : Nat) (xk : Nat) (ha : Nat) (ta : Nat) (sa : Nat) (oa : Nat) (pa : Nat) (ja : Nat) (fa : Nat) (n0 : Nat) (th0 : Nat) (mv0 : Nat) (a : Nat) (e : Nat) (g : Nat → Nat) (v0 : Nat) (hn0 : n0 ≤ 14) (hth : th0 < 2 ^ n0) (hn1 : n0 < 14) (hv0 : v0 < n0) (hb0 : th0.testBit v0 = false) : WX l yX6_node (wsq yX6_node cX6_node 2 (some .int)) (rmX 8 1 6) Γ [.ref xa, .int (nI v0)] [(xa, .inr (6, [.ref fa, .ref xs, .ref xk, .ref ha, .ref ta, .ref sa, .ref oa, .ref pa, .ref ja])), (fa, .inr (0, [.ref a, .int (nI n0), .int (nI th0), .int (nI mv0)])), (a, .inr (1, [.ref e])), (e, .inl (Γ.2 0, 14, .inl (aN g)))] jIS := by
  refine xt_of (cc := cX6_node) (maxL := 2) (by decide +kernel) (Nat.le_of_ble_eq_true rfl) rfl ?_
  intro p ev R st mi args below meth cd Q A ls C0 hR hret hP hD hS hl
  obtain ⟨hx, hb, hr, hml, hown, hts, hlk, hK, hnm⟩ := C0
  have hown : st.vm.findClass RX6 = some mi.cls := hown
  obtain ⟨rfl, htb, hXS⟩ := hret
  refine lv_iload_n hx hb dX6_node_0 rfl (lv_at hl 1 rfl) ?_
  refine lv_iconst (v := (-1)) hx hb dX6_node_1 (by decide) ?_
  refine lv_icmp_eq (tgt := 10) hx hb dX6_node_2 (by decide) (fun c_2 => by exfalso; exact nI_m1 (by omega) c_2) (fun c_2 => ?_)
  refine lv_aload_n hx hb dX6_node_5 rfl (lv_at hl 0 rfl) ?_
  refine lv_iload_n hx hb dX6_node_6 rfl (lv_at hl 1 rfl) ?_
  refine wr_finv (va_runV (As := [.int (nI v0)]) (rest := []) ⟨hx, hb, hml, hown, hts⟩ (c_X6_requireNode_a l Γ xa xs xk ha ta sa oa pa ja fa n0 th0 mv0 a e g v0 (hv0) (by first | omega | assumption)) (kcwV 1 hts kv_X6_requireNode mw_240 (rm_le hR (Nat.le_of_ble_eq_true rfl) (Nat.le_of_ble_eq_true rfl))) (kPw_V hK (va_recv hK.1 hP (ci := 6) (q0 := 0) rfl rfl) (hP.sub (ws' := [(xa, .inr (6, [.ref fa, .ref xs, .ref xk, .ref ha, .ref ta, .ref sa, .ref oa, .ref pa, .ref ja])), (fa, .inr (0, [.ref a, .int (nI n0), .int (nI th0), .int (nI mv0)])), (a, .inr (1, [.ref e])), (e, .inl (Γ.2 0, 14, .inl (aN g)))]) [0, 1, 2, 3] rfl) (hD.sub (ws' := [(xa, .inr (6, [.ref fa, .ref xs, .ref xk, .ref ha, .ref ta, .ref sa, .ref oa, .ref pa, .ref ja])), (fa, .inr (0, [.ref a, .int (nI n0), .int (nI th0), .int (nI mv0)])), (a, .inr (1, [.ref e])), (e, .inl (Γ.2 0, 14, .inl (aN g)))]) [0, 1, 2, 3] (by decide +kernel) rfl)) rfl rfl hl.1 rfl (lv_room (Nat.le_of_ble_eq_true rfl)) dX6_node_7 ⟨Nat.zero_le _, Nat.zero_le _⟩) hP hD hS [0, 1, 2, 3] rfl (fun _ => rfl) (fun _ H locs hw hP hD hS => ?_)
  have hP : va_P Γ.1 vwCl [(xa, .inr (6, [.ref fa, .ref xs, .ref xk, .ref ha, .ref ta, .ref sa, .ref oa, .ref pa, .ref ja])), (fa, .inr (0, [.ref a, .int (nI n0), .int (nI th0), .int (nI mv0)])), (a, .inr (1, [.ref e])), (e, .inl (Γ.2 0, 14, .inl (aN g)))] H := hP
  have hD : va_D A [(xa, .inr (6, [.ref fa, .ref xs, .ref xk, .ref ha, .ref ta, .ref sa, .ref oa, .ref pa, .ref ja])), (fa, .inr (0, [.ref a, .int (nI n0), .int (nI th0), .int (nI mv0)])), (a, .inr (1, [.ref e])), (e, .inl (Γ.2 0, 14, .inl (aN g)))] := hD
  refine lv_aload_n hx hb dX6_node_10 rfl (lv_at hl 0 rfl) ?_
  refine va_get (D := Γ.1) (ci := 6) (v := .ref fa) (C := RX6) (T := TX6) (N := 9) hx hb hts hinX6 hown hK.1 hP 0 rfl rfl 0 (by decide) (hts _ mw_209) (fun _ h9 => h9) rfl dX6_node_11 ?_
  refine va_getN (host := "TreeKayles") (D := Γ.1) (ci := 0) (v := .int (nI n0)) (C := RX0) (T := TX0) (N := 4) hx hb hts hinX0 hown hK.1 hP 1 rfl rfl 1 (by decide) (va_Nw.use rfl (hK.nw _ (nwL_at 4 rfl))) (fun _ h9 => h9) rfl dX6_node_14 ?_
  refine lv_bipush (v := (nI 14)) hx hb dX6_node_17 (by decide) ?_
  refine nb_icmp_lt (tgt := 32) hx hb (by first | omega | assumption) (by first | omega | assumption) dX6_node_19 (by decide) (fun c_19 => ?_) (fun c_19 => by exfalso; omega)
  refine lv_iload_n hx hb dX6_node_32 rfl (lv_at hl 1 rfl) ?_
  refine lv_iconst (v := (-1)) hx hb dX6_node_33 (by decide) ?_
  refine lv_icmp_eq (tgt := 42) hx hb dX6_node_34 (by decide) (fun c_34 => by exfalso; exact nI_m1 (by omega) c_34) (fun c_34 => ?_)
  refine lv_aload_n hx hb dX6_node_37 rfl (lv_at hl 0 rfl) ?_
  refine lv_iload_n hx hb dX6_node_38 rfl (lv_at hl 1 rfl) ?_
  exact xt_prop (vx_runV (As := [.int (nI v0)]) (rest := []) ⟨hx, hb, hml, hown, hts⟩ (c_X6_requireThere_x l hls Γ xa xs xk ha ta sa oa pa ja fa n0 th0 mv0 a e g v0 (by first | omega | assumption) (by first | omega | assumption) (by first | omega | assumption) (by first | omega | assumption)) (kcwV 1 hts kv_X6_requireThere mw_243 (rm_le hR (Nat.le_of_ble_eq_true rfl) (Nat.le_of_ble_eq_true rfl))) (kPx_V hK (va_recv hK.1 hP (ci := 6) (q0 := 0) rfl rfl) (hP.sub (ws' := [(xa, .inr (6, [.ref fa, .ref xs, .ref xk, .ref ha, .ref ta, .ref sa, .ref oa, .ref pa, .ref ja])), (fa, .inr (0, [.ref a, .int (nI n0), .int (nI th0), .int (nI mv0)])), (a, .inr (1, [.ref e])), (e, .inl (Γ.2 0, 14, .inl (aN g)))]) [0, 1, 2, 3] rfl) (hD.sub (ws' := [(xa, .inr (6, [.ref fa, .ref xs, .ref xk, .ref ha, .ref ta, .ref sa, .ref oa, .ref pa, .ref ja])), (fa, .inr (0, [.ref a, .int (nI n0), .int (nI th0), .int (nI mv0)])), (a, .inr (1, [.ref e])), (e, .inl (Γ.2 0, 14, .inl (aN g)))]) [0, 1, 2, 3] (by decide +kernel) rfl) hXS hS) rfl rfl hl.1 rfl (lv_room (Nat.le_of_ble_eq_true rfl)) dX6_node_39 (by rw [hR]; exact ⟨Nat.le_refl _, Nat.le_refl _⟩)) hlk htb hP hD hS [0, 1, 2, 3] rfl rfl
set_option maxHeartbeats 8000000 in
set_option maxRecDepth 100000 in
theorem c_X6_join_x (l : Launch) (hls : l.stackTraces = false) (Γ : kG) (xa : Nat) (xs : Nat) (xk : Nat) (ha : Nat) (ta : Nat) (sa : Nat) (oa : Nat) (pa : Nat) (ja : Nat) (fa : Nat) (n0 : Nat) (th0 : Nat) (mv0 : Nat) (a : Nat) (e : Nat) (g : Nat → Nat) (x0 : Int32) (y0 : Int32) (hn0 : n0 ≤ 14) (hx0 : isN n0 x0 = false) : WX l yX6_join (wsq yX6_join cX6_join 3 (some .int)) (rmX 8 1 6) Γ [.ref xa, .int x0, .int y0] [(xa, .inr (6, [.ref fa, .ref xs, .ref xk, .ref ha, .ref ta, .ref sa, .ref oa, .ref pa, .ref ja])), (fa, .inr (0, [.ref a, .int (nI n0), .int (nI th0), .int (nI mv0)])), (a, .inr (1, [.ref e])), (e, .inl (Γ.2 0, 14, .inl (aN g)))] jIO := by
  refine xt_of (cc := cX6_join) (maxL := 3) (by decide +kernel) (Nat.le_of_ble_eq_true rfl) rfl ?_
  intro p ev R st mi args below meth cd Q A ls C0 hR hret hP hD hS hl
  obtain ⟨hx, hb, hr, hml, hown, hts, hlk, hK, hnm⟩ := C0
  have hown : st.vm.findClass RX6 = some mi.cls := hown
  obtain ⟨rfl, htb, hXS⟩ := hret
  refine lv_aload_n hx hb dX6_join_0 rfl (lv_at hl 0 rfl) ?_
  refine lv_iload_n hx hb dX6_join_1 rfl (lv_at hl 1 rfl) ?_
  exact xt_prop (vx_runV (As := [.int x0]) (rest := []) ⟨hx, hb, hml, hown, hts⟩ (c_X6_requireNode_x l hls Γ xa xs xk ha ta sa oa pa ja fa n0 th0 mv0 a e g x0 (by first | omega | assumption) (hx0)) (kcwV 1 hts kv_X6_requireNode mw_240 (rm_le hR (Nat.le_of_ble_eq_true rfl) (Nat.le_of_ble_eq_true rfl))) (kPx_V hK (va_recv hK.1 hP (ci := 6) (q0 := 0) rfl rfl) (hP.sub (ws' := [(xa, .inr (6, [.ref fa, .ref xs, .ref xk, .ref ha, .ref ta, .ref sa, .ref oa, .ref pa, .ref ja])), (fa, .inr (0, [.ref a, .int (nI n0), .int (nI th0), .int (nI mv0)])), (a, .inr (1, [.ref e])), (e, .inl (Γ.2 0, 14, .inl (aN g)))]) [0, 1, 2, 3] rfl) (hD.sub (ws' := [(xa, .inr (6, [.ref fa, .ref xs, .ref xk, .ref ha, .ref ta, .ref sa, .ref oa, .ref pa, .ref ja])), (fa, .inr (0, [.ref a, .int (nI n0), .int (nI th0), .int (nI mv0)])), (a, .inr (1, [.ref e])), (e, .inl (Γ.2 0, 14, .inl (aN g)))]) [0, 1, 2, 3] (by decide +kernel) rfl) hXS hS) rfl rfl hl.1 rfl (lv_room (Nat.le_of_ble_eq_true rfl)) dX6_join_2 (by rw [hR]; exact ⟨Nat.le_refl _, Nat.le_refl _⟩)) hlk htb hP hD hS [0, 1, 2, 3] rfl rfl
set_option maxHeartbeats 8000000 in
set_option maxRecDepth 100000 in
theorem c_X6_join_y (l : Launch) (hls : l.stackTraces = false) (Γ : kG) (xa : Nat) (xs : Nat) (xk : Nat) (ha : Nat) (ta : Nat) (sa : Nat) (oa : Nat) (pa : Nat) (ja : Nat) (fa : Nat) (n0 : Nat) (th0 : Nat) (mv0 : Nat) (a : Nat) (e : Nat) (g : Nat → Nat) (i0 : Nat) (y0 : Int32) (hn0 : n0 ≤ 14) (hi0 : i0 < n0) (hy0 : isN n0 y0 = false) : WX l yX6_join (wsq yX6_join cX6_join 3 (some .int)) (rmX 8 1 6) Γ [.ref xa, .int (nI i0), .int y0] [(xa, .inr (6, [.ref fa, .ref xs, .ref xk, .ref ha, .ref ta, .ref sa, .ref oa, .ref pa, .ref ja])), (fa, .inr (0, [.ref a, .int (nI n0), .int (nI th0), .int (nI mv0)])), (a, .inr (1, [.ref e])), (e, .inl (Γ.2 0, 14, .inl (aN g)))] jIO := by
  refine xt_of (cc := cX6_join) (maxL := 3) (by decide +kernel) (Nat.le_of_ble_eq_true rfl) rfl ?_
  intro p ev R st mi args below meth cd Q A ls C0 hR hret hP hD hS hl
  obtain ⟨hx, hb, hr, hml, hown, hts, hlk, hK, hnm⟩ := C0
  have hown : st.vm.findClass RX6 = some mi.cls := hown
  obtain ⟨rfl, htb, hXS⟩ := hret
  refine lv_aload_n hx hb dX6_join_0 rfl (lv_at hl 0 rfl) ?_
  refine lv_iload_n hx hb dX6_join_1 rfl (lv_at hl 1 rfl) ?_
  refine wr_finv (va_runV (As := [.int (nI i0)]) (rest := []) ⟨hx, hb, hml, hown, hts⟩ (c_X6_requireNode_a l Γ xa xs xk ha ta sa oa pa ja fa n0 th0 mv0 a e g i0 (hi0) (by first | omega | assumption)) (kcwV 1 hts kv_X6_requireNode mw_240 (rm_le hR (Nat.le_of_ble_eq_true rfl) (Nat.le_of_ble_eq_true rfl))) (kPw_V hK (va_recv hK.1 hP (ci := 6) (q0 := 0) rfl rfl) (hP.sub (ws' := [(xa, .inr (6, [.ref fa, .ref xs, .ref xk, .ref ha, .ref ta, .ref sa, .ref oa, .ref pa, .ref ja])), (fa, .inr (0, [.ref a, .int (nI n0), .int (nI th0), .int (nI mv0)])), (a, .inr (1, [.ref e])), (e, .inl (Γ.2 0, 14, .inl (aN g)))]) [0, 1, 2, 3] rfl) (hD.sub (ws' := [(xa, .inr (6, [.ref fa, .ref xs, .ref xk, .ref ha, .ref ta, .ref sa, .ref oa, .ref pa, .ref ja])), (fa, .inr (0, [.ref a, .int (nI n0), .int (nI th0), .int (nI mv0)])), (a, .inr (1, [.ref e])), (e, .inl (Γ.2 0, 14, .inl (aN g)))]) [0, 1, 2, 3] (by decide +kernel) rfl)) rfl rfl hl.1 rfl (lv_room (Nat.le_of_ble_eq_true rfl)) dX6_join_2 ⟨Nat.zero_le _, Nat.zero_le _⟩) hP hD hS [0, 1, 2, 3] rfl (fun _ => rfl) (fun _ H locs hw hP hD hS => ?_)
  have hP : va_P Γ.1 vwCl [(xa, .inr (6, [.ref fa, .ref xs, .ref xk, .ref ha, .ref ta, .ref sa, .ref oa, .ref pa, .ref ja])), (fa, .inr (0, [.ref a, .int (nI n0), .int (nI th0), .int (nI mv0)])), (a, .inr (1, [.ref e])), (e, .inl (Γ.2 0, 14, .inl (aN g)))] H := hP
  have hD : va_D A [(xa, .inr (6, [.ref fa, .ref xs, .ref xk, .ref ha, .ref ta, .ref sa, .ref oa, .ref pa, .ref ja])), (fa, .inr (0, [.ref a, .int (nI n0), .int (nI th0), .int (nI mv0)])), (a, .inr (1, [.ref e])), (e, .inl (Γ.2 0, 14, .inl (aN g)))] := hD
  refine lv_aload_n hx hb dX6_join_5 rfl (lv_at hl 0 rfl) ?_
  refine lv_iload_n hx hb dX6_join_6 rfl (lv_at hl 2 rfl) ?_
  exact xt_prop (vx_runV (As := [.int y0]) (rest := []) ⟨hx, hb, hml, hown, hts⟩ (c_X6_requireNode_x l hls Γ xa xs xk ha ta sa oa pa ja fa n0 th0 mv0 a e g y0 (by first | omega | assumption) (hy0)) (kcwV 1 hts kv_X6_requireNode mw_240 (rm_le hR (Nat.le_of_ble_eq_true rfl) (Nat.le_of_ble_eq_true rfl))) (kPx_V hK (va_recv hK.1 hP (ci := 6) (q0 := 0) rfl rfl) (hP.sub (ws' := [(xa, .inr (6, [.ref fa, .ref xs, .ref xk, .ref ha, .ref ta, .ref sa, .ref oa, .ref pa, .ref ja])), (fa, .inr (0, [.ref a, .int (nI n0), .int (nI th0), .int (nI mv0)])), (a, .inr (1, [.ref e])), (e, .inl (Γ.2 0, 14, .inl (aN g)))]) [0, 1, 2, 3] rfl) (hD.sub (ws' := [(xa, .inr (6, [.ref fa, .ref xs, .ref xk, .ref ha, .ref ta, .ref sa, .ref oa, .ref pa, .ref ja])), (fa, .inr (0, [.ref a, .int (nI n0), .int (nI th0), .int (nI mv0)])), (a, .inr (1, [.ref e])), (e, .inl (Γ.2 0, 14, .inl (aN g)))]) [0, 1, 2, 3] (by decide +kernel) rfl) hXS hS) rfl rfl hl.1 rfl (lv_room (Nat.le_of_ble_eq_true rfl)) dX6_join_7 (by rw [hR]; exact ⟨Nat.le_refl _, Nat.le_refl _⟩)) hlk htb hP hD hS [0, 1, 2, 3] rfl rfl
set_option maxHeartbeats 8000000 in
set_option maxRecDepth 100000 in
theorem c_X6_cut_x (l : Launch) (hls : l.stackTraces = false) (Γ : kG) (xa : Nat) (xs : Nat) (xk : Nat) (ha : Nat) (ta : Nat) (sa : Nat) (oa : Nat) (pa : Nat) (ja : Nat) (fa : Nat) (n0 : Nat) (th0 : Nat) (mv0 : Nat) (a : Nat) (e : Nat) (g : Nat → Nat) (x0 : Int32) (y0 : Int32) (hn0 : n0 ≤ 14) (hx0 : isN n0 x0 = false) : WX l yX6_cut (wsq yX6_cut cX6_cut 4 (some .int)) (rmX 8 1 6) Γ [.ref xa, .int x0, .int y0] [(xa, .inr (6, [.ref fa, .ref xs, .ref xk, .ref ha, .ref ta, .ref sa, .ref oa, .ref pa, .ref ja])), (fa, .inr (0, [.ref a, .int (nI n0), .int (nI th0), .int (nI mv0)])), (a, .inr (1, [.ref e])), (e, .inl (Γ.2 0, 14, .inl (aN g)))] jIO := by
  refine xt_of (cc := cX6_cut) (maxL := 4) (by decide +kernel) (Nat.le_of_ble_eq_true rfl) rfl ?_
  intro p ev R st mi args below meth cd Q A ls C0 hR hret hP hD hS hl
  obtain ⟨hx, hb, hr, hml, hown, hts, hlk, hK, hnm⟩ := C0
  have hown : st.vm.findClass RX6 = some mi.cls := hown
  obtain ⟨rfl, htb, hXS⟩ := hret
  refine lv_aload_n hx hb dX6_cut_0 rfl (lv_at hl 0 rfl) ?_
  refine lv_iload_n hx hb dX6_cut_1 rfl (lv_at hl 1 rfl) ?_
  exact xt_prop (vx_runV (As := [.int x0]) (rest := []) ⟨hx, hb, hml, hown, hts⟩ (c_X6_requireNode_x l hls Γ xa xs xk ha ta sa oa pa ja fa n0 th0 mv0 a e g x0 (by first | omega | assumption) (hx0)) (kcwV 1 hts kv_X6_requireNode mw_240 (rm_le hR (Nat.le_of_ble_eq_true rfl) (Nat.le_of_ble_eq_true rfl))) (kPx_V hK (va_recv hK.1 hP (ci := 6) (q0 := 0) rfl rfl) (hP.sub (ws' := [(xa, .inr (6, [.ref fa, .ref xs, .ref xk, .ref ha, .ref ta, .ref sa, .ref oa, .ref pa, .ref ja])), (fa, .inr (0, [.ref a, .int (nI n0), .int (nI th0), .int (nI mv0)])), (a, .inr (1, [.ref e])), (e, .inl (Γ.2 0, 14, .inl (aN g)))]) [0, 1, 2, 3] rfl) (hD.sub (ws' := [(xa, .inr (6, [.ref fa, .ref xs, .ref xk, .ref ha, .ref ta, .ref sa, .ref oa, .ref pa, .ref ja])), (fa, .inr (0, [.ref a, .int (nI n0), .int (nI th0), .int (nI mv0)])), (a, .inr (1, [.ref e])), (e, .inl (Γ.2 0, 14, .inl (aN g)))]) [0, 1, 2, 3] (by decide +kernel) rfl) hXS hS) rfl rfl hl.1 rfl (lv_room (Nat.le_of_ble_eq_true rfl)) dX6_cut_2 (by rw [hR]; exact ⟨Nat.le_refl _, Nat.le_refl _⟩)) hlk htb hP hD hS [0, 1, 2, 3] rfl rfl
set_option maxHeartbeats 8000000 in
set_option maxRecDepth 100000 in
theorem c_X6_cut_y (l : Launch) (hls : l.stackTraces = false) (Γ : kG) (xa : Nat) (xs : Nat) (xk : Nat) (ha : Nat) (ta : Nat) (sa : Nat) (oa : Nat) (pa : Nat) (ja : Nat) (fa : Nat) (n0 : Nat) (th0 : Nat) (mv0 : Nat) (a : Nat) (e : Nat) (g : Nat → Nat) (i0 : Nat) (y0 : Int32) (hn0 : n0 ≤ 14) (hi0 : i0 < n0) (hy0 : isN n0 y0 = false) : WX l yX6_cut (wsq yX6_cut cX6_cut 4 (some .int)) (rmX 8 1 6) Γ [.ref xa, .int (nI i0), .int y0] [(xa, .inr (6, [.ref fa, .ref xs, .ref xk, .ref ha, .ref ta, .ref sa, .ref oa, .ref pa, .ref ja])), (fa, .inr (0, [.ref a, .int (nI n0), .int (nI th0), .int (nI mv0)])), (a, .inr (1, [.ref e])), (e, .inl (Γ.2 0, 14, .inl (aN g)))] jIO := by
  refine xt_of (cc := cX6_cut) (maxL := 4) (by decide +kernel) (Nat.le_of_ble_eq_true rfl) rfl ?_
  intro p ev R st mi args below meth cd Q A ls C0 hR hret hP hD hS hl
  obtain ⟨hx, hb, hr, hml, hown, hts, hlk, hK, hnm⟩ := C0
  have hown : st.vm.findClass RX6 = some mi.cls := hown
  obtain ⟨rfl, htb, hXS⟩ := hret
  refine lv_aload_n hx hb dX6_cut_0 rfl (lv_at hl 0 rfl) ?_
  refine lv_iload_n hx hb dX6_cut_1 rfl (lv_at hl 1 rfl) ?_
  refine wr_finv (va_runV (As := [.int (nI i0)]) (rest := []) ⟨hx, hb, hml, hown, hts⟩ (c_X6_requireNode_a l Γ xa xs xk ha ta sa oa pa ja fa n0 th0 mv0 a e g i0 (hi0) (by first | omega | assumption)) (kcwV 1 hts kv_X6_requireNode mw_240 (rm_le hR (Nat.le_of_ble_eq_true rfl) (Nat.le_of_ble_eq_true rfl))) (kPw_V hK (va_recv hK.1 hP (ci := 6) (q0 := 0) rfl rfl) (hP.sub (ws' := [(xa, .inr (6, [.ref fa, .ref xs, .ref xk, .ref ha, .ref ta, .ref sa, .ref oa, .ref pa, .ref ja])), (fa, .inr (0, [.ref a, .int (nI n0), .int (nI th0), .int (nI mv0)])), (a, .inr (1, [.ref e])), (e, .inl (Γ.2 0, 14, .inl (aN g)))]) [0, 1, 2, 3] rfl) (hD.sub (ws' := [(xa, .inr (6, [.ref fa, .ref xs, .ref xk, .ref ha, .ref ta, .ref sa, .ref oa, .ref pa, .ref ja])), (fa, .inr (0, [.ref a, .int (nI n0), .int (nI th0), .int (nI mv0)])), (a, .inr (1, [.ref e])), (e, .inl (Γ.2 0, 14, .inl (aN g)))]) [0, 1, 2, 3] (by decide +kernel) rfl)) rfl rfl hl.1 rfl (lv_room (Nat.le_of_ble_eq_true rfl)) dX6_cut_2 ⟨Nat.zero_le _, Nat.zero_le _⟩) hP hD hS [0, 1, 2, 3] rfl (fun _ => rfl) (fun _ H locs hw hP hD hS => ?_)
  have hP : va_P Γ.1 vwCl [(xa, .inr (6, [.ref fa, .ref xs, .ref xk, .ref ha, .ref ta, .ref sa, .ref oa, .ref pa, .ref ja])), (fa, .inr (0, [.ref a, .int (nI n0), .int (nI th0), .int (nI mv0)])), (a, .inr (1, [.ref e])), (e, .inl (Γ.2 0, 14, .inl (aN g)))] H := hP
  have hD : va_D A [(xa, .inr (6, [.ref fa, .ref xs, .ref xk, .ref ha, .ref ta, .ref sa, .ref oa, .ref pa, .ref ja])), (fa, .inr (0, [.ref a, .int (nI n0), .int (nI th0), .int (nI mv0)])), (a, .inr (1, [.ref e])), (e, .inl (Γ.2 0, 14, .inl (aN g)))] := hD
  refine lv_aload_n hx hb dX6_cut_5 rfl (lv_at hl 0 rfl) ?_
  refine lv_iload_n hx hb dX6_cut_6 rfl (lv_at hl 2 rfl) ?_
  exact xt_prop (vx_runV (As := [.int y0]) (rest := []) ⟨hx, hb, hml, hown, hts⟩ (c_X6_requireNode_x l hls Γ xa xs xk ha ta sa oa pa ja fa n0 th0 mv0 a e g y0 (by first | omega | assumption) (hy0)) (kcwV 1 hts kv_X6_requireNode mw_240 (rm_le hR (Nat.le_of_ble_eq_true rfl) (Nat.le_of_ble_eq_true rfl))) (kPx_V hK (va_recv hK.1 hP (ci := 6) (q0 := 0) rfl rfl) (hP.sub (ws' := [(xa, .inr (6, [.ref fa, .ref xs, .ref xk, .ref ha, .ref ta, .ref sa, .ref oa, .ref pa, .ref ja])), (fa, .inr (0, [.ref a, .int (nI n0), .int (nI th0), .int (nI mv0)])), (a, .inr (1, [.ref e])), (e, .inl (Γ.2 0, 14, .inl (aN g)))]) [0, 1, 2, 3] rfl) (hD.sub (ws' := [(xa, .inr (6, [.ref fa, .ref xs, .ref xk, .ref ha, .ref ta, .ref sa, .ref oa, .ref pa, .ref ja])), (fa, .inr (0, [.ref a, .int (nI n0), .int (nI th0), .int (nI mv0)])), (a, .inr (1, [.ref e])), (e, .inl (Γ.2 0, 14, .inl (aN g)))]) [0, 1, 2, 3] (by decide +kernel) rfl) hXS hS) rfl rfl hl.1 rfl (lv_room (Nat.le_of_ble_eq_true rfl)) dX6_cut_7 (by rw [hR]; exact ⟨Nat.le_refl _, Nat.le_refl _⟩)) hlk htb hP hD hS [0, 1, 2, 3] rfl rfl
set_option maxHeartbeats 8000000 in
set_option maxRecDepth 100000 in
theorem c_X6_ifJoined_x (l : Launch) (hls : l.stackTraces = false) (Γ : kG) (xa : Nat) (xs : Nat) (xk : Nat) (ha : Nat) (ta : Nat) (sa : Nat) (oa : Nat) (pa : Nat) (ja : Nat) (fa : Nat) (n0 : Nat) (th0 : Nat) (mv0 : Nat) (a : Nat) (e : Nat) (g : Nat → Nat) (x0 : Int32) (y0 : Int32) (hn0 : n0 ≤ 14) (hx0 : isN n0 x0 = false) : WX l yX6_ifJoined (wsq yX6_ifJoined cX6_ifJoined 3 (some .int)) (rmX 8 1 6) Γ [.ref xa, .int x0, .int y0] [(xa, .inr (6, [.ref fa, .ref xs, .ref xk, .ref ha, .ref ta, .ref sa, .ref oa, .ref pa, .ref ja])), (fa, .inr (0, [.ref a, .int (nI n0), .int (nI th0), .int (nI mv0)])), (a, .inr (1, [.ref e])), (e, .inl (Γ.2 0, 14, .inl (aN g)))] jIO := by
  refine xt_of (cc := cX6_ifJoined) (maxL := 3) (by decide +kernel) (Nat.le_of_ble_eq_true rfl) rfl ?_
  intro p ev R st mi args below meth cd Q A ls C0 hR hret hP hD hS hl
  obtain ⟨hx, hb, hr, hml, hown, hts, hlk, hK, hnm⟩ := C0
  have hown : st.vm.findClass RX6 = some mi.cls := hown
  obtain ⟨rfl, htb, hXS⟩ := hret
  refine lv_aload_n hx hb dX6_ifJoined_0 rfl (lv_at hl 0 rfl) ?_
  refine lv_iload_n hx hb dX6_ifJoined_1 rfl (lv_at hl 1 rfl) ?_
  exact xt_prop (vx_runV (As := [.int x0]) (rest := []) ⟨hx, hb, hml, hown, hts⟩ (c_X6_requireNode_x l hls Γ xa xs xk ha ta sa oa pa ja fa n0 th0 mv0 a e g x0 (by first | omega | assumption) (hx0)) (kcwV 1 hts kv_X6_requireNode mw_240 (rm_le hR (Nat.le_of_ble_eq_true rfl) (Nat.le_of_ble_eq_true rfl))) (kPx_V hK (va_recv hK.1 hP (ci := 6) (q0 := 0) rfl rfl) (hP.sub (ws' := [(xa, .inr (6, [.ref fa, .ref xs, .ref xk, .ref ha, .ref ta, .ref sa, .ref oa, .ref pa, .ref ja])), (fa, .inr (0, [.ref a, .int (nI n0), .int (nI th0), .int (nI mv0)])), (a, .inr (1, [.ref e])), (e, .inl (Γ.2 0, 14, .inl (aN g)))]) [0, 1, 2, 3] rfl) (hD.sub (ws' := [(xa, .inr (6, [.ref fa, .ref xs, .ref xk, .ref ha, .ref ta, .ref sa, .ref oa, .ref pa, .ref ja])), (fa, .inr (0, [.ref a, .int (nI n0), .int (nI th0), .int (nI mv0)])), (a, .inr (1, [.ref e])), (e, .inl (Γ.2 0, 14, .inl (aN g)))]) [0, 1, 2, 3] (by decide +kernel) rfl) hXS hS) rfl rfl hl.1 rfl (lv_room (Nat.le_of_ble_eq_true rfl)) dX6_ifJoined_2 (by rw [hR]; exact ⟨Nat.le_refl _, Nat.le_refl _⟩)) hlk htb hP hD hS [0, 1, 2, 3] rfl rfl
set_option maxHeartbeats 8000000 in
set_option maxRecDepth 100000 in
theorem c_X6_ifJoined_y (l : Launch) (hls : l.stackTraces = false) (Γ : kG) (xa : Nat) (xs : Nat) (xk : Nat) (ha : Nat) (ta : Nat) (sa : Nat) (oa : Nat) (pa : Nat) (ja : Nat) (fa : Nat) (n0 : Nat) (th0 : Nat) (mv0 : Nat) (a : Nat) (e : Nat) (g : Nat → Nat) (i0 : Nat) (y0 : Int32) (hn0 : n0 ≤ 14) (hi0 : i0 < n0) (hy0 : isN n0 y0 = false) : WX l yX6_ifJoined (wsq yX6_ifJoined cX6_ifJoined 3 (some .int)) (rmX 8 1 6) Γ [.ref xa, .int (nI i0), .int y0] [(xa, .inr (6, [.ref fa, .ref xs, .ref xk, .ref ha, .ref ta, .ref sa, .ref oa, .ref pa, .ref ja])), (fa, .inr (0, [.ref a, .int (nI n0), .int (nI th0), .int (nI mv0)])), (a, .inr (1, [.ref e])), (e, .inl (Γ.2 0, 14, .inl (aN g)))] jIO := by
  refine xt_of (cc := cX6_ifJoined) (maxL := 3) (by decide +kernel) (Nat.le_of_ble_eq_true rfl) rfl ?_
  intro p ev R st mi args below meth cd Q A ls C0 hR hret hP hD hS hl
  obtain ⟨hx, hb, hr, hml, hown, hts, hlk, hK, hnm⟩ := C0
  have hown : st.vm.findClass RX6 = some mi.cls := hown
  obtain ⟨rfl, htb, hXS⟩ := hret
  refine lv_aload_n hx hb dX6_ifJoined_0 rfl (lv_at hl 0 rfl) ?_
  refine lv_iload_n hx hb dX6_ifJoined_1 rfl (lv_at hl 1 rfl) ?_
  refine wr_finv (va_runV (As := [.int (nI i0)]) (rest := []) ⟨hx, hb, hml, hown, hts⟩ (c_X6_requireNode_a l Γ xa xs xk ha ta sa oa pa ja fa n0 th0 mv0 a e g i0 (hi0) (by first | omega | assumption)) (kcwV 1 hts kv_X6_requireNode mw_240 (rm_le hR (Nat.le_of_ble_eq_true rfl) (Nat.le_of_ble_eq_true rfl))) (kPw_V hK (va_recv hK.1 hP (ci := 6) (q0 := 0) rfl rfl) (hP.sub (ws' := [(xa, .inr (6, [.ref fa, .ref xs, .ref xk, .ref ha, .ref ta, .ref sa, .ref oa, .ref pa, .ref ja])), (fa, .inr (0, [.ref a, .int (nI n0), .int (nI th0), .int (nI mv0)])), (a, .inr (1, [.ref e])), (e, .inl (Γ.2 0, 14, .inl (aN g)))]) [0, 1, 2, 3] rfl) (hD.sub (ws' := [(xa, .inr (6, [.ref fa, .ref xs, .ref xk, .ref ha, .ref ta, .ref sa, .ref oa, .ref pa, .ref ja])), (fa, .inr (0, [.ref a, .int (nI n0), .int (nI th0), .int (nI mv0)])), (a, .inr (1, [.ref e])), (e, .inl (Γ.2 0, 14, .inl (aN g)))]) [0, 1, 2, 3] (by decide +kernel) rfl)) rfl rfl hl.1 rfl (lv_room (Nat.le_of_ble_eq_true rfl)) dX6_ifJoined_2 ⟨Nat.zero_le _, Nat.zero_le _⟩) hP hD hS [0, 1, 2, 3] rfl (fun _ => rfl) (fun _ H locs hw hP hD hS => ?_)
  have hP : va_P Γ.1 vwCl [(xa, .inr (6, [.ref fa, .ref xs, .ref xk, .ref ha, .ref ta, .ref sa, .ref oa, .ref pa, .ref ja])), (fa, .inr (0, [.ref a, .int (nI n0), .int (nI th0), .int (nI mv0)])), (a, .inr (1, [.ref e])), (e, .inl (Γ.2 0, 14, .inl (aN g)))] H := hP
  have hD : va_D A [(xa, .inr (6, [.ref fa, .ref xs, .ref xk, .ref ha, .ref ta, .ref sa, .ref oa, .ref pa, .ref ja])), (fa, .inr (0, [.ref a, .int (nI n0), .int (nI th0), .int (nI mv0)])), (a, .inr (1, [.ref e])), (e, .inl (Γ.2 0, 14, .inl (aN g)))] := hD
  refine lv_aload_n hx hb dX6_ifJoined_5 rfl (lv_at hl 0 rfl) ?_
  refine lv_iload_n hx hb dX6_ifJoined_6 rfl (lv_at hl 2 rfl) ?_
  exact xt_prop (vx_runV (As := [.int y0]) (rest := []) ⟨hx, hb, hml, hown, hts⟩ (c_X6_requireNode_x l hls Γ xa xs xk ha ta sa oa pa ja fa n0 th0 mv0 a e g y0 (by first | omega | assumption) (hy0)) (kcwV 1 hts kv_X6_requireNode mw_240 (rm_le hR (Nat.le_of_ble_eq_true rfl) (Nat.le_of_ble_eq_true rfl))) (kPx_V hK (va_recv hK.1 hP (ci := 6) (q0 := 0) rfl rfl) (hP.sub (ws' := [(xa, .inr (6, [.ref fa, .ref xs, .ref xk, .ref ha, .ref ta, .ref sa, .ref oa, .ref pa, .ref ja])), (fa, .inr (0, [.ref a, .int (nI n0), .int (nI th0), .int (nI mv0)])), (a, .inr (1, [.ref e])), (e, .inl (Γ.2 0, 14, .inl (aN g)))]) [0, 1, 2, 3] rfl) (hD.sub (ws' := [(xa, .inr (6, [.ref fa, .ref xs, .ref xk, .ref ha, .ref ta, .ref sa, .ref oa, .ref pa, .ref ja])), (fa, .inr (0, [.ref a, .int (nI n0), .int (nI th0), .int (nI mv0)])), (a, .inr (1, [.ref e])), (e, .inl (Γ.2 0, 14, .inl (aN g)))]) [0, 1, 2, 3] (by decide +kernel) rfl) hXS hS) rfl rfl hl.1 rfl (lv_room (Nat.le_of_ble_eq_true rfl)) dX6_ifJoined_7 (by rw [hR]; exact ⟨Nat.le_refl _, Nat.le_refl _⟩)) hlk htb hP hD hS [0, 1, 2, 3] rfl rfl
set_option maxHeartbeats 8000000 in
set_option maxRecDepth 100000 in
theorem c_X6_join_n (l : Launch) (hls : l.stackTraces = false) (Γ : kG) (xa : Nat) (xs : Nat) (xk : Nat) (ha : Nat) (ta : Nat) (sa : Nat) (oa : Nat) (pa : Nat) (ja : Nat) (fa : Nat) (n0 : Nat) (th0 : Nat) (mv0 : Nat) (a : Nat) (e : Nat) (g : Nat → Nat) (i0 : Nat) (j0 : Nat) (hfg : FG g) (hn0 : n0 ≤ 14) (hth : th0 < 2 ^ n0) (hi0 : i0 < n0) (hj0 : j0 < n0) (hc : (cjB g th0 n0 i0 j0) = false) : WX l yX6_join (wsq yX6_join cX6_join 3 (some .int)) (rmX 8 1 6) Γ [.ref xa, .int (nI i0), .int (nI j0)] [(xa, .inr (6, [.ref fa, .ref xs, .ref xk, .ref ha, .ref ta, .ref sa, .ref oa, .ref pa, .ref ja])), (fa, .inr (0, [.ref a, .int (nI n0), .int (nI th0), .int (nI mv0)])), (a, .inr (1, [.ref e])), (e, .inl (Γ.2 0, 14, .inl (aN g)))] jIS := by
  refine xt_of (cc := cX6_join) (maxL := 3) (by decide +kernel) (Nat.le_of_ble_eq_true rfl) rfl ?_
  intro p ev R st mi args below meth cd Q A ls C0 hR hret hP hD hS hl
  obtain ⟨hx, hb, hr, hml, hown, hts, hlk, hK, hnm⟩ := C0
  have hown : st.vm.findClass RX6 = some mi.cls := hown
  obtain ⟨rfl, htb, hXS⟩ := hret
  have hw14 := w14 hth hn0
  refine lv_aload_n hx hb dX6_join_0 rfl (lv_at hl 0 rfl) ?_
  refine lv_iload_n hx hb dX6_join_1 rfl (lv_at hl 1 rfl) ?_
  refine wr_finv (va_runV (As := [.int (nI i0)]) (rest := []) ⟨hx, hb, hml, hown, hts⟩ (c_X6_requireNode_a l Γ xa xs xk ha ta sa oa pa ja fa n0 th0 mv0 a e g i0 (hi0) (by first | omega | assumption)) (kcwV 1 hts kv_X6_requireNode mw_240 (rm_le hR (Nat.le_of_ble_eq_true rfl) (Nat.le_of_ble_eq_true rfl))) (kPw_V hK (va_recv hK.1 hP (ci := 6) (q0 := 0) rfl rfl) (hP.sub (ws' := [(xa, .inr (6, [.ref fa, .ref xs, .ref xk, .ref ha, .ref ta, .ref sa, .ref oa, .ref pa, .ref ja])), (fa, .inr (0, [.ref a, .int (nI n0), .int (nI th0), .int (nI mv0)])), (a, .inr (1, [.ref e])), (e, .inl (Γ.2 0, 14, .inl (aN g)))]) [0, 1, 2, 3] rfl) (hD.sub (ws' := [(xa, .inr (6, [.ref fa, .ref xs, .ref xk, .ref ha, .ref ta, .ref sa, .ref oa, .ref pa, .ref ja])), (fa, .inr (0, [.ref a, .int (nI n0), .int (nI th0), .int (nI mv0)])), (a, .inr (1, [.ref e])), (e, .inl (Γ.2 0, 14, .inl (aN g)))]) [0, 1, 2, 3] (by decide +kernel) rfl)) rfl rfl hl.1 rfl (lv_room (Nat.le_of_ble_eq_true rfl)) dX6_join_2 ⟨Nat.zero_le _, Nat.zero_le _⟩) hP hD hS [0, 1, 2, 3] rfl (fun _ => rfl) (fun _ H locs hw hP hD hS => ?_)
  have hP : va_P Γ.1 vwCl [(xa, .inr (6, [.ref fa, .ref xs, .ref xk, .ref ha, .ref ta, .ref sa, .ref oa, .ref pa, .ref ja])), (fa, .inr (0, [.ref a, .int (nI n0), .int (nI th0), .int (nI mv0)])), (a, .inr (1, [.ref e])), (e, .inl (Γ.2 0, 14, .inl (aN g)))] H := hP
  have hD : va_D A [(xa, .inr (6, [.ref fa, .ref xs, .ref xk, .ref ha, .ref ta, .ref sa, .ref oa, .ref pa, .ref ja])), (fa, .inr (0, [.ref a, .int (nI n0), .int (nI th0), .int (nI mv0)])), (a, .inr (1, [.ref e])), (e, .inl (Γ.2 0, 14, .inl (aN g)))] := hD
  refine lv_aload_n hx hb dX6_join_5 rfl (lv_at hl 0 rfl) ?_
  refine lv_iload_n hx hb dX6_join_6 rfl (lv_at hl 2 rfl) ?_
  refine wr_finv (va_runV (As := [.int (nI j0)]) (rest := []) ⟨hx, hb, hml, hown, hts⟩ (c_X6_requireNode_a l Γ xa xs xk ha ta sa oa pa ja fa n0 th0 mv0 a e g j0 (hj0) (by first | omega | assumption)) (kcwV 1 hts kv_X6_requireNode mw_240 (rm_le hR (Nat.le_of_ble_eq_true rfl) (Nat.le_of_ble_eq_true rfl))) (kPw_V hK (va_recv hK.1 hP (ci := 6) (q0 := 0) rfl rfl) (hP.sub (ws' := [(xa, .inr (6, [.ref fa, .ref xs, .ref xk, .ref ha, .ref ta, .ref sa, .ref oa, .ref pa, .ref ja])), (fa, .inr (0, [.ref a, .int (nI n0), .int (nI th0), .int (nI mv0)])), (a, .inr (1, [.ref e])), (e, .inl (Γ.2 0, 14, .inl (aN g)))]) [0, 1, 2, 3] rfl) (hD.sub (ws' := [(xa, .inr (6, [.ref fa, .ref xs, .ref xk, .ref ha, .ref ta, .ref sa, .ref oa, .ref pa, .ref ja])), (fa, .inr (0, [.ref a, .int (nI n0), .int (nI th0), .int (nI mv0)])), (a, .inr (1, [.ref e])), (e, .inl (Γ.2 0, 14, .inl (aN g)))]) [0, 1, 2, 3] (by decide +kernel) rfl)) rfl rfl hl.1 rfl (lv_room (Nat.le_of_ble_eq_true rfl)) dX6_join_7 ⟨Nat.zero_le _, Nat.zero_le _⟩) hP hD hS [0, 1, 2, 3] rfl (fun _ => rfl) (fun _ H locs hw hP hD hS => ?_)
  have hP : va_P Γ.1 vwCl [(xa, .inr (6, [.ref fa, .ref xs, .ref xk, .ref ha, .ref ta, .ref sa, .ref oa, .ref pa, .ref ja])), (fa, .inr (0, [.ref a, .int (nI n0), .int (nI th0), .int (nI mv0)])), (a, .inr (1, [.ref e])), (e, .inl (Γ.2 0, 14, .inl (aN g)))] H := hP
  have hD : va_D A [(xa, .inr (6, [.ref fa, .ref xs, .ref xk, .ref ha, .ref ta, .ref sa, .ref oa, .ref pa, .ref ja])), (fa, .inr (0, [.ref a, .int (nI n0), .int (nI th0), .int (nI mv0)])), (a, .inr (1, [.ref e])), (e, .inl (Γ.2 0, 14, .inl (aN g)))] := hD
  refine lv_aload_n hx hb dX6_join_10 rfl (lv_at hl 0 rfl) ?_
  refine va_get (D := Γ.1) (ci := 6) (v := .ref fa) (C := RX6) (T := TX6) (N := 9) hx hb hts hinX6 hown hK.1 hP 0 rfl rfl 0 (by decide) (hts _ mw_209) (fun _ h9 => h9) rfl dX6_join_11 ?_
  refine lv_iload_n hx hb dX6_join_14 rfl (lv_at hl 1 rfl) ?_
  refine lv_iload_n hx hb dX6_join_15 rfl (lv_at hl 2 rfl) ?_
  refine ro_fin (va_runVN (As := [.int (nI i0), .int (nI j0)]) (rest := []) ⟨hx, hb, hml, hown, hts⟩ (c_X0_canBeJoined l Γ _ fa n0 th0 mv0 a e g i0 j0 (hP.sub (ws' := [(fa, .inr (0, [.ref a, .int (nI n0), .int (nI th0), .int (nI mv0)])), (a, .inr (1, [.ref e])), (e, .inl (Γ.2 0, 14, .inl (aN g)))]) [1, 2, 3] rfl) (hfg.1) (by first | omega | assumption) (hw14) (by first | omega | assumption) (by first | omega | assumption)) (kcwVN 2 hts kv_X0_canBeJoined (hK.nw _ (nwL_at 43 rfl)) (rm_le hR (Nat.le_of_ble_eq_true rfl) (Nat.le_of_ble_eq_true rfl))) (kPc_V hK (va_recv hK.1 hP (ci := 0) (q0 := 1) rfl rfl)) rfl rfl hl.1 rfl (lv_room (Nat.le_of_ble_eq_true rfl)) dX6_join_16 ⟨Nat.zero_le _, Nat.zero_le _⟩) hS (fun locs hS => ?_)
  refine tp_i (y := (bI false)) (by rw [← hc]; rfl) ?_
  refine nb_ifb_ne (tgt := 32) hx hb dX6_join_19 (by decide) (fun c_19 => by exfalso; exact absurd c_19 (by decide)) (fun c_19 => ?_)
  exact xt_thr hx hb hml hown hts hlk hls htb hXS hR (Nat.le_of_ble_eq_true rfl) hP hS hl.1 xE_IS (text := "the nodes can not be joined") (is := 91) (by decide +kernel) dX6_join_22 dX6_join_25 dX6_join_26 dX6_join_28 dX6_join_31
set_option maxHeartbeats 8000000 in
set_option maxRecDepth 100000 in
theorem c_X6_cut_n (l : Launch) (hls : l.stackTraces = false) (Γ : kG) (xa : Nat) (xs : Nat) (xk : Nat) (ha : Nat) (ta : Nat) (sa : Nat) (oa : Nat) (pa : Nat) (ja : Nat) (fa : Nat) (n0 : Nat) (th0 : Nat) (mv0 : Nat) (a : Nat) (e : Nat) (g : Nat → Nat) (i0 : Nat) (j0 : Nat) (hfg : FG g) (hn0 : n0 ≤ 14) (hth : th0 < 2 ^ n0) (hi0 : i0 < n0) (hj0 : j0 < n0) (hc : (edB g th0 i0 j0) = false) : WX l yX6_cut (wsq yX6_cut cX6_cut 4 (some .int)) (rmX 8 1 6) Γ [.ref xa, .int (nI i0), .int (nI j0)] [(xa, .inr (6, [.ref fa, .ref xs, .ref xk, .ref ha, .ref ta, .ref sa, .ref oa, .ref pa, .ref ja])), (fa, .inr (0, [.ref a, .int (nI n0), .int (nI th0), .int (nI mv0)])), (a, .inr (1, [.ref e])), (e, .inl (Γ.2 0, 14, .inl (aN g)))] jIS := by
  refine xt_of (cc := cX6_cut) (maxL := 4) (by decide +kernel) (Nat.le_of_ble_eq_true rfl) rfl ?_
  intro p ev R st mi args below meth cd Q A ls C0 hR hret hP hD hS hl
  obtain ⟨hx, hb, hr, hml, hown, hts, hlk, hK, hnm⟩ := C0
  have hown : st.vm.findClass RX6 = some mi.cls := hown
  obtain ⟨rfl, htb, hXS⟩ := hret
  have hw14 := w14 hth hn0
  refine lv_aload_n hx hb dX6_cut_0 rfl (lv_at hl 0 rfl) ?_
  refine lv_iload_n hx hb dX6_cut_1 rfl (lv_at hl 1 rfl) ?_
  refine wr_finv (va_runV (As := [.int (nI i0)]) (rest := []) ⟨hx, hb, hml, hown, hts⟩ (c_X6_requireNode_a l Γ xa xs xk ha ta sa oa pa ja fa n0 th0 mv0 a e g i0 (hi0) (by first | omega | assumption)) (kcwV 1 hts kv_X6_requireNode mw_240 (rm_le hR (Nat.le_of_ble_eq_true rfl) (Nat.le_of_ble_eq_true rfl))) (kPw_V hK (va_recv hK.1 hP (ci := 6) (q0 := 0) rfl rfl) (hP.sub (ws' := [(xa, .inr (6, [.ref fa, .ref xs, .ref xk, .ref ha, .ref ta, .ref sa, .ref oa, .ref pa, .ref ja])), (fa, .inr (0, [.ref a, .int (nI n0), .int (nI th0), .int (nI mv0)])), (a, .inr (1, [.ref e])), (e, .inl (Γ.2 0, 14, .inl (aN g)))]) [0, 1, 2, 3] rfl) (hD.sub (ws' := [(xa, .inr (6, [.ref fa, .ref xs, .ref xk, .ref ha, .ref ta, .ref sa, .ref oa, .ref pa, .ref ja])), (fa, .inr (0, [.ref a, .int (nI n0), .int (nI th0), .int (nI mv0)])), (a, .inr (1, [.ref e])), (e, .inl (Γ.2 0, 14, .inl (aN g)))]) [0, 1, 2, 3] (by decide +kernel) rfl)) rfl rfl hl.1 rfl (lv_room (Nat.le_of_ble_eq_true rfl)) dX6_cut_2 ⟨Nat.zero_le _, Nat.zero_le _⟩) hP hD hS [0, 1, 2, 3] rfl (fun _ => rfl) (fun _ H locs hw hP hD hS => ?_)
  have hP : va_P Γ.1 vwCl [(xa, .inr (6, [.ref fa, .ref xs, .ref xk, .ref ha, .ref ta, .ref sa, .ref oa, .ref pa, .ref ja])), (fa, .inr (0, [.ref a, .int (nI n0), .int (nI th0), .int (nI mv0)])), (a, .inr (1, [.ref e])), (e, .inl (Γ.2 0, 14, .inl (aN g)))] H := hP
  have hD : va_D A [(xa, .inr (6, [.ref fa, .ref xs, .ref xk, .ref ha, .ref ta, .ref sa, .ref oa, .ref pa, .ref ja])), (fa, .inr (0, [.ref a, .int (nI n0), .int (nI th0), .int (nI mv0)])), (a, .inr (1, [.ref e])), (e, .inl (Γ.2 0, 14, .inl (aN g)))] := hD
  refine lv_aload_n hx hb dX6_cut_5 rfl (lv_at hl 0 rfl) ?_
  refine lv_iload_n hx hb dX6_cut_6 rfl (lv_at hl 2 rfl) ?_
  refine wr_finv (va_runV (As := [.int (nI j0)]) (rest := []) ⟨hx, hb, hml, hown, hts⟩ (c_X6_requireNode_a l Γ xa xs xk ha ta sa oa pa ja fa n0 th0 mv0 a e g j0 (hj0) (by first | omega | assumption)) (kcwV 1 hts kv_X6_requireNode mw_240 (rm_le hR (Nat.le_of_ble_eq_true rfl) (Nat.le_of_ble_eq_true rfl))) (kPw_V hK (va_recv hK.1 hP (ci := 6) (q0 := 0) rfl rfl) (hP.sub (ws' := [(xa, .inr (6, [.ref fa, .ref xs, .ref xk, .ref ha, .ref ta, .ref sa, .ref oa, .ref pa, .ref ja])), (fa, .inr (0, [.ref a, .int (nI n0), .int (nI th0), .int (nI mv0)])), (a, .inr (1, [.ref e])), (e, .inl (Γ.2 0, 14, .inl (aN g)))]) [0, 1, 2, 3] rfl) (hD.sub (ws' := [(xa, .inr (6, [.ref fa, .ref xs, .ref xk, .ref ha, .ref ta, .ref sa, .ref oa, .ref pa, .ref ja])), (fa, .inr (0, [.ref a, .int (nI n0), .int (nI th0), .int (nI mv0)])), (a, .inr (1, [.ref e])), (e, .inl (Γ.2 0, 14, .inl (aN g)))]) [0, 1, 2, 3] (by decide +kernel) rfl)) rfl rfl hl.1 rfl (lv_room (Nat.le_of_ble_eq_true rfl)) dX6_cut_7 ⟨Nat.zero_le _, Nat.zero_le _⟩) hP hD hS [0, 1, 2, 3] rfl (fun _ => rfl) (fun _ H locs hw hP hD hS => ?_)
  have hP : va_P Γ.1 vwCl [(xa, .inr (6, [.ref fa, .ref xs, .ref xk, .ref ha, .ref ta, .ref sa, .ref oa, .ref pa, .ref ja])), (fa, .inr (0, [.ref a, .int (nI n0), .int (nI th0), .int (nI mv0)])), (a, .inr (1, [.ref e])), (e, .inl (Γ.2 0, 14, .inl (aN g)))] H := hP
  have hD : va_D A [(xa, .inr (6, [.ref fa, .ref xs, .ref xk, .ref ha, .ref ta, .ref sa, .ref oa, .ref pa, .ref ja])), (fa, .inr (0, [.ref a, .int (nI n0), .int (nI th0), .int (nI mv0)])), (a, .inr (1, [.ref e])), (e, .inl (Γ.2 0, 14, .inl (aN g)))] := hD
  refine lv_aload_n hx hb dX6_cut_10 rfl (lv_at hl 0 rfl) ?_
  refine va_get (D := Γ.1) (ci := 6) (v := .ref fa) (C := RX6) (T := TX6) (N := 9) hx hb hts hinX6 hown hK.1 hP 0 rfl rfl 0 (by decide) (hts _ mw_209) (fun _ h9 => h9) rfl dX6_cut_11 ?_
  refine lv_iload_n hx hb dX6_cut_14 rfl (lv_at hl 1 rfl) ?_
  refine lv_iload_n hx hb dX6_cut_15 rfl (lv_at hl 2 rfl) ?_
  refine ro_fin (va_runVN (As := [.int (nI i0), .int (nI j0)]) (rest := []) ⟨hx, hb, hml, hown, hts⟩ (c_X0_hasEdge l Γ _ fa n0 th0 mv0 a e g i0 j0 (hP.sub (ws' := [(fa, .inr (0, [.ref a, .int (nI n0), .int (nI th0), .int (nI mv0)])), (a, .inr (1, [.ref e])), (e, .inl (Γ.2 0, 14, .inl (aN g)))]) [1, 2, 3] rfl) (hfg.1) (hw14) (by omega) (by omega)) (kcwVN 2 hts kv_X0_hasEdge (hK.nw _ (nwL_at 7 rfl)) (rm_le hR (Nat.le_of_ble_eq_true rfl) (Nat.le_of_ble_eq_true rfl))) (kPc_V hK (va_recv hK.1 hP (ci := 0) (q0 := 1) rfl rfl)) rfl rfl hl.1 rfl (lv_room (Nat.le_of_ble_eq_true rfl)) dX6_cut_16 ⟨Nat.zero_le _, Nat.zero_le _⟩) hS (fun locs hS => ?_)
  refine tp_i (y := (bI false)) (by rw [← hc]; rfl) ?_
  refine nb_ifb_ne (tgt := 32) hx hb dX6_cut_19 (by decide) (fun c_19 => by exfalso; exact absurd c_19 (by decide)) (fun c_19 => ?_)
  exact xt_thr hx hb hml hown hts hlk hls htb hXS hR (Nat.le_of_ble_eq_true rfl) hP hS hl.1 xE_IS (text := "there is no edge between the nodes") (is := 107) (by decide +kernel) dX6_cut_22 dX6_cut_25 dX6_cut_26 dX6_cut_28 dX6_cut_31
set_option maxHeartbeats 8000000 in
set_option maxRecDepth 100000 in
theorem c_X6_take_x (l : Launch) (hls : l.stackTraces = false) (Γ : kG) (xa : Nat) (xs : Nat) (xk : Nat) (ha : Nat) (ta : Nat) (sa : Nat) (oa : Nat) (pa : Nat) (ja : Nat) (fa : Nat) (n0 : Nat) (th0 : Nat) (mv0 : Nat) (a : Nat) (e : Nat) (g : Nat → Nat) (x0 : Int32) (hn0 : n0 ≤ 14) (hx0 : isN n0 x0 = false) : WX l yX6_take (wsq yX6_take cX6_take 2 (some .int)) (rmX 8 1 6) Γ [.ref xa, .int x0] [(xa, .inr (6, [.ref fa, .ref xs, .ref xk, .ref ha, .ref ta, .ref sa, .ref oa, .ref pa, .ref ja])), (fa, .inr (0, [.ref a, .int (nI n0), .int (nI th0), .int (nI mv0)])), (a, .inr (1, [.ref e])), (e, .inl (Γ.2 0, 14, .inl (aN g)))] jIO := by
  refine xt_of (cc := cX6_take) (maxL := 2) (by decide +kernel) (Nat.le_of_ble_eq_true rfl) rfl ?_
  intro p ev R st mi args below meth cd Q A ls C0 hR hret hP hD hS hl
  obtain ⟨hx, hb, hr, hml, hown, hts, hlk, hK, hnm⟩ := C0
  have hown : st.vm.findClass RX6 = some mi.cls := hown
  obtain ⟨rfl, htb, hXS⟩ := hret
  refine lv_aload_n hx hb dX6_take_0 rfl (lv_at hl 0 rfl) ?_
  refine lv_iload_n hx hb dX6_take_1 rfl (lv_at hl 1 rfl) ?_
  exact xt_prop (vx_runV (As := [.int x0]) (rest := []) ⟨hx, hb, hml, hown, hts⟩ (c_X6_requireNode_x l hls Γ xa xs xk ha ta sa oa pa ja fa n0 th0 mv0 a e g x0 (by first | omega | assumption) (hx0)) (kcwV 1 hts kv_X6_requireNode mw_240 (rm_le hR (Nat.le_of_ble_eq_true rfl) (Nat.le_of_ble_eq_true rfl))) (kPx_V hK (va_recv hK.1 hP (ci := 6) (q0 := 0) rfl rfl) (hP.sub (ws' := [(xa, .inr (6, [.ref fa, .ref xs, .ref xk, .ref ha, .ref ta, .ref sa, .ref oa, .ref pa, .ref ja])), (fa, .inr (0, [.ref a, .int (nI n0), .int (nI th0), .int (nI mv0)])), (a, .inr (1, [.ref e])), (e, .inl (Γ.2 0, 14, .inl (aN g)))]) [0, 1, 2, 3] rfl) (hD.sub (ws' := [(xa, .inr (6, [.ref fa, .ref xs, .ref xk, .ref ha, .ref ta, .ref sa, .ref oa, .ref pa, .ref ja])), (fa, .inr (0, [.ref a, .int (nI n0), .int (nI th0), .int (nI mv0)])), (a, .inr (1, [.ref e])), (e, .inl (Γ.2 0, 14, .inl (aN g)))]) [0, 1, 2, 3] (by decide +kernel) rfl) hXS hS) rfl rfl hl.1 rfl (lv_room (Nat.le_of_ble_eq_true rfl)) dX6_take_2 (by rw [hR]; exact ⟨Nat.le_refl _, Nat.le_refl _⟩)) hlk htb hP hD hS [0, 1, 2, 3] rfl rfl
set_option maxHeartbeats 8000000 in
set_option maxRecDepth 100000 in
theorem c_X6_take_t (l : Launch) (hls : l.stackTraces = false) (Γ : kG) (xa : Nat) (xs : Nat) (xk : Nat) (ha : Nat) (ta : Nat) (sa : Nat) (oa : Nat) (pa : Nat) (ja : Nat) (fa : Nat) (n0 : Nat) (th0 : Nat) (mv0 : Nat) (a : Nat) (e : Nat) (g : Nat → Nat) (v0 : Nat) (hn0 : n0 ≤ 14) (hth : th0 < 2 ^ n0) (hv0 : v0 < n0) (hb0 : th0.testBit v0 = false) : WX l yX6_take (wsq yX6_take cX6_take 2 (some .int)) (rmX 8 1 6) Γ [.ref xa, .int (nI v0)] [(xa, .inr (6, [.ref fa, .ref xs, .ref xk, .ref ha, .ref ta, .ref sa, .ref oa, .ref pa, .ref ja])), (fa, .inr (0, [.ref a, .int (nI n0), .int (nI th0), .int (nI mv0)])), (a, .inr (1, [.ref e])), (e, .inl (Γ.2 0, 14, .inl (aN g)))] jIS := by
  refine xt_of (cc := cX6_take) (maxL := 2) (by decide +kernel) (Nat.le_of_ble_eq_true rfl) rfl ?_
  intro p ev R st mi args below meth cd Q A ls C0 hR hret hP hD hS hl
  obtain ⟨hx, hb, hr, hml, hown, hts, hlk, hK, hnm⟩ := C0
  have hown : st.vm.findClass RX6 = some mi.cls := hown
  obtain ⟨rfl, htb, hXS⟩ := hret
  refine lv_aload_n hx hb dX6_take_0 rfl (lv_at hl 0 rfl) ?_
  refine lv_iload_n hx hb dX6_take_1 rfl (lv_at hl 1 rfl) ?_
  refine wr_finv (va_runV (As := [.int (nI v0)]) (rest := []) ⟨hx, hb, hml, hown, hts⟩ (c_X6_requireNode_a l Γ xa xs xk ha ta sa oa pa ja fa n0 th0 mv0 a e g v0 (hv0) (by first | omega | assumption)) (kcwV 1 hts kv_X6_requireNode mw_240 (rm_le hR (Nat.le_of_ble_eq_true rfl) (Nat.le_of_ble_eq_true rfl))) (kPw_V hK (va_recv hK.1 hP (ci := 6) (q0 := 0) rfl rfl) (hP.sub (ws' := [(xa, .inr (6, [.ref fa, .ref xs, .ref xk, .ref ha, .ref ta, .ref sa, .ref oa, .ref pa, .ref ja])), (fa, .inr (0, [.ref a, .int (nI n0), .int (nI th0), .int (nI mv0)])), (a, .inr (1, [.ref e])), (e, .inl (Γ.2 0, 14, .inl (aN g)))]) [0, 1, 2, 3] rfl) (hD.sub (ws' := [(xa, .inr (6, [.ref fa, .ref xs, .ref xk, .ref ha, .ref ta, .ref sa, .ref oa, .ref pa, .ref ja])), (fa, .inr (0, [.ref a, .int (nI n0), .int (nI th0), .int (nI mv0)])), (a, .inr (1, [.ref e])), (e, .inl (Γ.2 0, 14, .inl (aN g)))]) [0, 1, 2, 3] (by decide +kernel) rfl)) rfl rfl hl.1 rfl (lv_room (Nat.le_of_ble_eq_true rfl)) dX6_take_2 ⟨Nat.zero_le _, Nat.zero_le _⟩) hP hD hS [0, 1, 2, 3] rfl (fun _ => rfl) (fun _ H locs hw hP hD hS => ?_)
  have hP : va_P Γ.1 vwCl [(xa, .inr (6, [.ref fa, .ref xs, .ref xk, .ref ha, .ref ta, .ref sa, .ref oa, .ref pa, .ref ja])), (fa, .inr (0, [.ref a, .int (nI n0), .int (nI th0), .int (nI mv0)])), (a, .inr (1, [.ref e])), (e, .inl (Γ.2 0, 14, .inl (aN g)))] H := hP
  have hD : va_D A [(xa, .inr (6, [.ref fa, .ref xs, .ref xk, .ref ha, .ref ta, .ref sa, .ref oa, .ref pa, .ref ja])), (fa, .inr (0, [.ref a, .int (nI n0), .int (nI th0), .int (nI mv0)])), (a, .inr (1, [.ref e])), (e, .inl (Γ.2 0, 14, .inl (aN g)))] := hD
  refine lv_aload_n hx hb dX6_take_5 rfl (lv_at hl 0 rfl) ?_
  refine lv_iload_n hx hb dX6_take_6 rfl (lv_at hl 1 rfl) ?_
  exact xt_prop (vx_runV (As := [.int (nI v0)]) (rest := []) ⟨hx, hb, hml, hown, hts⟩ (c_X6_requireThere_x l hls Γ xa xs xk ha ta sa oa pa ja fa n0 th0 mv0 a e g v0 (by first | omega | assumption) (by first | omega | assumption) (by first | omega | assumption) (by first | omega | assumption)) (kcwV 1 hts kv_X6_requireThere mw_243 (rm_le hR (Nat.le_of_ble_eq_true rfl) (Nat.le_of_ble_eq_true rfl))) (kPx_V hK (va_recv hK.1 hP (ci := 6) (q0 := 0) rfl rfl) (hP.sub (ws' := [(xa, .inr (6, [.ref fa, .ref xs, .ref xk, .ref ha, .ref ta, .ref sa, .ref oa, .ref pa, .ref ja])), (fa, .inr (0, [.ref a, .int (nI n0), .int (nI th0), .int (nI mv0)])), (a, .inr (1, [.ref e])), (e, .inl (Γ.2 0, 14, .inl (aN g)))]) [0, 1, 2, 3] rfl) (hD.sub (ws' := [(xa, .inr (6, [.ref fa, .ref xs, .ref xk, .ref ha, .ref ta, .ref sa, .ref oa, .ref pa, .ref ja])), (fa, .inr (0, [.ref a, .int (nI n0), .int (nI th0), .int (nI mv0)])), (a, .inr (1, [.ref e])), (e, .inl (Γ.2 0, 14, .inl (aN g)))]) [0, 1, 2, 3] (by decide +kernel) rfl) hXS hS) rfl rfl hl.1 rfl (lv_room (Nat.le_of_ble_eq_true rfl)) dX6_take_7 (by rw [hR]; exact ⟨Nat.le_refl _, Nat.le_refl _⟩)) hlk htb hP hD hS [0, 1, 2, 3] rfl rfl
set_option maxHeartbeats 8000000 in
set_option maxRecDepth 100000 in
theorem c_X6_reply_x (l : Launch) (hls : l.stackTraces = false) (Γ : kG) (xa : Nat) (xs : Nat) (xk : Nat) (ha : Nat) (ta : Nat) (sa : Nat) (oa : Nat) (pa : Nat) (ja : Nat) (fa : Nat) (n0 : Nat) (th0 : Nat) (mv0 : Nat) (a : Nat) (e : Nat) (g : Nat → Nat) (hz : th0 = 0) : WX l yX6_reply (wsq yX6_reply cX6_reply 3 (some .int)) (rmX 8 1 6) Γ [.ref xa] [(xa, .inr (6, [.ref fa, .ref xs, .ref xk, .ref ha, .ref ta, .ref sa, .ref oa, .ref pa, .ref ja])), (fa, .inr (0, [.ref a, .int (nI n0), .int (nI th0), .int (nI mv0)])), (a, .inr (1, [.ref e])), (e, .inl (Γ.2 0, 14, .inl (aN g)))] jIS := by
  refine xt_of (cc := cX6_reply) (maxL := 3) (by decide +kernel) (Nat.le_of_ble_eq_true rfl) rfl ?_
  intro p ev R st mi args below meth cd Q A ls C0 hR hret hP hD hS hl
  obtain ⟨hx, hb, hr, hml, hown, hts, hlk, hK, hnm⟩ := C0
  have hown : st.vm.findClass RX6 = some mi.cls := hown
  obtain ⟨rfl, htb, hXS⟩ := hret
  refine lv_aload_n hx hb dX6_reply_0 rfl (lv_at hl 0 rfl) ?_
  refine va_get (D := Γ.1) (ci := 6) (v := .ref fa) (C := RX6) (T := TX6) (N := 9) hx hb hts hinX6 hown hK.1 hP 0 rfl rfl 0 (by decide) (hts _ mw_209) (fun _ h9 => h9) rfl dX6_reply_1 ?_
  refine va_getN (host := "TreeKayles") (D := Γ.1) (ci := 0) (v := .int (nI th0)) (C := RX0) (T := TX0) (N := 4) hx hb hts hinX0 hown hK.1 hP 1 rfl rfl 2 (by decide) (va_Nw.use rfl (hK.nw _ (nwL_at 0 rfl))) (fun _ h9 => h9) rfl dX6_reply_4 ?_
  refine nb_if_ne (tgt := 20) hx hb (by omega) dX6_reply_7 (by decide) (fun c_7 => by exfalso; first | exact c_7 hz | omega) (fun c_7 => ?_)
  exact xt_thr hx hb hml hown hts hlk hls htb hXS hR (Nat.le_of_ble_eq_true rfl) hP hS hl.1 xE_IS (text := "no node is there") (is := 122) (by decide +kernel) dX6_reply_10 dX6_reply_13 dX6_reply_14 dX6_reply_16 dX6_reply_19
set_option maxHeartbeats 8000000 in
set_option maxRecDepth 100000 in
theorem c_X6_append_x (l : Launch) (hls : l.stackTraces = false) (Γ : kG) (xa : Nat) (xs : Nat) (xk : Nat) (ha : Nat) (ta : Nat) (sa : Nat) (oa : Nat) (pa : Nat) (ja : Nat) (fa : Nat) (tc : Nat) (sz0 : Nat) (tx : Nat → Nat) (x0 : Int32) (hx0 : ¬ (nI 33 ≤ x0 ∧ x0 ≤ nI 126)) : WX l yX6_append (wsq yX6_append cX6_append 2 (some .int)) (rmX 8 1 6) Γ [.ref xa, .int x0] [(xa, .inr (6, [.ref fa, .ref xs, .ref xk, .ref ha, .ref ta, .ref sa, .ref oa, .ref pa, .ref ja])), (ta, .inr (5, [.ref tc, .int (nI sz0)])), (tc, .inl (Γ.2 0, 14, .inl (aN tx)))] jIA := by
  refine xt_of (cc := cX6_append) (maxL := 2) (by decide +kernel) (Nat.le_of_ble_eq_true rfl) rfl ?_
  intro p ev R st mi args below meth cd Q A ls C0 hR hret hP hD hS hl
  obtain ⟨hx, hb, hr, hml, hown, hts, hlk, hK, hnm⟩ := C0
  have hown : st.vm.findClass RX6 = some mi.cls := hown
  obtain ⟨rfl, htb, hXS⟩ := hret
  refine lv_iload_n hx hb dX6_append_0 rfl (lv_at hl 1 rfl) ?_
  refine lv_bipush (v := (nI 33)) hx hb dX6_append_1 (by decide) ?_
  refine lv_icmp_lt (tgt := 12) hx hb dX6_append_3 (by decide) (fun c_3 => ?_) (fun c_3 => ?_)
  · skip
    exact xt_thr hx hb hml hown hts hlk hls htb hXS hR (Nat.le_of_ble_eq_true rfl) hP hS hl.1 xE_IA (text := "the character code is not 33 to 126") (is := 140) (by decide +kernel) dX6_append_12 dX6_append_15 dX6_append_16 dX6_append_18 dX6_append_21
  · skip
    refine lv_iload_n hx hb dX6_append_6 rfl (lv_at hl 1 rfl) ?_
    refine lv_bipush (v := (nI 126)) hx hb dX6_append_7 (by decide) ?_
    refine lv_icmp_le (tgt := 22) hx hb dX6_append_9 (by decide) (fun c_9 => by exfalso; exact hx0 ⟨Int32.not_lt.mp c_3, c_9⟩) (fun c_9 => ?_)
    exact xt_thr hx hb hml hown hts hlk hls htb hXS hR (Nat.le_of_ble_eq_true rfl) hP hS hl.1 xE_IA (text := "the character code is not 33 to 126") (is := 140) (by decide +kernel) dX6_append_12 dX6_append_15 dX6_append_16 dX6_append_18 dX6_append_21
set_option maxHeartbeats 8000000 in
set_option maxRecDepth 100000 in
theorem c_X6_append_f (l : Launch) (hls : l.stackTraces = false) (Γ : kG) (xa : Nat) (xs : Nat) (xk : Nat) (ha : Nat) (ta : Nat) (sa : Nat) (oa : Nat) (pa : Nat) (ja : Nat) (fa : Nat) (tc : Nat) (sz0 : Nat) (tx : Nat → Nat) (c0 : Nat) (h33 : 33 ≤ c0) (h126 : c0 ≤ 126) (hsz : sz0 = 14) : WX l yX6_append (wsq yX6_append cX6_append 2 (some .int)) (rmX 8 1 6) Γ [.ref xa, .int (nI c0)] [(xa, .inr (6, [.ref fa, .ref xs, .ref xk, .ref ha, .ref ta, .ref sa, .ref oa, .ref pa, .ref ja])), (ta, .inr (5, [.ref tc, .int (nI sz0)])), (tc, .inl (Γ.2 0, 14, .inl (aN tx)))] jIS := by
  refine xt_of (cc := cX6_append) (maxL := 2) (by decide +kernel) (Nat.le_of_ble_eq_true rfl) rfl ?_
  intro p ev R st mi args below meth cd Q A ls C0 hR hret hP hD hS hl
  obtain ⟨hx, hb, hr, hml, hown, hts, hlk, hK, hnm⟩ := C0
  have hown : st.vm.findClass RX6 = some mi.cls := hown
  obtain ⟨rfl, htb, hXS⟩ := hret
  refine lv_iload_n hx hb dX6_append_0 rfl (lv_at hl 1 rfl) ?_
  refine lv_bipush (v := (nI 33)) hx hb dX6_append_1 (by decide) ?_
  refine nb_icmp_lt (tgt := 12) hx hb (by first | omega | assumption) (by first | omega | assumption) dX6_append_3 (by decide) (fun c_3 => by exfalso; omega) (fun c_3 => ?_)
  refine lv_iload_n hx hb dX6_append_6 rfl (lv_at hl 1 rfl) ?_
  refine lv_bipush (v := (nI 126)) hx hb dX6_append_7 (by decide) ?_
  refine nb_icmp_le (tgt := 22) hx hb (by first | omega | assumption) (by first | omega | assumption) dX6_append_9 (by decide) (fun c_9 => ?_) (fun c_9 => by exfalso; omega)
  refine lv_aload_n hx hb dX6_append_22 rfl (lv_at hl 0 rfl) ?_
  refine va_get (D := Γ.1) (ci := 6) (v := .ref ta) (C := RX6) (T := TX6) (N := 9) hx hb hts hinX6 hown hK.1 hP 0 rfl rfl 4 (by decide) (hts _ mw_219) (fun _ h9 => h9) rfl dX6_append_23 ?_
  refine va_getN (host := "TreeKayles") (D := Γ.1) (ci := 5) (v := .int (nI sz0)) (C := RX5) (T := TX5) (N := 2) hx hb hts hinX5 hown hK.1 hP 1 rfl rfl 1 (by decide) (va_Nw.use rfl (hK.nw _ (nwL_at 1 rfl))) (fun _ h9 => h9) rfl dX6_append_26 ?_
  refine lv_bipush (v := (nI 14)) hx hb dX6_append_29 (by decide) ?_
  refine nb_icmp_lt (tgt := 44) hx hb (by first | omega | assumption) (by first | omega | assumption) dX6_append_31 (by decide) (fun c_31 => by exfalso; omega) (fun c_31 => ?_)
  exact xt_thr hx hb hml hown hts hlk hls htb hXS hR (Nat.le_of_ble_eq_true rfl) hP hS hl.1 xE_IS (text := "the buffer is full") (is := 146) (by decide +kernel) dX6_append_34 dX6_append_37 dX6_append_38 dX6_append_40 dX6_append_43
set_option maxHeartbeats 8000000 in
set_option maxRecDepth 100000 in
theorem c_X6_load_x (l : Launch) (hls : l.stackTraces = false) (Γ : kG) (xa : Nat) (xs : Nat) (xk : Nat) (ha : Nat) (ta : Nat) (sa : Nat) (oa : Nat) (pa : Nat) (ja : Nat) (fa : Nat) (tc : Nat) (sz0 : Nat) (tx : Nat → Nat) (htx : ∀ i, i < 14 → tx i < 128) (hsz : sz0 ≤ 14) (hfw : fst (wrg tx) sz0 < sz0) : WX l yX6_load (wsq yX6_load cX6_load 2 (some .int)) (rmX 8 1 6) Γ [.ref xa] [(xa, .inr (6, [.ref fa, .ref xs, .ref xk, .ref ha, .ref ta, .ref sa, .ref oa, .ref pa, .ref ja])), (ta, .inr (5, [.ref tc, .int (nI sz0)])), (tc, .inl (Γ.2 0, 14, .inl (aN tx)))] jIA := by
  refine xt_of (cc := cX6_load) (maxL := 2) (by decide +kernel) (Nat.le_of_ble_eq_true rfl) rfl ?_
  intro p ev R st mi args below meth cd Q A ls C0 hR hret hP hD hS hl
  obtain ⟨hx, hb, hr, hml, hown, hts, hlk, hK, hnm⟩ := C0
  have hown : st.vm.findClass RX6 = some mi.cls := hown
  obtain ⟨rfl, htb, hXS⟩ := hret
  refine lv_aload_n hx hb dX6_load_0 rfl (lv_at hl 0 rfl) ?_
  refine va_get (D := Γ.1) (ci := 6) (v := .ref ta) (C := RX6) (T := TX6) (N := 9) hx hb hts hinX6 hown hK.1 hP 0 rfl rfl 4 (by decide) (hts _ mw_219) (fun _ h9 => h9) rfl dX6_load_1 ?_
  refine ro_fin (va_runVN (As := []) (rest := []) ⟨hx, hb, hml, hown, hts⟩ (c_X5_firstWrong l Γ _ ta tc sz0 tx (hP.sub (ws' := [(ta, .inr (5, [.ref tc, .int (nI sz0)])), (tc, .inl (Γ.2 0, 14, .inl (aN tx)))]) [1, 2] rfl) (by first | omega | assumption) (by first | omega | assumption)) (kcwVN 0 hts kv_X5_firstWrong (hK.nw _ (nwL_at 13 rfl)) (rm_le hR (Nat.le_of_ble_eq_true rfl) (Nat.le_of_ble_eq_true rfl))) (kPc_V hK (va_recv hK.1 hP (ci := 5) (q0 := 1) rfl rfl)) rfl rfl hl.1 rfl (lv_room (Nat.le_of_ble_eq_true rfl)) dX6_load_4 ⟨Nat.zero_le _, Nat.zero_le _⟩) hS (fun locs hS => ?_)
  refine lv_aload_n hx hb dX6_load_7 rfl (lv_at hl 0 rfl) ?_
  refine va_get (D := Γ.1) (ci := 6) (v := .ref ta) (C := RX6) (T := TX6) (N := 9) hx hb hts hinX6 hown hK.1 hP 0 rfl rfl 4 (by decide) (hts _ mw_219) (fun _ h9 => h9) rfl dX6_load_8 ?_
  refine va_getN (host := "TreeKayles") (D := Γ.1) (ci := 5) (v := .int (nI sz0)) (C := RX5) (T := TX5) (N := 2) hx hb hts hinX5 hown hK.1 hP 1 rfl rfl 1 (by decide) (va_Nw.use rfl (hK.nw _ (nwL_at 1 rfl))) (fun _ h9 => h9) rfl dX6_load_11 ?_
  refine nb_icmp_ge (tgt := 27) hx hb (Nat.lt_of_le_of_lt fst_le (by omega)) (by omega) dX6_load_14 (by decide) (fun c_14 => by exfalso; omega) (fun c_14 => ?_)
  exact xt_thr hx hb hml hown hts hlk hls htb hXS hR (Nat.le_of_ble_eq_true rfl) hP hS hl.1 xE_IA (text := "the buffer has a syntax error") (is := 157) (by decide +kernel) dX6_load_17 dX6_load_20 dX6_load_21 dX6_load_23 dX6_load_26
set_option maxHeartbeats 8000000 in
set_option maxRecDepth 100000 in
theorem c_X6_keep_x (l : Launch) (hls : l.stackTraces = false) (Γ : kG) (xa : Nat) (xs : Nat) (xk : Nat) (ha : Nat) (ta : Nat) (sa : Nat) (oa : Nat) (pa : Nat) (ja : Nat) (fa : Nat) (x0 : Int32) (hx0 : ¬ (nI 0 ≤ x0 ∧ x0 ≤ nI 1)) : WX l yX6_keep (wsq yX6_keep cX6_keep 3 (some .int)) (rmX 8 1 6) Γ [.ref xa, .int x0] [(xa, .inr (6, [.ref fa, .ref xs, .ref xk, .ref ha, .ref ta, .ref sa, .ref oa, .ref pa, .ref ja]))] jIA := by
  refine xt_of (cc := cX6_keep) (maxL := 3) (by decide +kernel) (Nat.le_of_ble_eq_true rfl) rfl ?_
  intro p ev R st mi args below meth cd Q A ls C0 hR hret hP hD hS hl
  obtain ⟨hx, hb, hr, hml, hown, hts, hlk, hK, hnm⟩ := C0
  have hown : st.vm.findClass RX6 = some mi.cls := hown
  obtain ⟨rfl, htb, hXS⟩ := hret
  refine lv_iload_n hx hb dX6_keep_0 rfl (lv_at hl 1 rfl) ?_
  exact xt_prop (vx_runS (As := [.int x0]) (rest := []) ⟨hx, hb, hml, hown, hts⟩ (c_X6_requireSlot_x l hls Γ x0 (by first | omega | assumption)) (kcwS 1 hts kv_X6_requireSlot mw_311 (rm_le hR (Nat.le_of_ble_eq_true rfl) (Nat.le_of_ble_eq_true rfl))) (kPx_S hK (hP.sub (ws' := []) [] rfl) (hD.sub (ws' := []) [] (by decide +kernel) rfl) hXS hS) rfl rfl hl.1 rfl (lv_room (Nat.le_of_ble_eq_true rfl)) dX6_keep_1 (by rw [hR]; exact ⟨Nat.le_refl _, Nat.le_refl _⟩)) hlk htb hP hD hS [] rfl rfl
set_option maxHeartbeats 8000000 in
set_option maxRecDepth 100000 in
theorem c_X6_goBack_x (l : Launch) (hls : l.stackTraces = false) (Γ : kG) (xa : Nat) (xs : Nat) (xk : Nat) (ha : Nat) (ta : Nat) (sa : Nat) (oa : Nat) (pa : Nat) (ja : Nat) (fa : Nat) (x0 : Int32) (hx0 : ¬ (nI 0 ≤ x0 ∧ x0 ≤ nI 1)) : WX l yX6_goBack (wsq yX6_goBack cX6_goBack 3 (some .int)) (rmX 8 1 6) Γ [.ref xa, .int x0] [(xa, .inr (6, [.ref fa, .ref xs, .ref xk, .ref ha, .ref ta, .ref sa, .ref oa, .ref pa, .ref ja]))] jIA := by
  refine xt_of (cc := cX6_goBack) (maxL := 3) (by decide +kernel) (Nat.le_of_ble_eq_true rfl) rfl ?_
  intro p ev R st mi args below meth cd Q A ls C0 hR hret hP hD hS hl
  obtain ⟨hx, hb, hr, hml, hown, hts, hlk, hK, hnm⟩ := C0
  have hown : st.vm.findClass RX6 = some mi.cls := hown
  obtain ⟨rfl, htb, hXS⟩ := hret
  refine lv_iload_n hx hb dX6_goBack_0 rfl (lv_at hl 1 rfl) ?_
  exact xt_prop (vx_runS (As := [.int x0]) (rest := []) ⟨hx, hb, hml, hown, hts⟩ (c_X6_requireSlot_x l hls Γ x0 (by first | omega | assumption)) (kcwS 1 hts kv_X6_requireSlot mw_311 (rm_le hR (Nat.le_of_ble_eq_true rfl) (Nat.le_of_ble_eq_true rfl))) (kPx_S hK (hP.sub (ws' := []) [] rfl) (hD.sub (ws' := []) [] (by decide +kernel) rfl) hXS hS) rfl rfl hl.1 rfl (lv_room (Nat.le_of_ble_eq_true rfl)) dX6_goBack_1 (by rw [hR]; exact ⟨Nat.le_refl _, Nat.le_refl _⟩)) hlk htb hP hD hS [] rfl rfl
set_option maxHeartbeats 8000000 in
set_option maxRecDepth 100000 in
theorem c_X6_goBack_f (l : Launch) (hls : l.stackTraces = false) (Γ : kG) (xa : Nat) (xs : Nat) (xk : Nat) (ha : Nat) (ta : Nat) (sa : Nat) (oa : Nat) (pa : Nat) (ja : Nat) (fa : Nat) (sf : Nat → Nat) (sg : Nat → Nat) (se : Nat → Nat) (sn : Nat → Nat) (sh : Nat → Nat) (sm9 : Nat → Nat) (sG : Nat → Nat → Nat) (kp : Nat → Nat) (s0 : Nat) (hsl : s0 < 2) (hkp : kp s0 = 0) : WX l yX6_goBack (wsq yX6_goBack cX6_goBack 3 (some .int)) (rmX 8 1 6) Γ [.ref xa, .int (nI s0)] [(xa, .inr (6, [.ref fa, .ref xs, .ref xk, .ref ha, .ref ta, .ref sa, .ref oa, .ref pa, .ref ja])), (xs, .inl (Γ.2 4, 2, .inr (.inr (.inr (.inr (fun i => some (sf i))))))), ((sf 0), .inr (0, [.ref (sg 0), .int (nI (sn 0)), .int (nI (sh 0)), .int (nI (sm9 0))])), ((sg 0), .inr (1, [.ref (se 0)])), ((se 0), .inl (Γ.2 0, 14, .inl (aN (sG 0)))), ((sf 1), .inr (0, [.ref (sg 1), .int (nI (sn 1)), .int (nI (sh 1)), .int (nI (sm9 1))])), ((sg 1), .inr (1, [.ref (se 1)])), ((se 1), .inl (Γ.2 0, 14, .inl (aN (sG 1)))), (xk, .inl (Γ.2 1, 2, .inl (aN kp)))] jIS := by
  refine xt_of (cc := cX6_goBack) (maxL := 3) (by decide +kernel) (Nat.le_of_ble_eq_true rfl) rfl ?_
  intro p ev R st mi args below meth cd Q A ls C0 hR hret hP hD hS hl
  obtain ⟨hx, hb, hr, hml, hown, hts, hlk, hK, hnm⟩ := C0
  have hown : st.vm.findClass RX6 = some mi.cls := hown
  obtain ⟨rfl, htb, hXS⟩ := hret
  refine lv_iload_n hx hb dX6_goBack_0 rfl (lv_at hl 1 rfl) ?_
  refine wr_finv (va_runS (As := [.int (nI s0)]) (rest := []) ⟨hx, hb, hml, hown, hts⟩ (c_X6_requireSlot_a l Γ s0 (by first | omega | assumption)) (kcwS 1 hts kv_X6_requireSlot mw_311 (rm_le hR (Nat.le_of_ble_eq_true rfl) (Nat.le_of_ble_eq_true rfl))) (kPw_S hK (hP.sub (ws' := []) [] rfl) (hD.sub (ws' := []) [] (by decide +kernel) rfl)) rfl rfl hl.1 rfl (lv_room (Nat.le_of_ble_eq_true rfl)) dX6_goBack_1 ⟨Nat.zero_le _, Nat.zero_le _⟩) hP hD hS [] rfl (fun _ => rfl) (fun _ H locs hw hP hD hS => ?_)
  have hP : va_P Γ.1 vwCl [(xa, .inr (6, [.ref fa, .ref xs, .ref xk, .ref ha, .ref ta, .ref sa, .ref oa, .ref pa, .ref ja])), (xs, .inl (Γ.2 4, 2, .inr (.inr (.inr (.inr (fun i => some (sf i))))))), ((sf 0), .inr (0, [.ref (sg 0), .int (nI (sn 0)), .int (nI (sh 0)), .int (nI (sm9 0))])), ((sg 0), .inr (1, [.ref (se 0)])), ((se 0), .inl (Γ.2 0, 14, .inl (aN (sG 0)))), ((sf 1), .inr (0, [.ref (sg 1), .int (nI (sn 1)), .int (nI (sh 1)), .int (nI (sm9 1))])), ((sg 1), .inr (1, [.ref (se 1)])), ((se 1), .inl (Γ.2 0, 14, .inl (aN (sG 1)))), (xk, .inl (Γ.2 1, 2, .inl (aN kp)))] H := hP
  have hD : va_D A [(xa, .inr (6, [.ref fa, .ref xs, .ref xk, .ref ha, .ref ta, .ref sa, .ref oa, .ref pa, .ref ja])), (xs, .inl (Γ.2 4, 2, .inr (.inr (.inr (.inr (fun i => some (sf i))))))), ((sf 0), .inr (0, [.ref (sg 0), .int (nI (sn 0)), .int (nI (sh 0)), .int (nI (sm9 0))])), ((sg 0), .inr (1, [.ref (se 0)])), ((se 0), .inl (Γ.2 0, 14, .inl (aN (sG 0)))), ((sf 1), .inr (0, [.ref (sg 1), .int (nI (sn 1)), .int (nI (sh 1)), .int (nI (sm9 1))])), ((sg 1), .inr (1, [.ref (se 1)])), ((se 1), .inl (Γ.2 0, 14, .inl (aN (sG 1)))), (xk, .inl (Γ.2 1, 2, .inl (aN kp)))] := hD
  refine lv_aload_n hx hb dX6_goBack_4 rfl (lv_at hl 0 rfl) ?_
  refine va_get (D := Γ.1) (ci := 6) (v := .ref xs) (C := RX6) (T := TX6) (N := 9) hx hb hts hinX6 hown hK.1 hP 0 rfl rfl 1 (by decide) (hts _ mw_210) (fun _ h9 => h9) rfl dX6_goBack_5 ?_
  refine lv_iload_n hx hb dX6_goBack_8 rfl (lv_at hl 1 rfl) ?_
  rcases (show s0 = 0 ∨ s0 = 1 by omega) with rfl | rfl
  · skip
    refine va_aldq hx hb hK.1 hP 1 4 rfl rfl (vin (by omega) (by omega)) dX6_goBack_9 ?_
    refine tp_v (y := .ref (sf 0)) (va_rf_at (f := fun i => some (sf i)) (k := 0) rfl (by decide) rfl) ?_
    refine lv_astore_n (lv' := [(2, .ref (sf 0)), (0, .ref xa), (1, .int (nI 0))]) hx hb dX6_goBack_10 rfl hl (by decide) rfl (fun ls hl => ?_)
    refine lv_aload_n hx hb dX6_goBack_11 rfl (lv_at hl 0 rfl) ?_
    refine lv_ifnull hx hb dX6_goBack_12 ?_
    refine lv_aload_n hx hb dX6_goBack_15 rfl (lv_at hl 1 rfl) ?_
    refine va_get (D := Γ.1) (ci := 6) (v := .ref xk) (C := RX6) (T := TX6) (N := 9) hx hb hts hinX6 hown hK.1 hP 0 rfl rfl 2 (by decide) (hts _ mw_212) (fun _ h9 => h9) rfl dX6_goBack_16 ?_
    refine lv_iload_n hx hb dX6_goBack_19 rfl (lv_at hl 2 rfl) ?_
    refine zald_N hx hb hK.1 hP 8 1 rfl rfl (by omega) (by first | decide | assumption) dX6_goBack_20 ?_
    refine nb_if_ne (tgt := 34) hx hb (by omega) dX6_goBack_21 (by decide) (fun c_21 => by exfalso; first | exact c_21 hkp | omega) (fun c_21 => ?_)
    exact xt_thr hx hb hml hown hts hlk hls htb hXS hR (Nat.le_of_ble_eq_true rfl) hP hS hl.1 xE_IS (text := "there is no snapshot in the slot") (is := 179) (by decide +kernel) dX6_goBack_24 dX6_goBack_27 dX6_goBack_28 dX6_goBack_30 dX6_goBack_33
  · skip
    refine va_aldq hx hb hK.1 hP 1 4 rfl rfl (vin (by omega) (by omega)) dX6_goBack_9 ?_
    refine tp_v (y := .ref (sf 1)) (va_rf_at (f := fun i => some (sf i)) (k := 1) rfl (by decide) rfl) ?_
    refine lv_astore_n (lv' := [(2, .ref (sf 1)), (0, .ref xa), (1, .int (nI 1))]) hx hb dX6_goBack_10 rfl hl (by decide) rfl (fun ls hl => ?_)
    refine lv_aload_n hx hb dX6_goBack_11 rfl (lv_at hl 0 rfl) ?_
    refine lv_ifnull hx hb dX6_goBack_12 ?_
    refine lv_aload_n hx hb dX6_goBack_15 rfl (lv_at hl 1 rfl) ?_
    refine va_get (D := Γ.1) (ci := 6) (v := .ref xk) (C := RX6) (T := TX6) (N := 9) hx hb hts hinX6 hown hK.1 hP 0 rfl rfl 2 (by decide) (hts _ mw_212) (fun _ h9 => h9) rfl dX6_goBack_16 ?_
    refine lv_iload_n hx hb dX6_goBack_19 rfl (lv_at hl 2 rfl) ?_
    refine zald_N hx hb hK.1 hP 8 1 rfl rfl (by omega) (by first | decide | assumption) dX6_goBack_20 ?_
    refine nb_if_ne (tgt := 34) hx hb (by omega) dX6_goBack_21 (by decide) (fun c_21 => by exfalso; first | exact c_21 hkp | omega) (fun c_21 => ?_)
    exact xt_thr hx hb hml hown hts hlk hls htb hXS hR (Nat.le_of_ble_eq_true rfl) hP hS hl.1 xE_IS (text := "there is no snapshot in the slot") (is := 179) (by decide +kernel) dX6_goBack_24 dX6_goBack_27 dX6_goBack_28 dX6_goBack_30 dX6_goBack_33
set_option maxHeartbeats 8000000 in
set_option maxRecDepth 100000 in
theorem c_X6_undo_x (l : Launch) (hls : l.stackTraces = false) (Γ : kG) (xa : Nat) (xs : Nat) (xk : Nat) (ha : Nat) (ta : Nat) (sa : Nat) (oa : Nat) (pa : Nat) (ja : Nat) (fa : Nat) (hro : Nat) (ho0 : Nat) (hs0 : Nat) (hz : hs0 = 0) : WX l yX6_undo (wsq yX6_undo cX6_undo 1 (some .int)) (rmX 8 1 6) Γ [.ref xa] [(xa, .inr (6, [.ref fa, .ref xs, .ref xk, .ref ha, .ref ta, .ref sa, .ref oa, .ref pa, .ref ja])), (ha, .inr (2, [.ref hro, .int (nI ho0), .int (nI hs0)]))] jIS := by
  refine xt_of (cc := cX6_undo) (maxL := 1) (by decide +kernel) (Nat.le_of_ble_eq_true rfl) rfl ?_
  intro p ev R st mi args below meth cd Q A ls C0 hR hret hP hD hS hl
  obtain ⟨hx, hb, hr, hml, hown, hts, hlk, hK, hnm⟩ := C0
  have hown : st.vm.findClass RX6 = some mi.cls := hown
  obtain ⟨rfl, htb, hXS⟩ := hret
  refine lv_aload_n hx hb dX6_undo_0 rfl (lv_at hl 0 rfl) ?_
  refine va_get (D := Γ.1) (ci := 6) (v := .ref ha) (C := RX6) (T := TX6) (N := 9) hx hb hts hinX6 hown hK.1 hP 0 rfl rfl 3 (by decide) (hts _ mw_216) (fun _ h9 => h9) rfl dX6_undo_1 ?_
  refine va_getN (host := "TreeKayles") (D := Γ.1) (ci := 2) (v := .int (nI hs0)) (C := RX2) (T := TX2) (N := 3) hx hb hts hinX2 hown hK.1 hP 1 rfl rfl 2 (by decide) (va_Nw.use rfl (hK.nw _ (nwL_at 2 rfl))) (fun _ h9 => h9) rfl dX6_undo_4 ?_
  refine nb_if_ne (tgt := 20) hx hb (by omega) dX6_undo_7 (by decide) (fun c_7 => by exfalso; first | exact c_7 hz | omega) (fun c_7 => ?_)
  exact xt_thr hx hb hml hown hts hlk hls htb hXS hR (Nat.le_of_ble_eq_true rfl) hP hS hl.1 xE_IS (text := "there is no saved state") (is := 182) (by decide +kernel) dX6_undo_10 dX6_undo_13 dX6_undo_14 dX6_undo_16 dX6_undo_19
set_option maxHeartbeats 8000000 in
set_option maxRecDepth 100000 in
theorem c_X6_nodeOf_x (l : Launch) (hls : l.stackTraces = false) (Γ : kG) (xa : Nat) (xs : Nat) (xk : Nat) (ha : Nat) (ta : Nat) (sa : Nat) (oa : Nat) (pa : Nat) (ja : Nat) (fa : Nat) (n0 : Nat) (th0 : Nat) (mv0 : Nat) (a : Nat) (e : Nat) (g : Nat → Nat) (x0 : Int32) (y0 : Int32) (hn0 : n0 ≤ 14) (hx0 : isN n0 x0 = false) : WX l yX6_nodeOf (wsq yX6_nodeOf cX6_nodeOf 3 (some .int)) (rmX 8 1 6) Γ [.ref xa, .int x0, .int y0] [(xa, .inr (6, [.ref fa, .ref xs, .ref xk, .ref ha, .ref ta, .ref sa, .ref oa, .ref pa, .ref ja])), (fa, .inr (0, [.ref a, .int (nI n0), .int (nI th0), .int (nI mv0)])), (a, .inr (1, [.ref e])), (e, .inl (Γ.2 0, 14, .inl (aN g)))] jIO := by
  refine xt_of (cc := cX6_nodeOf) (maxL := 3) (by decide +kernel) (Nat.le_of_ble_eq_true rfl) rfl ?_
  intro p ev R st mi args below meth cd Q A ls C0 hR hret hP hD hS hl
  obtain ⟨hx, hb, hr, hml, hown, hts, hlk, hK, hnm⟩ := C0
  have hown : st.vm.findClass RX6 = some mi.cls := hown
  obtain ⟨rfl, htb, hXS⟩ := hret
  refine lv_aload_n hx hb dX6_nodeOf_0 rfl (lv_at hl 0 rfl) ?_
  refine lv_iload_n hx hb dX6_nodeOf_1 rfl (lv_at hl 1 rfl) ?_
  exact xt_prop (vx_runV (As := [.int x0]) (rest := []) ⟨hx, hb, hml, hown, hts⟩ (c_X6_requireNode_x l hls Γ xa xs xk ha ta sa oa pa ja fa n0 th0 mv0 a e g x0 (by first | omega | assumption) (hx0)) (kcwV 1 hts kv_X6_requireNode mw_240 (rm_le hR (Nat.le_of_ble_eq_true rfl) (Nat.le_of_ble_eq_true rfl))) (kPx_V hK (va_recv hK.1 hP (ci := 6) (q0 := 0) rfl rfl) (hP.sub (ws' := [(xa, .inr (6, [.ref fa, .ref xs, .ref xk, .ref ha, .ref ta, .ref sa, .ref oa, .ref pa, .ref ja])), (fa, .inr (0, [.ref a, .int (nI n0), .int (nI th0), .int (nI mv0)])), (a, .inr (1, [.ref e])), (e, .inl (Γ.2 0, 14, .inl (aN g)))]) [0, 1, 2, 3] rfl) (hD.sub (ws' := [(xa, .inr (6, [.ref fa, .ref xs, .ref xk, .ref ha, .ref ta, .ref sa, .ref oa, .ref pa, .ref ja])), (fa, .inr (0, [.ref a, .int (nI n0), .int (nI th0), .int (nI mv0)])), (a, .inr (1, [.ref e])), (e, .inl (Γ.2 0, 14, .inl (aN g)))]) [0, 1, 2, 3] (by decide +kernel) rfl) hXS hS) rfl rfl hl.1 rfl (lv_room (Nat.le_of_ble_eq_true rfl)) dX6_nodeOf_2 (by rw [hR]; exact ⟨Nat.le_refl _, Nat.le_refl _⟩)) hlk htb hP hD hS [0, 1, 2, 3] rfl rfl
set_option maxHeartbeats 8000000 in
set_option maxRecDepth 100000 in
theorem c_X6_nodeOf_f (l : Launch) (hls : l.stackTraces = false) (Γ : kG) (xa : Nat) (xs : Nat) (xk : Nat) (ha : Nat) (ta : Nat) (sa : Nat) (oa : Nat) (pa : Nat) (ja : Nat) (fa : Nat) (n0 : Nat) (th0 : Nat) (mv0 : Nat) (a : Nat) (e : Nat) (g : Nat → Nat) (v0 : Nat) (y0 : Int32) (hn0 : n0 ≤ 14) (hv0 : v0 < n0) (hy0 : ¬ (nI 0 ≤ y0 ∧ y0 ≤ nI 5)) : WX l yX6_nodeOf (wsq yX6_nodeOf cX6_nodeOf 3 (some .int)) (rmX 8 1 6) Γ [.ref xa, .int (nI v0), .int y0] [(xa, .inr (6, [.ref fa, .ref xs, .ref xk, .ref ha, .ref ta, .ref sa, .ref oa, .ref pa, .ref ja])), (fa, .inr (0, [.ref a, .int (nI n0), .int (nI th0), .int (nI mv0)])), (a, .inr (1, [.ref e])), (e, .inl (Γ.2 0, 14, .inl (aN g)))] jIA := by
  refine xt_of (cc := cX6_nodeOf) (maxL := 3) (by decide +kernel) (Nat.le_of_ble_eq_true rfl) rfl ?_
  intro p ev R st mi args below meth cd Q A ls C0 hR hret hP hD hS hl
  obtain ⟨hx, hb, hr, hml, hown, hts, hlk, hK, hnm⟩ := C0
  have hown : st.vm.findClass RX6 = some mi.cls := hown
  obtain ⟨rfl, htb, hXS⟩ := hret
  refine lv_aload_n hx hb dX6_nodeOf_0 rfl (lv_at hl 0 rfl) ?_
  refine lv_iload_n hx hb dX6_nodeOf_1 rfl (lv_at hl 1 rfl) ?_
  refine wr_finv (va_runV (As := [.int (nI v0)]) (rest := []) ⟨hx, hb, hml, hown, hts⟩ (c_X6_requireNode_a l Γ xa xs xk ha ta sa oa pa ja fa n0 th0 mv0 a e g v0 (hv0) (by first | omega | assumption)) (kcwV 1 hts kv_X6_requireNode mw_240 (rm_le hR (Nat.le_of_ble_eq_true rfl) (Nat.le_of_ble_eq_true rfl))) (kPw_V hK (va_recv hK.1 hP (ci := 6) (q0 := 0) rfl rfl) (hP.sub (ws' := [(xa, .inr (6, [.ref fa, .ref xs, .ref xk, .ref ha, .ref ta, .ref sa, .ref oa, .ref pa, .ref ja])), (fa, .inr (0, [.ref a, .int (nI n0), .int (nI th0), .int (nI mv0)])), (a, .inr (1, [.ref e])), (e, .inl (Γ.2 0, 14, .inl (aN g)))]) [0, 1, 2, 3] rfl) (hD.sub (ws' := [(xa, .inr (6, [.ref fa, .ref xs, .ref xk, .ref ha, .ref ta, .ref sa, .ref oa, .ref pa, .ref ja])), (fa, .inr (0, [.ref a, .int (nI n0), .int (nI th0), .int (nI mv0)])), (a, .inr (1, [.ref e])), (e, .inl (Γ.2 0, 14, .inl (aN g)))]) [0, 1, 2, 3] (by decide +kernel) rfl)) rfl rfl hl.1 rfl (lv_room (Nat.le_of_ble_eq_true rfl)) dX6_nodeOf_2 ⟨Nat.zero_le _, Nat.zero_le _⟩) hP hD hS [0, 1, 2, 3] rfl (fun _ => rfl) (fun _ H locs hw hP hD hS => ?_)
  have hP : va_P Γ.1 vwCl [(xa, .inr (6, [.ref fa, .ref xs, .ref xk, .ref ha, .ref ta, .ref sa, .ref oa, .ref pa, .ref ja])), (fa, .inr (0, [.ref a, .int (nI n0), .int (nI th0), .int (nI mv0)])), (a, .inr (1, [.ref e])), (e, .inl (Γ.2 0, 14, .inl (aN g)))] H := hP
  have hD : va_D A [(xa, .inr (6, [.ref fa, .ref xs, .ref xk, .ref ha, .ref ta, .ref sa, .ref oa, .ref pa, .ref ja])), (fa, .inr (0, [.ref a, .int (nI n0), .int (nI th0), .int (nI mv0)])), (a, .inr (1, [.ref e])), (e, .inl (Γ.2 0, 14, .inl (aN g)))] := hD
  refine lv_iload_n hx hb dX6_nodeOf_5 rfl (lv_at hl 2 rfl) ?_
  refine lv_bipush (v := (nI 6)) hx hb dX6_nodeOf_6 (by decide) ?_
  exact xt_prop (vx_runS (As := [.int y0, .int (nI 6)]) (rest := []) ⟨hx, hb, hml, hown, hts⟩ (c_X6_requireBelow_x l hls Γ y0 6 (by decide) (hy0) (by decide)) (kcwS 2 hts kv_X6_requireBelow mw_319 (rm_le hR (Nat.le_of_ble_eq_true rfl) (Nat.le_of_ble_eq_true rfl))) (kPx_S hK (hP.sub (ws' := []) [] rfl) (hD.sub (ws' := []) [] (by decide +kernel) rfl) hXS hS) rfl rfl hl.1 rfl (lv_room (Nat.le_of_ble_eq_true rfl)) dX6_nodeOf_8 (by rw [hR]; exact ⟨Nat.le_refl _, Nat.le_refl _⟩)) hlk htb hP hD hS [] rfl rfl
set_option maxHeartbeats 8000000 in
set_option maxRecDepth 100000 in
theorem c_X6_tree_x (l : Launch) (hls : l.stackTraces = false) (Γ : kG) (xa : Nat) (xs : Nat) (xk : Nat) (ha : Nat) (ta : Nat) (sa : Nat) (oa : Nat) (pa : Nat) (ja : Nat) (fa : Nat) (n0 : Nat) (th0 : Nat) (mv0 : Nat) (a : Nat) (e : Nat) (g : Nat → Nat) (k0 : Nat) (y0 : Int32) (hfg : FG g) (hn0 : n0 ≤ 14) (hth : th0 < 2 ^ n0) (hk0 : k0 < 2147483648) (hk1 : trC g th0 ≤ k0) : WX l yX6_tree (wsq yX6_tree cX6_tree 4 (some .int)) (rmX 8 1 6) Γ [.ref xa, .int (nI k0), .int y0] [(xa, .inr (6, [.ref fa, .ref xs, .ref xk, .ref ha, .ref ta, .ref sa, .ref oa, .ref pa, .ref ja])), (fa, .inr (0, [.ref a, .int (nI n0), .int (nI th0), .int (nI mv0)])), (a, .inr (1, [.ref e])), (e, .inl (Γ.2 0, 14, .inl (aN g)))] jIO := by
  refine xt_of (cc := cX6_tree) (maxL := 4) (by decide +kernel) (Nat.le_of_ble_eq_true rfl) rfl ?_
  intro p ev R st mi args below meth cd Q A ls C0 hR hret hP hD hS hl
  obtain ⟨hx, hb, hr, hml, hown, hts, hlk, hK, hnm⟩ := C0
  have hown : st.vm.findClass RX6 = some mi.cls := hown
  obtain ⟨rfl, htb, hXS⟩ := hret
  have hw14 := w14 hth hn0
  have hc := (trC_spec g hw14).1
  have hz9 := trA_no hw14 hk1
  refine lv_aload_n hx hb dX6_tree_0 rfl (lv_at hl 0 rfl) ?_
  refine va_get (D := Γ.1) (ci := 6) (v := .ref fa) (C := RX6) (T := TX6) (N := 9) hx hb hts hinX6 hown hK.1 hP 0 rfl rfl 0 (by decide) (hts _ mw_209) (fun _ h9 => h9) rfl dX6_tree_1 ?_
  refine lv_iload_n hx hb dX6_tree_4 rfl (lv_at hl 1 rfl) ?_
  refine ro_fin (va_runVN (As := [.int (nI k0)]) (rest := []) ⟨hx, hb, hml, hown, hts⟩ (c_X0_treeAt l Γ _ fa n0 th0 mv0 a e g k0 (hP.sub (ws' := [(fa, .inr (0, [.ref a, .int (nI n0), .int (nI th0), .int (nI mv0)])), (a, .inr (1, [.ref e])), (e, .inl (Γ.2 0, 14, .inl (aN g)))]) [1, 2, 3] rfl) (hfg.1) (hw14) (by first | omega | assumption)) (kcwVN 1 hts kv_X0_treeAt (hK.nw _ (nwL_at 27 rfl)) (rm_le hR (Nat.le_of_ble_eq_true rfl) (Nat.le_of_ble_eq_true rfl))) (kPc_V hK (va_recv hK.1 hP (ci := 0) (q0 := 1) rfl rfl)) rfl rfl hl.1 rfl (lv_room (Nat.le_of_ble_eq_true rfl)) dX6_tree_5 ⟨Nat.zero_le _, Nat.zero_le _⟩) hS (fun locs hS => ?_)
  refine tp_i (y := (nI 0)) (by rw [hz9]) ?_
  refine lv_istore_n (lv' := [(3, .int (nI 0)), (0, .ref xa), (1, .int (nI k0)), (2, .int y0)]) hx hb dX6_tree_8 rfl hl (by decide) rfl (fun ls hl => ?_)
  refine lv_iload_n hx hb dX6_tree_9 rfl (lv_at hl 0 rfl) ?_
  refine nb_if_ne (tgt := 23) hx hb (by first | omega | assumption) dX6_tree_10 (by decide) (fun c_10 => by exfalso; exact c_10 rfl) (fun c_10 => ?_)
  exact xt_thr hx hb hml hown hts hlk hls htb hXS hR (Nat.le_of_ble_eq_true rfl) hP hS hl.1 xE_IO (text := "there is no such tree") (is := 221) (by decide +kernel) dX6_tree_13 dX6_tree_16 dX6_tree_17 dX6_tree_19 dX6_tree_22
set_option maxHeartbeats 8000000 in
set_option maxRecDepth 100000 in
theorem c_X6_tree_n (l : Launch) (hls : l.stackTraces = false) (Γ : kG) (xa : Nat) (xs : Nat) (xk : Nat) (ha : Nat) (ta : Nat) (sa : Nat) (oa : Nat) (pa : Nat) (ja : Nat) (fa : Nat) (n0 : Nat) (th0 : Nat) (mv0 : Nat) (a : Nat) (e : Nat) (g : Nat → Nat) (x0 : Int32) (y0 : Int32) (hfg : FG g) (hn0 : n0 ≤ 14) (hth : th0 < 2 ^ n0) (hx0 : x0 < 0) : WX l yX6_tree (wsq yX6_tree cX6_tree 4 (some .int)) (rmX 8 1 6) Γ [.ref xa, .int x0, .int y0] [(xa, .inr (6, [.ref fa, .ref xs, .ref xk, .ref ha, .ref ta, .ref sa, .ref oa, .ref pa, .ref ja])), (fa, .inr (0, [.ref a, .int (nI n0), .int (nI th0), .int (nI mv0)])), (a, .inr (1, [.ref e])), (e, .inl (Γ.2 0, 14, .inl (aN g)))] jIO := by
  refine xt_of (cc := cX6_tree) (maxL := 4) (by decide +kernel) (Nat.le_of_ble_eq_true rfl) rfl ?_
  intro p ev R st mi args below meth cd Q A ls C0 hR hret hP hD hS hl
  obtain ⟨hx, hb, hr, hml, hown, hts, hlk, hK, hnm⟩ := C0
  have hown : st.vm.findClass RX6 = some mi.cls := hown
  obtain ⟨rfl, htb, hXS⟩ := hret
  have hw14 := w14 hth hn0
  have hc := (trC_spec g hw14).1
  refine lv_aload_n hx hb dX6_tree_0 rfl (lv_at hl 0 rfl) ?_
  refine va_get (D := Γ.1) (ci := 6) (v := .ref fa) (C := RX6) (T := TX6) (N := 9) hx hb hts hinX6 hown hK.1 hP 0 rfl rfl 0 (by decide) (hts _ mw_209) (fun _ h9 => h9) rfl dX6_tree_1 ?_
  refine lv_iload_n hx hb dX6_tree_4 rfl (lv_at hl 1 rfl) ?_
  refine ro_fin (va_runVN (As := [.int x0]) (rest := []) ⟨hx, hb, hml, hown, hts⟩ (c_X0_treeAt_neg l Γ _ fa n0 th0 mv0 a e g x0 (hP.sub (ws' := [(fa, .inr (0, [.ref a, .int (nI n0), .int (nI th0), .int (nI mv0)])), (a, .inr (1, [.ref e])), (e, .inl (Γ.2 0, 14, .inl (aN g)))]) [1, 2, 3] rfl) (hfg.1) (hw14) (by first | omega | assumption)) (kcwVN 1 hts kv_X0_treeAt (hK.nw _ (nwL_at 27 rfl)) (rm_le hR (Nat.le_of_ble_eq_true rfl) (Nat.le_of_ble_eq_true rfl))) (kPc_V hK (va_recv hK.1 hP (ci := 0) (q0 := 1) rfl rfl)) rfl rfl hl.1 rfl (lv_room (Nat.le_of_ble_eq_true rfl)) dX6_tree_5 ⟨Nat.zero_le _, Nat.zero_le _⟩) hS (fun locs hS => ?_)
  refine lv_istore_n (lv' := [(3, .int (nI 0)), (0, .ref xa), (1, .int x0), (2, .int y0)]) hx hb dX6_tree_8 rfl hl (by decide) rfl (fun ls hl => ?_)
  refine lv_iload_n hx hb dX6_tree_9 rfl (lv_at hl 0 rfl) ?_
  refine nb_if_ne (tgt := 23) hx hb (by first | omega | assumption) dX6_tree_10 (by decide) (fun c_10 => by exfalso; exact c_10 rfl) (fun c_10 => ?_)
  exact xt_thr hx hb hml hown hts hlk hls htb hXS hR (Nat.le_of_ble_eq_true rfl) hP hS hl.1 xE_IO (text := "there is no such tree") (is := 221) (by decide +kernel) dX6_tree_13 dX6_tree_16 dX6_tree_17 dX6_tree_19 dX6_tree_22
set_option maxHeartbeats 8000000 in
set_option maxRecDepth 100000 in
theorem c_X6_tree_f (l : Launch) (hls : l.stackTraces = false) (Γ : kG) (xa : Nat) (xs : Nat) (xk : Nat) (ha : Nat) (ta : Nat) (sa : Nat) (oa : Nat) (pa : Nat) (ja : Nat) (fa : Nat) (n0 : Nat) (th0 : Nat) (mv0 : Nat) (a : Nat) (e : Nat) (g : Nat → Nat) (t0 : Nat) (y0 : Int32) (hfg : FG g) (hn0 : n0 ≤ 14) (hth : th0 < 2 ^ n0) (ht0 : t0 < trC g th0) (hy0 : ¬ (nI 0 ≤ y0 ∧ y0 ≤ nI 5)) : WX l yX6_tree (wsq yX6_tree cX6_tree 4 (some .int)) (rmX 8 1 6) Γ [.ref xa, .int (nI t0), .int y0] [(xa, .inr (6, [.ref fa, .ref xs, .ref xk, .ref ha, .ref ta, .ref sa, .ref oa, .ref pa, .ref ja])), (fa, .inr (0, [.ref a, .int (nI n0), .int (nI th0), .int (nI mv0)])), (a, .inr (1, [.ref e])), (e, .inl (Γ.2 0, 14, .inl (aN g)))] jIA := by
  refine xt_of (cc := cX6_tree) (maxL := 4) (by decide +kernel) (Nat.le_of_ble_eq_true rfl) rfl ?_
  intro p ev R st mi args below meth cd Q A ls C0 hR hret hP hD hS hl
  obtain ⟨hx, hb, hr, hml, hown, hts, hlk, hK, hnm⟩ := C0
  have hown : st.vm.findClass RX6 = some mi.cls := hown
  obtain ⟨rfl, htb, hXS⟩ := hret
  have hw14 := w14 hth hn0
  have hc := (trC_spec g hw14).1
  have hz9 : trA g th0 t0 ≠ 0 := fun q9 => (trC_spec g hw14).2.2 t0 ht0 ((trA_0 hw14).mp q9)
  have hl9 := trA_lt g th0 t0
  refine lv_aload_n hx hb dX6_tree_0 rfl (lv_at hl 0 rfl) ?_
  refine va_get (D := Γ.1) (ci := 6) (v := .ref fa) (C := RX6) (T := TX6) (N := 9) hx hb hts hinX6 hown hK.1 hP 0 rfl rfl 0 (by decide) (hts _ mw_209) (fun _ h9 => h9) rfl dX6_tree_1 ?_
  refine lv_iload_n hx hb dX6_tree_4 rfl (lv_at hl 1 rfl) ?_
  refine ro_fin (va_runVN (As := [.int (nI t0)]) (rest := []) ⟨hx, hb, hml, hown, hts⟩ (c_X0_treeAt l Γ _ fa n0 th0 mv0 a e g t0 (hP.sub (ws' := [(fa, .inr (0, [.ref a, .int (nI n0), .int (nI th0), .int (nI mv0)])), (a, .inr (1, [.ref e])), (e, .inl (Γ.2 0, 14, .inl (aN g)))]) [1, 2, 3] rfl) (hfg.1) (hw14) (by first | omega | assumption)) (kcwVN 1 hts kv_X0_treeAt (hK.nw _ (nwL_at 27 rfl)) (rm_le hR (Nat.le_of_ble_eq_true rfl) (Nat.le_of_ble_eq_true rfl))) (kPc_V hK (va_recv hK.1 hP (ci := 0) (q0 := 1) rfl rfl)) rfl rfl hl.1 rfl (lv_room (Nat.le_of_ble_eq_true rfl)) dX6_tree_5 ⟨Nat.zero_le _, Nat.zero_le _⟩) hS (fun locs hS => ?_)
  refine lv_istore_n (lv' := [(3, .int (nI (trA g th0 t0))), (0, .ref xa), (1, .int (nI t0)), (2, .int y0)]) hx hb dX6_tree_8 rfl hl (by decide) rfl (fun ls hl => ?_)
  refine lv_iload_n hx hb dX6_tree_9 rfl (lv_at hl 0 rfl) ?_
  refine nb_if_ne (tgt := 23) hx hb (by omega) dX6_tree_10 (by decide) (fun c_10 => ?_) (fun c_10 => by exfalso; exact hz9 c_10)
  refine lv_iload_n hx hb dX6_tree_23 rfl (lv_at hl 3 rfl) ?_
  refine lv_bipush (v := (nI 6)) hx hb dX6_tree_24 (by decide) ?_
  exact xt_prop (vx_runS (As := [.int y0, .int (nI 6)]) (rest := []) ⟨hx, hb, hml, hown, hts⟩ (c_X6_requireBelow_x l hls Γ y0 6 (by decide) (hy0) (by decide)) (kcwS 2 hts kv_X6_requireBelow mw_319 (rm_le hR (Nat.le_of_ble_eq_true rfl) (Nat.le_of_ble_eq_true rfl))) (kPx_S hK (hP.sub (ws' := []) [] rfl) (hD.sub (ws' := []) [] (by decide +kernel) rfl) hXS hS) rfl rfl hl.1 rfl (lv_room (Nat.le_of_ble_eq_true rfl)) dX6_tree_26 (by rw [hR]; exact ⟨Nat.le_refl _, Nat.le_refl _⟩)) hlk htb hP hD hS [] rfl rfl
set_option maxHeartbeats 8000000 in
set_option maxRecDepth 100000 in
theorem c_X6_count_x (l : Launch) (hls : l.stackTraces = false) (Γ : kG) (xa : Nat) (xs : Nat) (xk : Nat) (ha : Nat) (ta : Nat) (sa : Nat) (oa : Nat) (pa : Nat) (ja : Nat) (fa : Nat) (x0 : Int32) (hx0 : ¬ (nI 0 ≤ x0 ∧ x0 ≤ nI 11)) : WX l yX6_count (wsq yX6_count cX6_count 2 (some .int)) (rmX 8 1 6) Γ [.ref xa, .int x0] [(xa, .inr (6, [.ref fa, .ref xs, .ref xk, .ref ha, .ref ta, .ref sa, .ref oa, .ref pa, .ref ja]))] jIA := by
  refine xt_of (cc := cX6_count) (maxL := 2) (by decide +kernel) (Nat.le_of_ble_eq_true rfl) rfl ?_
  intro p ev R st mi args below meth cd Q A ls C0 hR hret hP hD hS hl
  obtain ⟨hx, hb, hr, hml, hown, hts, hlk, hK, hnm⟩ := C0
  have hown : st.vm.findClass RX6 = some mi.cls := hown
  obtain ⟨rfl, htb, hXS⟩ := hret
  refine lv_iload_n hx hb dX6_count_0 rfl (lv_at hl 1 rfl) ?_
  refine lv_bipush (v := (nI 12)) hx hb dX6_count_1 (by decide) ?_
  exact xt_prop (vx_runS (As := [.int x0, .int (nI 12)]) (rest := []) ⟨hx, hb, hml, hown, hts⟩ (c_X6_requireBelow_x l hls Γ x0 12 (by decide) (hx0) (by decide)) (kcwS 2 hts kv_X6_requireBelow mw_319 (rm_le hR (Nat.le_of_ble_eq_true rfl) (Nat.le_of_ble_eq_true rfl))) (kPx_S hK (hP.sub (ws' := []) [] rfl) (hD.sub (ws' := []) [] (by decide +kernel) rfl) hXS hS) rfl rfl hl.1 rfl (lv_room (Nat.le_of_ble_eq_true rfl)) dX6_count_3 (by rw [hR]; exact ⟨Nat.le_refl _, Nat.le_refl _⟩)) hlk htb hP hD hS [] rfl rfl
set_option maxHeartbeats 8000000 in
set_option maxRecDepth 100000 in
theorem c_X6_mirror_x (l : Launch) (hls : l.stackTraces = false) (Γ : kG) (xa : Nat) (xs : Nat) (xk : Nat) (ha : Nat) (ta : Nat) (sa : Nat) (oa : Nat) (pa : Nat) (ja : Nat) (fa : Nat) (x0 : Int32) (hx0 : x0 < 0) : WX l yX6_mirror (wsq yX6_mirror cX6_mirror 5 (some .int)) (rmX 8 1 6) Γ [.ref xa, .int x0] [(xa, .inr (6, [.ref fa, .ref xs, .ref xk, .ref ha, .ref ta, .ref sa, .ref oa, .ref pa, .ref ja]))] jIA := by
  refine xt_of (cc := cX6_mirror) (maxL := 5) (by decide +kernel) (Nat.le_of_ble_eq_true rfl) rfl ?_
  intro p ev R st mi args below meth cd Q A ls C0 hR hret hP hD hS hl
  obtain ⟨hx, hb, hr, hml, hown, hts, hlk, hK, hnm⟩ := C0
  have hown : st.vm.findClass RX6 = some mi.cls := hown
  obtain ⟨rfl, htb, hXS⟩ := hret
  refine lv_iload_n hx hb dX6_mirror_0 rfl (lv_at hl 1 rfl) ?_
  refine lv_if_ge (tgt := 14) hx hb dX6_mirror_1 (by decide) (fun c_1 => by exfalso; first | exact c_1 hx0 | exact absurd hx0 (Int32.not_lt.mpr c_1)) (fun c_1 => ?_)
  exact xt_thr hx hb hml hown hts hlk hls htb hXS hR (Nat.le_of_ble_eq_true rfl) hP hS hl.1 xE_IA (text := "the rank is below 0") (is := 254) (by decide +kernel) dX6_mirror_4 dX6_mirror_7 dX6_mirror_8 dX6_mirror_10 dX6_mirror_13
set_option maxHeartbeats 8000000 in
set_option maxRecDepth 100000 in
theorem c_X6_value_x (l : Launch) (hls : l.stackTraces = false) (Γ : kG) (xa : Nat) (xs : Nat) (xk : Nat) (ha : Nat) (ta : Nat) (sa : Nat) (oa : Nat) (pa : Nat) (ja : Nat) (fa : Nat) (n0 : Nat) (th0 : Nat) (mv0 : Nat) (a : Nat) (e : Nat) (g : Nat → Nat) (x0 : Int32) (hx0 : x0 &&& (nI th0 ^^^ (-1)) ≠ 0) : WX l yX6_value (wsq yX6_value cX6_value 2 (some .int)) (rmX 8 1 6) Γ [.ref xa, .int x0] [(xa, .inr (6, [.ref fa, .ref xs, .ref xk, .ref ha, .ref ta, .ref sa, .ref oa, .ref pa, .ref ja])), (fa, .inr (0, [.ref a, .int (nI n0), .int (nI th0), .int (nI mv0)])), (a, .inr (1, [.ref e])), (e, .inl (Γ.2 0, 14, .inl (aN g)))] jIA := by
  refine xt_of (cc := cX6_value) (maxL := 2) (by decide +kernel) (Nat.le_of_ble_eq_true rfl) rfl ?_
  intro p ev R st mi args below meth cd Q A ls C0 hR hret hP hD hS hl
  obtain ⟨hx, hb, hr, hml, hown, hts, hlk, hK, hnm⟩ := C0
  have hown : st.vm.findClass RX6 = some mi.cls := hown
  obtain ⟨rfl, htb, hXS⟩ := hret
  refine lv_iload_n hx hb dX6_value_0 rfl (lv_at hl 1 rfl) ?_
  refine lv_aload_n hx hb dX6_value_1 rfl (lv_at hl 0 rfl) ?_
  refine va_get (D := Γ.1) (ci := 6) (v := .ref fa) (C := RX6) (T := TX6) (N := 9) hx hb hts hinX6 hown hK.1 hP 0 rfl rfl 0 (by decide) (hts _ mw_209) (fun _ h9 => h9) rfl dX6_value_2 ?_
  refine va_getN (host := "TreeKayles") (D := Γ.1) (ci := 0) (v := .int (nI th0)) (C := RX0) (T := TX0) (N := 4) hx hb hts hinX0 hown hK.1 hP 1 rfl rfl 2 (by decide) (va_Nw.use rfl (hK.nw _ (nwL_at 0 rfl))) (fun _ h9 => h9) rfl dX6_value_5 ?_
  refine lv_iconst (v := (-1)) hx hb dX6_value_8 (by decide) ?_
  refine lv_ixor hx hb dX6_value_9 ?_
  refine lv_iand hx hb dX6_value_10 ?_
  refine lv_if_eq (tgt := 25) hx hb dX6_value_11 (by decide) (fun c_11 => by exfalso; exact hx0 c_11) (fun c_11 => ?_)
  exact xt_thrW hx hb hml hown hts hlk hls htb hXS hR (Nat.le_of_ble_eq_true rfl) hP hS hl.1 xE_IA (text := "the mask has others than nodes that are there") (is := 262) (by decide +kernel) dX6_value_14 dX6_value_17 dX6_value_18 dX6_value_21 dX6_value_24
