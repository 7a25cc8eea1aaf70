set_option maxHeartbeats 8000000 in
set_option maxRecDepth 100000 in
theorem c_L_node_x (l : Launch) (hls : l.stackTraces = false) (Γ : kG) (xa : Nat) (xs : Nat) (xk : Nat) (ha : Nat) (ta : Nat) (sa : Nat) (oa : Nat) (pa : Nat) (ja : Nat) (fa : Nat) (n0 : Nat) (th0 : Nat) (mv0 : Nat) (a : Nat) (e : Nat) (g : Nat → Nat) (x0 : Int32) (ou : Nat) (ov : Nat → Int64) (hn0 : n0 ≤ 14) (hne : x0 ≠ -1) (hx0 : isN n0 x0 = false) : WT l yL_node (wsw yL_node cL_node 4 (some .int) [(0, 9, 12, 13), (0, 9, 15, 15)]) (rmX 9 1 6) Γ [.ref xa, .int x0, .ref ou] [(xa, .inr (6, [.ref fa, .ref xs, .ref xk, .ref ha, .ref ta, .ref sa, .ref oa, .ref pa, .ref ja])), (fa, .inr (0, [.ref a, .int (nI n0), .int (nI th0), .int (nI mv0)])), (a, .inr (1, [.ref e])), (e, .inl (Γ.2 0, 14, .inl (aN g))), (ou, .inl (Γ.2 3, 1, .inr (.inl ov)))] (nI 1) := by
  refine wl_ofx (hh := [(0, 9, 12, 13), (0, 9, 15, 15)]) (cc := cL_node) (maxL := 4) (by decide +kernel) (Nat.le_of_ble_eq_true rfl) rfl ?_
  intro p ev R st mi args below meth cd Q A ls C0 hR hret hP hD hS hl
  obtain ⟨hx, hb, hr, hml, hown, hts, hlk, hK, hnm⟩ := C0
  have hown : st.vm.findClass RL = some mi.cls := hown
  obtain ⟨htb, hXS, hXN, hret⟩ := hret
  refine lv_aload_n hx hb dL_node_0 rfl (lv_at hl 2 rfl) ?_
  refine lv_iconst (v := (nI 0)) hx hb dL_node_1 (by decide) ?_
  refine lv_aload_n hx hb dL_node_2 rfl (lv_at hl 0 rfl) ?_
  refine lv_iload_n hx hb dL_node_3 rfl (lv_at hl 1 rfl) ?_
  refine xl_call (hh := [(0, 9, 12, 13), (0, 9, 15, 15)]) (own := RL) [] ⟨0, 9, 12, 13⟩ [⟨0, 9, 15, 15⟩] (vx_runV (As := [.int x0]) (rest := [.int (nI 0), .ref ou]) ⟨hx, hb, hml, hown, hts⟩ (c_X6_node_x l hls Γ xa xs xk ha ta sa oa pa ja fa n0 th0 mv0 a e g x0 (hn0) (hne) (hx0)) (kcwV 1 hts kv_X6_node mw_626 (rm_le hR (Nat.le_of_ble_eq_true rfl) (Nat.le_of_ble_eq_true rfl))) (kPx_V hK (va_recv hK.1 hP (ci := 6) (q0 := 0) rfl rfl) (hP.sub (ws' := [(xa, .inr (6, [.ref fa, .ref xs, .ref xk, .ref ha, .ref ta, .ref sa, .ref oa, .ref pa, .ref ja])), (fa, .inr (0, [.ref a, .int (nI n0), .int (nI th0), .int (nI mv0)])), (a, .inr (1, [.ref e])), (e, .inl (Γ.2 0, 14, .inl (aN g)))]) [0, 1, 2, 3] rfl) (hD.sub (ws' := [(xa, .inr (6, [.ref fa, .ref xs, .ref xk, .ref ha, .ref ta, .ref sa, .ref oa, .ref pa, .ref ja])), (fa, .inr (0, [.ref a, .int (nI n0), .int (nI th0), .int (nI mv0)])), (a, .inr (1, [.ref e])), (e, .inl (Γ.2 0, 14, .inl (aN g)))]) [0, 1, 2, 3] (by decide +kernel) rfl) hXS hS) rfl rfl hl.1 rfl (lv_room (Nat.le_of_ble_eq_true rfl)) dL_node_4 (by rw [hR]; exact ⟨Nat.le_refl _, Nat.le_refl _⟩)) hown htb hXS hP hD hS [0, 1, 2, 3] rfl rfl rfl (by decide +kernel) (hts _ mw_624) (fun z9 hz9 => nomatch hz9) (by decide +kernel) (by decide) (fun q9 H locs hP hS => ?_)
  refine lv_astore_n (lv' := [(3, .ref q9), (0, .ref xa), (1, .int x0), (2, .ref ou)]) hx hb dL_node_12 rfl hl (by decide) rfl (fun ls hl => ?_)
  refine lv_iconst (v := (nI 1)) hx hb dL_node_13 (by decide) ?_
  exact hret () hP hS (rfl) dL_node_14
set_option maxHeartbeats 8000000 in
set_option maxRecDepth 100000 in
theorem c_L_node_f (l : Launch) (hls : l.stackTraces = false) (Γ : kG) (xa : Nat) (xs : Nat) (xk : Nat) (ha : Nat) (ta : Nat) (sa : Nat) (oa : Nat) (pa : Nat) (ja : Nat) (fa : Nat) (n0 : Nat) (th0 : Nat) (mv0 : Nat) (a : Nat) (e : Nat) (g : Nat → Nat) (ou : Nat) (ov : Nat → Int64) (hn1 : n0 = 14) : WT l yL_node (wsw yL_node cL_node 4 (some .int) [(0, 9, 12, 13), (0, 9, 15, 15)]) (rmX 9 1 6) Γ [.ref xa, .int (-1), .ref ou] [(xa, .inr (6, [.ref fa, .ref xs, .ref xk, .ref ha, .ref ta, .ref sa, .ref oa, .ref pa, .ref ja])), (fa, .inr (0, [.ref a, .int (nI n0), .int (nI th0), .int (nI mv0)])), (a, .inr (1, [.ref e])), (e, .inl (Γ.2 0, 14, .inl (aN g))), (ou, .inl (Γ.2 3, 1, .inr (.inl ov)))] (nI 2) := by
  refine wl_ofx (hh := [(0, 9, 12, 13), (0, 9, 15, 15)]) (cc := cL_node) (maxL := 4) (by decide +kernel) (Nat.le_of_ble_eq_true rfl) rfl ?_
  intro p ev R st mi args below meth cd Q A ls C0 hR hret hP hD hS hl
  obtain ⟨hx, hb, hr, hml, hown, hts, hlk, hK, hnm⟩ := C0
  have hown : st.vm.findClass RL = some mi.cls := hown
  obtain ⟨htb, hXS, hXN, hret⟩ := hret
  refine lv_aload_n hx hb dL_node_0 rfl (lv_at hl 2 rfl) ?_
  refine lv_iconst (v := (nI 0)) hx hb dL_node_1 (by decide) ?_
  refine lv_aload_n hx hb dL_node_2 rfl (lv_at hl 0 rfl) ?_
  refine lv_iload_n hx hb dL_node_3 rfl (lv_at hl 1 rfl) ?_
  refine xl_call (hh := [(0, 9, 12, 13), (0, 9, 15, 15)]) (own := RL) [⟨0, 9, 12, 13⟩] ⟨0, 9, 15, 15⟩ [] (vx_runV (As := [.int (-1)]) (rest := [.int (nI 0), .ref ou]) ⟨hx, hb, hml, hown, hts⟩ (c_X6_node_f l hls Γ xa xs xk ha ta sa oa pa ja fa n0 th0 mv0 a e g (hn1)) (kcwV 1 hts kv_X6_node mw_626 (rm_le hR (Nat.le_of_ble_eq_true rfl) (Nat.le_of_ble_eq_true rfl))) (kPx_V hK (va_recv hK.1 hP (ci := 6) (q0 := 0) rfl rfl) (hP.sub (ws' := [(xa, .inr (6, [.ref fa, .ref xs, .ref xk, .ref ha, .ref ta, .ref sa, .ref oa, .ref pa, .ref ja])), (fa, .inr (0, [.ref a, .int (nI n0), .int (nI th0), .int (nI mv0)])), (a, .inr (1, [.ref e])), (e, .inl (Γ.2 0, 14, .inl (aN g)))]) [0, 1, 2, 3] rfl) (hD.sub (ws' := [(xa, .inr (6, [.ref fa, .ref xs, .ref xk, .ref ha, .ref ta, .ref sa, .ref oa, .ref pa, .ref ja])), (fa, .inr (0, [.ref a, .int (nI n0), .int (nI th0), .int (nI mv0)])), (a, .inr (1, [.ref e])), (e, .inl (Γ.2 0, 14, .inl (aN g)))]) [0, 1, 2, 3] (by decide +kernel) rfl) hXS hS) rfl rfl hl.1 rfl (lv_room (Nat.le_of_ble_eq_true rfl)) dL_node_4 (by rw [hR]; exact ⟨Nat.le_refl _, Nat.le_refl _⟩)) hown htb hXS hP hD hS [0, 1, 2, 3] rfl rfl rfl (by decide +kernel) (hts _ mw_625) (fun z9 hz9 => by rcases List.mem_singleton.mp hz9 with rfl; exact Or.inr ⟨by decide, _, hts _ mw_624, hXN.1⟩) (by decide +kernel) (by decide) (fun q9 H locs hP hS => ?_)
  refine lv_astore_n (lv' := [(3, .ref q9), (0, .ref xa), (1, .int (-1)), (2, .ref ou)]) hx hb dL_node_15 rfl hl (by decide) rfl (fun ls hl => ?_)
  refine lv_iconst (v := (nI 2)) hx hb dL_node_16 (by decide) ?_
  exact hret () hP hS (rfl) dL_node_17
set_option maxHeartbeats 8000000 in
set_option maxRecDepth 100000 in
theorem c_L_node_g (l : Launch) (hls : l.stackTraces = false) (Γ : kG) (xa : Nat) (xs : Nat) (xk : Nat) (ha : Nat) (ta : Nat) (sa : Nat) (oa : Nat) (pa : Nat) (ja : Nat) (fa : Nat) (n0 : Nat) (th0 : Nat) (mv0 : Nat) (a : Nat) (e : Nat) (g : Nat → Nat) (v0 : Nat) (ou : Nat) (ov : Nat → Int64) (hn1 : n0 = 14) (hv0 : v0 < n0) : WT l yL_node (wsw yL_node cL_node 4 (some .int) [(0, 9, 12, 13), (0, 9, 15, 15)]) (rmX 9 1 6) Γ [.ref xa, .int (nI v0), .ref ou] [(xa, .inr (6, [.ref fa, .ref xs, .ref xk, .ref ha, .ref ta, .ref sa, .ref oa, .ref pa, .ref ja])), (fa, .inr (0, [.ref a, .int (nI n0), .int (nI th0), .int (nI mv0)])), (a, .inr (1, [.ref e])), (e, .inl (Γ.2 0, 14, .inl (aN g))), (ou, .inl (Γ.2 3, 1, .inr (.inl ov)))] (nI 2) := by
  refine wl_ofx (hh := [(0, 9, 12, 13), (0, 9, 15, 15)]) (cc := cL_node) (maxL := 4) (by decide +kernel) (Nat.le_of_ble_eq_true rfl) rfl ?_
  intro p ev R st mi args below meth cd Q A ls C0 hR hret hP hD hS hl
  obtain ⟨hx, hb, hr, hml, hown, hts, hlk, hK, hnm⟩ := C0
  have hown : st.vm.findClass RL = some mi.cls := hown
  obtain ⟨htb, hXS, hXN, hret⟩ := hret
  refine lv_aload_n hx hb dL_node_0 rfl (lv_at hl 2 rfl) ?_
  refine lv_iconst (v := (nI 0)) hx hb dL_node_1 (by decide) ?_
  refine lv_aload_n hx hb dL_node_2 rfl (lv_at hl 0 rfl) ?_
  refine lv_iload_n hx hb dL_node_3 rfl (lv_at hl 1 rfl) ?_
  refine xl_call (hh := [(0, 9, 12, 13), (0, 9, 15, 15)]) (own := RL) [⟨0, 9, 12, 13⟩] ⟨0, 9, 15, 15⟩ [] (vx_runV (As := [.int (nI v0)]) (rest := [.int (nI 0), .ref ou]) ⟨hx, hb, hml, hown, hts⟩ (c_X6_node_g l hls Γ xa xs xk ha ta sa oa pa ja fa n0 th0 mv0 a e g v0 (hn1) (hv0)) (kcwV 1 hts kv_X6_node mw_626 (rm_le hR (Nat.le_of_ble_eq_true rfl) (Nat.le_of_ble_eq_true rfl))) (kPx_V hK (va_recv hK.1 hP (ci := 6) (q0 := 0) rfl rfl) (hP.sub (ws' := [(xa, .inr (6, [.ref fa, .ref xs, .ref xk, .ref ha, .ref ta, .ref sa, .ref oa, .ref pa, .ref ja])), (fa, .inr (0, [.ref a, .int (nI n0), .int (nI th0), .int (nI mv0)])), (a, .inr (1, [.ref e])), (e, .inl (Γ.2 0, 14, .inl (aN g)))]) [0, 1, 2, 3] rfl) (hD.sub (ws' := [(xa, .inr (6, [.ref fa, .ref xs, .ref xk, .ref ha, .ref ta, .ref sa, .ref oa, .ref pa, .ref ja])), (fa, .inr (0, [.ref a, .int (nI n0), .int (nI th0), .int (nI mv0)])), (a, .inr (1, [.ref e])), (e, .inl (Γ.2 0, 14, .inl (aN g)))]) [0, 1, 2, 3] (by decide +kernel) rfl) hXS hS) rfl rfl hl.1 rfl (lv_room (Nat.le_of_ble_eq_true rfl)) dL_node_4 (by rw [hR]; exact ⟨Nat.le_refl _, Nat.le_refl _⟩)) hown htb hXS hP hD hS [0, 1, 2, 3] rfl rfl rfl (by decide +kernel) (hts _ mw_625) (fun z9 hz9 => by rcases List.mem_singleton.mp hz9 with rfl; exact Or.inr ⟨by decide, _, hts _ mw_624, hXN.1⟩) (by decide +kernel) (by decide) (fun q9 H locs hP hS => ?_)
  refine lv_astore_n (lv' := [(3, .ref q9), (0, .ref xa), (1, .int (nI v0)), (2, .ref ou)]) hx hb dL_node_15 rfl hl (by decide) rfl (fun ls hl => ?_)
  refine lv_iconst (v := (nI 2)) hx hb dL_node_16 (by decide) ?_
  exact hret () hP hS (rfl) dL_node_17
set_option maxHeartbeats 8000000 in
set_option maxRecDepth 100000 in
theorem c_L_node_t (l : Launch) (hls : l.stackTraces = false) (Γ : kG) (xa : Nat) (xs : Nat) (xk : Nat) (ha : Nat) (ta : Nat) (sa : Nat) (oa : Nat) (pa : Nat) (ja : Nat) (fa : Nat) (n0 : Nat) (th0 : Nat) (mv0 : Nat) (a : Nat) (e : Nat) (g : Nat → Nat) (v0 : Nat) (ou : Nat) (ov : Nat → Int64) (hn0 : n0 ≤ 14) (hth : th0 < 2 ^ n0) (hn1 : n0 < 14) (hv0 : v0 < n0) (hb0 : th0.testBit v0 = false) : WT l yL_node (wsw yL_node cL_node 4 (some .int) [(0, 9, 12, 13), (0, 9, 15, 15)]) (rmX 9 1 6) Γ [.ref xa, .int (nI v0), .ref ou] [(xa, .inr (6, [.ref fa, .ref xs, .ref xk, .ref ha, .ref ta, .ref sa, .ref oa, .ref pa, .ref ja])), (fa, .inr (0, [.ref a, .int (nI n0), .int (nI th0), .int (nI mv0)])), (a, .inr (1, [.ref e])), (e, .inl (Γ.2 0, 14, .inl (aN g))), (ou, .inl (Γ.2 3, 1, .inr (.inl ov)))] (nI 2) := by
  refine wl_ofx (hh := [(0, 9, 12, 13), (0, 9, 15, 15)]) (cc := cL_node) (maxL := 4) (by decide +kernel) (Nat.le_of_ble_eq_true rfl) rfl ?_
  intro p ev R st mi args below meth cd Q A ls C0 hR hret hP hD hS hl
  obtain ⟨hx, hb, hr, hml, hown, hts, hlk, hK, hnm⟩ := C0
  have hown : st.vm.findClass RL = some mi.cls := hown
  obtain ⟨htb, hXS, hXN, hret⟩ := hret
  refine lv_aload_n hx hb dL_node_0 rfl (lv_at hl 2 rfl) ?_
  refine lv_iconst (v := (nI 0)) hx hb dL_node_1 (by decide) ?_
  refine lv_aload_n hx hb dL_node_2 rfl (lv_at hl 0 rfl) ?_
  refine lv_iload_n hx hb dL_node_3 rfl (lv_at hl 1 rfl) ?_
  refine xl_call (hh := [(0, 9, 12, 13), (0, 9, 15, 15)]) (own := RL) [⟨0, 9, 12, 13⟩] ⟨0, 9, 15, 15⟩ [] (vx_runV (As := [.int (nI v0)]) (rest := [.int (nI 0), .ref ou]) ⟨hx, hb, hml, hown, hts⟩ (c_X6_node_t l hls Γ xa xs xk ha ta sa oa pa ja fa n0 th0 mv0 a e g v0 (hn0) (hth) (hn1) (hv0) (hb0)) (kcwV 1 hts kv_X6_node mw_626 (rm_le hR (Nat.le_of_ble_eq_true rfl) (Nat.le_of_ble_eq_true rfl))) (kPx_V hK (va_recv hK.1 hP (ci := 6) (q0 := 0) rfl rfl) (hP.sub (ws' := [(xa, .inr (6, [.ref fa, .ref xs, .ref xk, .ref ha, .ref ta, .ref sa, .ref oa, .ref pa, .ref ja])), (fa, .inr (0, [.ref a, .int (nI n0), .int (nI th0), .int (nI mv0)])), (a, .inr (1, [.ref e])), (e, .inl (Γ.2 0, 14, .inl (aN g)))]) [0, 1, 2, 3] rfl) (hD.sub (ws' := [(xa, .inr (6, [.ref fa, .ref xs, .ref xk, .ref ha, .ref ta, .ref sa, .ref oa, .ref pa, .ref ja])), (fa, .inr (0, [.ref a, .int (nI n0), .int (nI th0), .int (nI mv0)])), (a, .inr (1, [.ref e])), (e, .inl (Γ.2 0, 14, .inl (aN g)))]) [0, 1, 2, 3] (by decide +kernel) rfl) hXS hS) rfl rfl hl.1 rfl (lv_room (Nat.le_of_ble_eq_true rfl)) dL_node_4 (by rw [hR]; exact ⟨Nat.le_refl _, Nat.le_refl _⟩)) hown htb hXS hP hD hS [0, 1, 2, 3] rfl rfl rfl (by decide +kernel) (hts _ mw_625) (fun z9 hz9 => by rcases List.mem_singleton.mp hz9 with rfl; exact Or.inr ⟨by decide, _, hts _ mw_624, hXN.1⟩) (by decide +kernel) (by decide) (fun q9 H locs hP hS => ?_)
  refine lv_astore_n (lv' := [(3, .ref q9), (0, .ref xa), (1, .int (nI v0)), (2, .ref ou)]) hx hb dL_node_15 rfl hl (by decide) rfl (fun ls hl => ?_)
  refine lv_iconst (v := (nI 2)) hx hb dL_node_16 (by decide) ?_
  exact hret () hP hS (rfl) dL_node_17
set_option maxHeartbeats 8000000 in
set_option maxRecDepth 100000 in
theorem c_L_join_x (l : Launch) (hls : l.stackTraces = false) (Γ : kG) (xa : Nat) (xs : Nat) (xk : Nat) (ha : Nat) (ta : Nat) (sa : Nat) (oa : Nat) (pa : Nat) (ja : Nat) (fa : Nat) (n0 : Nat) (th0 : Nat) (mv0 : Nat) (a : Nat) (e : Nat) (g : Nat → Nat) (x0 : Int32) (y0 : Int32) (ou : Nat) (ov : Nat → Int64) (hn0 : n0 ≤ 14) (hx0 : isN n0 x0 = false) : WT l yL_join (wsw yL_join cL_join 5 (some .int) [(0, 10, 13, 13), (0, 10, 17, 15)]) (rmX 9 1 6) Γ [.ref xa, .int x0, .int y0, .ref ou] [(xa, .inr (6, [.ref fa, .ref xs, .ref xk, .ref ha, .ref ta, .ref sa, .ref oa, .ref pa, .ref ja])), (fa, .inr (0, [.ref a, .int (nI n0), .int (nI th0), .int (nI mv0)])), (a, .inr (1, [.ref e])), (e, .inl (Γ.2 0, 14, .inl (aN g))), (ou, .inl (Γ.2 3, 1, .inr (.inl ov)))] (nI 1) := by
  refine wl_ofx (hh := [(0, 10, 13, 13), (0, 10, 17, 15)]) (cc := cL_join) (maxL := 5) (by decide +kernel) (Nat.le_of_ble_eq_true rfl) rfl ?_
  intro p ev R st mi args below meth cd Q A ls C0 hR hret hP hD hS hl
  obtain ⟨hx, hb, hr, hml, hown, hts, hlk, hK, hnm⟩ := C0
  have hown : st.vm.findClass RL = some mi.cls := hown
  obtain ⟨htb, hXS, hXN, hret⟩ := hret
  refine lv_aload_n hx hb dL_join_0 rfl (lv_at hl 3 rfl) ?_
  refine lv_iconst (v := (nI 0)) hx hb dL_join_1 (by decide) ?_
  refine lv_aload_n hx hb dL_join_2 rfl (lv_at hl 0 rfl) ?_
  refine lv_iload_n hx hb dL_join_3 rfl (lv_at hl 1 rfl) ?_
  refine lv_iload_n hx hb dL_join_4 rfl (lv_at hl 2 rfl) ?_
  refine xl_call (hh := [(0, 10, 13, 13), (0, 10, 17, 15)]) (own := RL) [] ⟨0, 10, 13, 13⟩ [⟨0, 10, 17, 15⟩] (vx_runV (As := [.int x0, .int y0]) (rest := [.int (nI 0), .ref ou]) ⟨hx, hb, hml, hown, hts⟩ (c_X6_join_x l hls Γ xa xs xk ha ta sa oa pa ja fa n0 th0 mv0 a e g x0 y0 (hn0) (hx0)) (kcwV 2 hts kv_X6_join mw_630 (rm_le hR (Nat.le_of_ble_eq_true rfl) (Nat.le_of_ble_eq_true rfl))) (kPx_V hK (va_recv hK.1 hP (ci := 6) (q0 := 0) rfl rfl) (hP.sub (ws' := [(xa, .inr (6, [.ref fa, .ref xs, .ref xk, .ref ha, .ref ta, .ref sa, .ref oa, .ref pa, .ref ja])), (fa, .inr (0, [.ref a, .int (nI n0), .int (nI th0), .int (nI mv0)])), (a, .inr (1, [.ref e])), (e, .inl (Γ.2 0, 14, .inl (aN g)))]) [0, 1, 2, 3] rfl) (hD.sub (ws' := [(xa, .inr (6, [.ref fa, .ref xs, .ref xk, .ref ha, .ref ta, .ref sa, .ref oa, .ref pa, .ref ja])), (fa, .inr (0, [.ref a, .int (nI n0), .int (nI th0), .int (nI mv0)])), (a, .inr (1, [.ref e])), (e, .inl (Γ.2 0, 14, .inl (aN g)))]) [0, 1, 2, 3] (by decide +kernel) rfl) hXS hS) rfl rfl hl.1 rfl (lv_room (Nat.le_of_ble_eq_true rfl)) dL_join_5 (by rw [hR]; exact ⟨Nat.le_refl _, Nat.le_refl _⟩)) hown htb hXS hP hD hS [0, 1, 2, 3] rfl rfl rfl (by decide +kernel) (hts _ mw_624) (fun z9 hz9 => nomatch hz9) (by decide +kernel) (by decide) (fun q9 H locs hP hS => ?_)
  refine lv_astore (lv' := [(4, .ref q9), (0, .ref xa), (1, .int x0), (2, .int y0), (3, .ref ou)]) hx hb dL_join_13 hl (by decide) rfl (fun ls hl => ?_)
  refine lv_iconst (v := (nI 1)) hx hb dL_join_15 (by decide) ?_
  exact hret () hP hS (rfl) dL_join_16
set_option maxHeartbeats 8000000 in
set_option maxRecDepth 100000 in
theorem c_L_join_y (l : Launch) (hls : l.stackTraces = false) (Γ : kG) (xa : Nat) (xs : Nat) (xk : Nat) (ha : Nat) (ta : Nat) (sa : Nat) (oa : Nat) (pa : Nat) (ja : Nat) (fa : Nat) (n0 : Nat) (th0 : Nat) (mv0 : Nat) (a : Nat) (e : Nat) (g : Nat → Nat) (i0 : Nat) (y0 : Int32) (ou : Nat) (ov : Nat → Int64) (hn0 : n0 ≤ 14) (hi0 : i0 < n0) (hy0 : isN n0 y0 = false) : WT l yL_join (wsw yL_join cL_join 5 (some .int) [(0, 10, 13, 13), (0, 10, 17, 15)]) (rmX 9 1 6) Γ [.ref xa, .int (nI i0), .int y0, .ref ou] [(xa, .inr (6, [.ref fa, .ref xs, .ref xk, .ref ha, .ref ta, .ref sa, .ref oa, .ref pa, .ref ja])), (fa, .inr (0, [.ref a, .int (nI n0), .int (nI th0), .int (nI mv0)])), (a, .inr (1, [.ref e])), (e, .inl (Γ.2 0, 14, .inl (aN g))), (ou, .inl (Γ.2 3, 1, .inr (.inl ov)))] (nI 1) := by
  refine wl_ofx (hh := [(0, 10, 13, 13), (0, 10, 17, 15)]) (cc := cL_join) (maxL := 5) (by decide +kernel) (Nat.le_of_ble_eq_true rfl) rfl ?_
  intro p ev R st mi args below meth cd Q A ls C0 hR hret hP hD hS hl
  obtain ⟨hx, hb, hr, hml, hown, hts, hlk, hK, hnm⟩ := C0
  have hown : st.vm.findClass RL = some mi.cls := hown
  obtain ⟨htb, hXS, hXN, hret⟩ := hret
  refine lv_aload_n hx hb dL_join_0 rfl (lv_at hl 3 rfl) ?_
  refine lv_iconst (v := (nI 0)) hx hb dL_join_1 (by decide) ?_
  refine lv_aload_n hx hb dL_join_2 rfl (lv_at hl 0 rfl) ?_
  refine lv_iload_n hx hb dL_join_3 rfl (lv_at hl 1 rfl) ?_
  refine lv_iload_n hx hb dL_join_4 rfl (lv_at hl 2 rfl) ?_
  refine xl_call (hh := [(0, 10, 13, 13), (0, 10, 17, 15)]) (own := RL) [] ⟨0, 10, 13, 13⟩ [⟨0, 10, 17, 15⟩] (vx_runV (As := [.int (nI i0), .int y0]) (rest := [.int (nI 0), .ref ou]) ⟨hx, hb, hml, hown, hts⟩ (c_X6_join_y l hls Γ xa xs xk ha ta sa oa pa ja fa n0 th0 mv0 a e g i0 y0 (hn0) (hi0) (hy0)) (kcwV 2 hts kv_X6_join mw_630 (rm_le hR (Nat.le_of_ble_eq_true rfl) (Nat.le_of_ble_eq_true rfl))) (kPx_V hK (va_recv hK.1 hP (ci := 6) (q0 := 0) rfl rfl) (hP.sub (ws' := [(xa, .inr (6, [.ref fa, .ref xs, .ref xk, .ref ha, .ref ta, .ref sa, .ref oa, .ref pa, .ref ja])), (fa, .inr (0, [.ref a, .int (nI n0), .int (nI th0), .int (nI mv0)])), (a, .inr (1, [.ref e])), (e, .inl (Γ.2 0, 14, .inl (aN g)))]) [0, 1, 2, 3] rfl) (hD.sub (ws' := [(xa, .inr (6, [.ref fa, .ref xs, .ref xk, .ref ha, .ref ta, .ref sa, .ref oa, .ref pa, .ref ja])), (fa, .inr (0, [.ref a, .int (nI n0), .int (nI th0), .int (nI mv0)])), (a, .inr (1, [.ref e])), (e, .inl (Γ.2 0, 14, .inl (aN g)))]) [0, 1, 2, 3] (by decide +kernel) rfl) hXS hS) rfl rfl hl.1 rfl (lv_room (Nat.le_of_ble_eq_true rfl)) dL_join_5 (by rw [hR]; exact ⟨Nat.le_refl _, Nat.le_refl _⟩)) hown htb hXS hP hD hS [0, 1, 2, 3] rfl rfl rfl (by decide +kernel) (hts _ mw_624) (fun z9 hz9 => nomatch hz9) (by decide +kernel) (by decide) (fun q9 H locs hP hS => ?_)
  refine lv_astore (lv' := [(4, .ref q9), (0, .ref xa), (1, .int (nI i0)), (2, .int y0), (3, .ref ou)]) hx hb dL_join_13 hl (by decide) rfl (fun ls hl => ?_)
  refine lv_iconst (v := (nI 1)) hx hb dL_join_15 (by decide) ?_
  exact hret () hP hS (rfl) dL_join_16
set_option maxHeartbeats 8000000 in
set_option maxRecDepth 100000 in
theorem c_L_cut_x (l : Launch) (hls : l.stackTraces = false) (Γ : kG) (xa : Nat) (xs : Nat) (xk : Nat) (ha : Nat) (ta : Nat) (sa : Nat) (oa : Nat) (pa : Nat) (ja : Nat) (fa : Nat) (n0 : Nat) (th0 : Nat) (mv0 : Nat) (a : Nat) (e : Nat) (g : Nat → Nat) (x0 : Int32) (y0 : Int32) (ou : Nat) (ov : Nat → Int64) (hn0 : n0 ≤ 14) (hx0 : isN n0 x0 = false) : WT l yL_cut (wsw yL_cut cL_cut 5 (some .int) [(0, 10, 13, 13), (0, 10, 17, 15)]) (rmX 9 1 6) Γ [.ref xa, .int x0, .int y0, .ref ou] [(xa, .inr (6, [.ref fa, .ref xs, .ref xk, .ref ha, .ref ta, .ref sa, .ref oa, .ref pa, .ref ja])), (fa, .inr (0, [.ref a, .int (nI n0), .int (nI th0), .int (nI mv0)])), (a, .inr (1, [.ref e])), (e, .inl (Γ.2 0, 14, .inl (aN g))), (ou, .inl (Γ.2 3, 1, .inr (.inl ov)))] (nI 1) := by
  refine wl_ofx (hh := [(0, 10, 13, 13), (0, 10, 17, 15)]) (cc := cL_cut) (maxL := 5) (by decide +kernel) (Nat.le_of_ble_eq_true rfl) rfl ?_
  intro p ev R st mi args below meth cd Q A ls C0 hR hret hP hD hS hl
  obtain ⟨hx, hb, hr, hml, hown, hts, hlk, hK, hnm⟩ := C0
  have hown : st.vm.findClass RL = some mi.cls := hown
  obtain ⟨htb, hXS, hXN, hret⟩ := hret
  refine lv_aload_n hx hb dL_cut_0 rfl (lv_at hl 3 rfl) ?_
  refine lv_iconst (v := (nI 0)) hx hb dL_cut_1 (by decide) ?_
  refine lv_aload_n hx hb dL_cut_2 rfl (lv_at hl 0 rfl) ?_
  refine lv_iload_n hx hb dL_cut_3 rfl (lv_at hl 1 rfl) ?_
  refine lv_iload_n hx hb dL_cut_4 rfl (lv_at hl 2 rfl) ?_
  refine xl_call (hh := [(0, 10, 13, 13), (0, 10, 17, 15)]) (own := RL) [] ⟨0, 10, 13, 13⟩ [⟨0, 10, 17, 15⟩] (vx_runV (As := [.int x0, .int y0]) (rest := [.int (nI 0), .ref ou]) ⟨hx, hb, hml, hown, hts⟩ (c_X6_cut_x l hls Γ xa xs xk ha ta sa oa pa ja fa n0 th0 mv0 a e g x0 y0 (hn0) (hx0)) (kcwV 2 hts kv_X6_cut mw_634 (rm_le hR (Nat.le_of_ble_eq_true rfl) (Nat.le_of_ble_eq_true rfl))) (kPx_V hK (va_recv hK.1 hP (ci := 6) (q0 := 0) rfl rfl) (hP.sub (ws' := [(xa, .inr (6, [.ref fa, .ref xs, .ref xk, .ref ha, .ref ta, .ref sa, .ref oa, .ref pa, .ref ja])), (fa, .inr (0, [.ref a, .int (nI n0), .int (nI th0), .int (nI mv0)])), (a, .inr (1, [.ref e])), (e, .inl (Γ.2 0, 14, .inl (aN g)))]) [0, 1, 2, 3] rfl) (hD.sub (ws' := [(xa, .inr (6, [.ref fa, .ref xs, .ref xk, .ref ha, .ref ta, .ref sa, .ref oa, .ref pa, .ref ja])), (fa, .inr (0, [.ref a, .int (nI n0), .int (nI th0), .int (nI mv0)])), (a, .inr (1, [.ref e])), (e, .inl (Γ.2 0, 14, .inl (aN g)))]) [0, 1, 2, 3] (by decide +kernel) rfl) hXS hS) rfl rfl hl.1 rfl (lv_room (Nat.le_of_ble_eq_true rfl)) dL_cut_5 (by rw [hR]; exact ⟨Nat.le_refl _, Nat.le_refl _⟩)) hown htb hXS hP hD hS [0, 1, 2, 3] rfl rfl rfl (by decide +kernel) (hts _ mw_624) (fun z9 hz9 => nomatch hz9) (by decide +kernel) (by decide) (fun q9 H locs hP hS => ?_)
  refine lv_astore (lv' := [(4, .ref q9), (0, .ref xa), (1, .int x0), (2, .int y0), (3, .ref ou)]) hx hb dL_cut_13 hl (by decide) rfl (fun ls hl => ?_)
  refine lv_iconst (v := (nI 1)) hx hb dL_cut_15 (by decide) ?_
  exact hret () hP hS (rfl) dL_cut_16
set_option maxHeartbeats 8000000 in
set_option maxRecDepth 100000 in
theorem c_L_cut_y (l : Launch) (hls : l.stackTraces = false) (Γ : kG) (xa : Nat) (xs : Nat) (xk : Nat) (ha : Nat) (ta : Nat) (sa : Nat) (oa : Nat) (pa : Nat) (ja : Nat) (fa : Nat) (n0 : Nat) (th0 : Nat) (mv0 : Nat) (a : Nat) (e : Nat) (g : Nat → Nat) (i0 : Nat) (y0 : Int32) (ou : Nat) (ov : Nat → Int64) (hn0 : n0 ≤ 14) (hi0 : i0 < n0) (hy0 : isN n0 y0 = false) : WT l yL_cut (wsw yL_cut cL_cut 5 (some .int) [(0, 10, 13, 13), (0, 10, 17, 15)]) (rmX 9 1 6) Γ [.ref xa, .int (nI i0), .int y0, .ref ou] [(xa, .inr (6, [.ref fa, .ref xs, .ref xk, .ref ha, .ref ta, .ref sa, .ref oa, .ref pa, .ref ja])), (fa, .inr (0, [.ref a, .int (nI n0), .int (nI th0), .int (nI mv0)])), (a, .inr (1, [.ref e])), (e, .inl (Γ.2 0, 14, .inl (aN g))), (ou, .inl (Γ.2 3, 1, .inr (.inl ov)))] (nI 1) := by
  refine wl_ofx (hh := [(0, 10, 13, 13), (0, 10, 17, 15)]) (cc := cL_cut) (maxL := 5) (by decide +kernel) (Nat.le_of_ble_eq_true rfl) rfl ?_
  intro p ev R st mi args below meth cd Q A ls C0 hR hret hP hD hS hl
  obtain ⟨hx, hb, hr, hml, hown, hts, hlk, hK, hnm⟩ := C0
  have hown : st.vm.findClass RL = some mi.cls := hown
  obtain ⟨htb, hXS, hXN, hret⟩ := hret
  refine lv_aload_n hx hb dL_cut_0 rfl (lv_at hl 3 rfl) ?_
  refine lv_iconst (v := (nI 0)) hx hb dL_cut_1 (by decide) ?_
  refine lv_aload_n hx hb dL_cut_2 rfl (lv_at hl 0 rfl) ?_
  refine lv_iload_n hx hb dL_cut_3 rfl (lv_at hl 1 rfl) ?_
  refine lv_iload_n hx hb dL_cut_4 rfl (lv_at hl 2 rfl) ?_
  refine xl_call (hh := [(0, 10, 13, 13), (0, 10, 17, 15)]) (own := RL) [] ⟨0, 10, 13, 13⟩ [⟨0, 10, 17, 15⟩] (vx_runV (As := [.int (nI i0), .int y0]) (rest := [.int (nI 0), .ref ou]) ⟨hx, hb, hml, hown, hts⟩ (c_X6_cut_y l hls Γ xa xs xk ha ta sa oa pa ja fa n0 th0 mv0 a e g i0 y0 (hn0) (hi0) (hy0)) (kcwV 2 hts kv_X6_cut mw_634 (rm_le hR (Nat.le_of_ble_eq_true rfl) (Nat.le_of_ble_eq_true rfl))) (kPx_V hK (va_recv hK.1 hP (ci := 6) (q0 := 0) rfl rfl) (hP.sub (ws' := [(xa, .inr (6, [.ref fa, .ref xs, .ref xk, .ref ha, .ref ta, .ref sa, .ref oa, .ref pa, .ref ja])), (fa, .inr (0, [.ref a, .int (nI n0), .int (nI th0), .int (nI mv0)])), (a, .inr (1, [.ref e])), (e, .inl (Γ.2 0, 14, .inl (aN g)))]) [0, 1, 2, 3] rfl) (hD.sub (ws' := [(xa, .inr (6, [.ref fa, .ref xs, .ref xk, .ref ha, .ref ta, .ref sa, .ref oa, .ref pa, .ref ja])), (fa, .inr (0, [.ref a, .int (nI n0), .int (nI th0), .int (nI mv0)])), (a, .inr (1, [.ref e])), (e, .inl (Γ.2 0, 14, .inl (aN g)))]) [0, 1, 2, 3] (by decide +kernel) rfl) hXS hS) rfl rfl hl.1 rfl (lv_room (Nat.le_of_ble_eq_true rfl)) dL_cut_5 (by rw [hR]; exact ⟨Nat.le_refl _, Nat.le_refl _⟩)) hown htb hXS hP hD hS [0, 1, 2, 3] rfl rfl rfl (by decide +kernel) (hts _ mw_624) (fun z9 hz9 => nomatch hz9) (by decide +kernel) (by decide) (fun q9 H locs hP hS => ?_)
  refine lv_astore (lv' := [(4, .ref q9), (0, .ref xa), (1, .int (nI i0)), (2, .int y0), (3, .ref ou)]) hx hb dL_cut_13 hl (by decide) rfl (fun ls hl => ?_)
  refine lv_iconst (v := (nI 1)) hx hb dL_cut_15 (by decide) ?_
  exact hret () hP hS (rfl) dL_cut_16
set_option maxHeartbeats 8000000 in
set_option maxRecDepth 100000 in
theorem c_L_ifJoined_x (l : Launch) (hls : l.stackTraces = false) (Γ : kG) (xa : Nat) (xs : Nat) (xk : Nat) (ha : Nat) (ta : Nat) (sa : Nat) (oa : Nat) (pa : Nat) (ja : Nat) (fa : Nat) (n0 : Nat) (th0 : Nat) (mv0 : Nat) (a : Nat) (e : Nat) (g : Nat → Nat) (x0 : Int32) (y0 : Int32) (ou : Nat) (ov : Nat → Int64) (hn0 : n0 ≤ 14) (hx0 : isN n0 x0 = false) : WT l yL_ifJoined (wsw yL_ifJoined cL_ifJoined 5 (some .int) [(0, 10, 13, 13)]) (rmX 9 1 6) Γ [.ref xa, .int x0, .int y0, .ref ou] [(xa, .inr (6, [.ref fa, .ref xs, .ref xk, .ref ha, .ref ta, .ref sa, .ref oa, .ref pa, .ref ja])), (fa, .inr (0, [.ref a, .int (nI n0), .int (nI th0), .int (nI mv0)])), (a, .inr (1, [.ref e])), (e, .inl (Γ.2 0, 14, .inl (aN g))), (ou, .inl (Γ.2 3, 1, .inr (.inl ov)))] (nI 1) := by
  refine wl_ofx (hh := [(0, 10, 13, 13)]) (cc := cL_ifJoined) (maxL := 5) (by decide +kernel) (Nat.le_of_ble_eq_true rfl) rfl ?_
  intro p ev R st mi args below meth cd Q A ls C0 hR hret hP hD hS hl
  obtain ⟨hx, hb, hr, hml, hown, hts, hlk, hK, hnm⟩ := C0
  have hown : st.vm.findClass RL = some mi.cls := hown
  obtain ⟨htb, hXS, hXN, hret⟩ := hret
  refine lv_aload_n hx hb dL_ifJoined_0 rfl (lv_at hl 3 rfl) ?_
  refine lv_iconst (v := (nI 0)) hx hb dL_ifJoined_1 (by decide) ?_
  refine lv_aload_n hx hb dL_ifJoined_2 rfl (lv_at hl 0 rfl) ?_
  refine lv_iload_n hx hb dL_ifJoined_3 rfl (lv_at hl 1 rfl) ?_
  refine lv_iload_n hx hb dL_ifJoined_4 rfl (lv_at hl 2 rfl) ?_
  refine xl_call (hh := [(0, 10, 13, 13)]) (own := RL) [] ⟨0, 10, 13, 13⟩ [] (vx_runV (As := [.int x0, .int y0]) (rest := [.int (nI 0), .ref ou]) ⟨hx, hb, hml, hown, hts⟩ (c_X6_ifJoined_x l hls Γ xa xs xk ha ta sa oa pa ja fa n0 th0 mv0 a e g x0 y0 (hn0) (hx0)) (kcwV 2 hts kv_X6_ifJoined mw_675 (rm_le hR (Nat.le_of_ble_eq_true rfl) (Nat.le_of_ble_eq_true rfl))) (kPx_V hK (va_recv hK.1 hP (ci := 6) (q0 := 0) rfl rfl) (hP.sub (ws' := [(xa, .inr (6, [.ref fa, .ref xs, .ref xk, .ref ha, .ref ta, .ref sa, .ref oa, .ref pa, .ref ja])), (fa, .inr (0, [.ref a, .int (nI n0), .int (nI th0), .int (nI mv0)])), (a, .inr (1, [.ref e])), (e, .inl (Γ.2 0, 14, .inl (aN g)))]) [0, 1, 2, 3] rfl) (hD.sub (ws' := [(xa, .inr (6, [.ref fa, .ref xs, .ref xk, .ref ha, .ref ta, .ref sa, .ref oa, .ref pa, .ref ja])), (fa, .inr (0, [.ref a, .int (nI n0), .int (nI th0), .int (nI mv0)])), (a, .inr (1, [.ref e])), (e, .inl (Γ.2 0, 14, .inl (aN g)))]) [0, 1, 2, 3] (by decide +kernel) rfl) hXS hS) rfl rfl hl.1 rfl (lv_room (Nat.le_of_ble_eq_true rfl)) dL_ifJoined_5 (by rw [hR]; exact ⟨Nat.le_refl _, Nat.le_refl _⟩)) hown htb hXS hP hD hS [0, 1, 2, 3] rfl rfl rfl (by decide +kernel) (hts _ mw_624) (fun z9 hz9 => nomatch hz9) (by decide +kernel) (by decide) (fun q9 H locs hP hS => ?_)
  refine lv_astore (lv' := [(4, .ref q9), (0, .ref xa), (1, .int x0), (2, .int y0), (3, .ref ou)]) hx hb dL_ifJoined_13 hl (by decide) rfl (fun ls hl => ?_)
  refine lv_iconst (v := (nI 1)) hx hb dL_ifJoined_15 (by decide) ?_
  exact hret () hP hS (rfl) dL_ifJoined_16
set_option maxHeartbeats 8000000 in
set_option maxRecDepth 100000 in
theorem c_L_ifJoined_y (l : Launch) (hls : l.stackTraces = false) (Γ : kG) (xa : Nat) (xs : Nat) (xk : Nat) (ha : Nat) (ta : Nat) (sa : Nat) (oa : Nat) (pa : Nat) (ja : Nat) (fa : Nat) (n0 : Nat) (th0 : Nat) (mv0 : Nat) (a : Nat) (e : Nat) (g : Nat → Nat) (i0 : Nat) (y0 : Int32) (ou : Nat) (ov : Nat → Int64) (hn0 : n0 ≤ 14) (hi0 : i0 < n0) (hy0 : isN n0 y0 = false) : WT l yL_ifJoined (wsw yL_ifJoined cL_ifJoined 5 (some .int) [(0, 10, 13, 13)]) (rmX 9 1 6) Γ [.ref xa, .int (nI i0), .int y0, .ref ou] [(xa, .inr (6, [.ref fa, .ref xs, .ref xk, .ref ha, .ref ta, .ref sa, .ref oa, .ref pa, .ref ja])), (fa, .inr (0, [.ref a, .int (nI n0), .int (nI th0), .int (nI mv0)])), (a, .inr (1, [.ref e])), (e, .inl (Γ.2 0, 14, .inl (aN g))), (ou, .inl (Γ.2 3, 1, .inr (.inl ov)))] (nI 1) := by
  refine wl_ofx (hh := [(0, 10, 13, 13)]) (cc := cL_ifJoined) (maxL := 5) (by decide +kernel) (Nat.le_of_ble_eq_true rfl) rfl ?_
  intro p ev R st mi args below meth cd Q A ls C0 hR hret hP hD hS hl
  obtain ⟨hx, hb, hr, hml, hown, hts, hlk, hK, hnm⟩ := C0
  have hown : st.vm.findClass RL = some mi.cls := hown
  obtain ⟨htb, hXS, hXN, hret⟩ := hret
  refine lv_aload_n hx hb dL_ifJoined_0 rfl (lv_at hl 3 rfl) ?_
  refine lv_iconst (v := (nI 0)) hx hb dL_ifJoined_1 (by decide) ?_
  refine lv_aload_n hx hb dL_ifJoined_2 rfl (lv_at hl 0 rfl) ?_
  refine lv_iload_n hx hb dL_ifJoined_3 rfl (lv_at hl 1 rfl) ?_
  refine lv_iload_n hx hb dL_ifJoined_4 rfl (lv_at hl 2 rfl) ?_
  refine xl_call (hh := [(0, 10, 13, 13)]) (own := RL) [] ⟨0, 10, 13, 13⟩ [] (vx_runV (As := [.int (nI i0), .int y0]) (rest := [.int (nI 0), .ref ou]) ⟨hx, hb, hml, hown, hts⟩ (c_X6_ifJoined_y l hls Γ xa xs xk ha ta sa oa pa ja fa n0 th0 mv0 a e g i0 y0 (hn0) (hi0) (hy0)) (kcwV 2 hts kv_X6_ifJoined mw_675 (rm_le hR (Nat.le_of_ble_eq_true rfl) (Nat.le_of_ble_eq_true rfl))) (kPx_V hK (va_recv hK.1 hP (ci := 6) (q0 := 0) rfl rfl) (hP.sub (ws' := [(xa, .inr (6, [.ref fa, .ref xs, .ref xk, .ref ha, .ref ta, .ref sa, .ref oa, .ref pa, .ref ja])), (fa, .inr (0, [.ref a, .int (nI n0), .int (nI th0), .int (nI mv0)])), (a, .inr (1, [.ref e])), (e, .inl (Γ.2 0, 14, .inl (aN g)))]) [0, 1, 2, 3] rfl) (hD.sub (ws' := [(xa, .inr (6, [.ref fa, .ref xs, .ref xk, .ref ha, .ref ta, .ref sa, .ref oa, .ref pa, .ref ja])), (fa, .inr (0, [.ref a, .int (nI n0), .int (nI th0), .int (nI mv0)])), (a, .inr (1, [.ref e])), (e, .inl (Γ.2 0, 14, .inl (aN g)))]) [0, 1, 2, 3] (by decide +kernel) rfl) hXS hS) rfl rfl hl.1 rfl (lv_room (Nat.le_of_ble_eq_true rfl)) dL_ifJoined_5 (by rw [hR]; exact ⟨Nat.le_refl _, Nat.le_refl _⟩)) hown htb hXS hP hD hS [0, 1, 2, 3] rfl rfl rfl (by decide +kernel) (hts _ mw_624) (fun z9 hz9 => nomatch hz9) (by decide +kernel) (by decide) (fun q9 H locs hP hS => ?_)
  refine lv_astore (lv' := [(4, .ref q9), (0, .ref xa), (1, .int (nI i0)), (2, .int y0), (3, .ref ou)]) hx hb dL_ifJoined_13 hl (by decide) rfl (fun ls hl => ?_)
  refine lv_iconst (v := (nI 1)) hx hb dL_ifJoined_15 (by decide) ?_
  exact hret () hP hS (rfl) dL_ifJoined_16
set_option maxHeartbeats 8000000 in
set_option maxRecDepth 100000 in
theorem c_L_join_n (l : Launch) (hls : l.stackTraces = false) (Γ : kG) (xa : Nat) (xs : Nat) (xk : Nat) (ha : Nat) (ta : Nat) (sa : Nat) (oa : Nat) (pa : Nat) (ja : Nat) (fa : Nat) (n0 : Nat) (th0 : Nat) (mv0 : Nat) (a : Nat) (e : Nat) (g : Nat → Nat) (i0 : Nat) (j0 : Nat) (ou : Nat) (ov : Nat → Int64) (hfg : FG g) (hn0 : n0 ≤ 14) (hth : th0 < 2 ^ n0) (hi0 : i0 < n0) (hj0 : j0 < n0) (hc : (cjB g th0 n0 i0 j0) = false) : WT l yL_join (wsw yL_join cL_join 5 (some .int) [(0, 10, 13, 13), (0, 10, 17, 15)]) (rmX 9 1 6) Γ [.ref xa, .int (nI i0), .int (nI j0), .ref ou] [(xa, .inr (6, [.ref fa, .ref xs, .ref xk, .ref ha, .ref ta, .ref sa, .ref oa, .ref pa, .ref ja])), (fa, .inr (0, [.ref a, .int (nI n0), .int (nI th0), .int (nI mv0)])), (a, .inr (1, [.ref e])), (e, .inl (Γ.2 0, 14, .inl (aN g))), (ou, .inl (Γ.2 3, 1, .inr (.inl ov)))] (nI 2) := by
  refine wl_ofx (hh := [(0, 10, 13, 13), (0, 10, 17, 15)]) (cc := cL_join) (maxL := 5) (by decide +kernel) (Nat.le_of_ble_eq_true rfl) rfl ?_
  intro p ev R st mi args below meth cd Q A ls C0 hR hret hP hD hS hl
  obtain ⟨hx, hb, hr, hml, hown, hts, hlk, hK, hnm⟩ := C0
  have hown : st.vm.findClass RL = some mi.cls := hown
  obtain ⟨htb, hXS, hXN, hret⟩ := hret
  refine lv_aload_n hx hb dL_join_0 rfl (lv_at hl 3 rfl) ?_
  refine lv_iconst (v := (nI 0)) hx hb dL_join_1 (by decide) ?_
  refine lv_aload_n hx hb dL_join_2 rfl (lv_at hl 0 rfl) ?_
  refine lv_iload_n hx hb dL_join_3 rfl (lv_at hl 1 rfl) ?_
  refine lv_iload_n hx hb dL_join_4 rfl (lv_at hl 2 rfl) ?_
  refine xl_call (hh := [(0, 10, 13, 13), (0, 10, 17, 15)]) (own := RL) [⟨0, 10, 13, 13⟩] ⟨0, 10, 17, 15⟩ [] (vx_runV (As := [.int (nI i0), .int (nI j0)]) (rest := [.int (nI 0), .ref ou]) ⟨hx, hb, hml, hown, hts⟩ (c_X6_join_n l hls Γ xa xs xk ha ta sa oa pa ja fa n0 th0 mv0 a e g i0 j0 (hfg) (hn0) (hth) (hi0) (hj0) (hc)) (kcwV 2 hts kv_X6_join mw_630 (rm_le hR (Nat.le_of_ble_eq_true rfl) (Nat.le_of_ble_eq_true rfl))) (kPx_V hK (va_recv hK.1 hP (ci := 6) (q0 := 0) rfl rfl) (hP.sub (ws' := [(xa, .inr (6, [.ref fa, .ref xs, .ref xk, .ref ha, .ref ta, .ref sa, .ref oa, .ref pa, .ref ja])), (fa, .inr (0, [.ref a, .int (nI n0), .int (nI th0), .int (nI mv0)])), (a, .inr (1, [.ref e])), (e, .inl (Γ.2 0, 14, .inl (aN g)))]) [0, 1, 2, 3] rfl) (hD.sub (ws' := [(xa, .inr (6, [.ref fa, .ref xs, .ref xk, .ref ha, .ref ta, .ref sa, .ref oa, .ref pa, .ref ja])), (fa, .inr (0, [.ref a, .int (nI n0), .int (nI th0), .int (nI mv0)])), (a, .inr (1, [.ref e])), (e, .inl (Γ.2 0, 14, .inl (aN g)))]) [0, 1, 2, 3] (by decide +kernel) rfl) hXS hS) rfl rfl hl.1 rfl (lv_room (Nat.le_of_ble_eq_true rfl)) dL_join_5 (by rw [hR]; exact ⟨Nat.le_refl _, Nat.le_refl _⟩)) hown htb hXS hP hD hS [0, 1, 2, 3] rfl rfl rfl (by decide +kernel) (hts _ mw_625) (fun z9 hz9 => by rcases List.mem_singleton.mp hz9 with rfl; exact Or.inr ⟨by decide, _, hts _ mw_624, hXN.1⟩) (by decide +kernel) (by decide) (fun q9 H locs hP hS => ?_)
  refine lv_astore (lv' := [(4, .ref q9), (0, .ref xa), (1, .int (nI i0)), (2, .int (nI j0)), (3, .ref ou)]) hx hb dL_join_17 hl (by decide) rfl (fun ls hl => ?_)
  refine lv_iconst (v := (nI 2)) hx hb dL_join_19 (by decide) ?_
  exact hret () hP hS (rfl) dL_join_20
set_option maxHeartbeats 8000000 in
set_option maxRecDepth 100000 in
theorem c_L_cut_n (l : Launch) (hls : l.stackTraces = false) (Γ : kG) (xa : Nat) (xs : Nat) (xk : Nat) (ha : Nat) (ta : Nat) (sa : Nat) (oa : Nat) (pa : Nat) (ja : Nat) (fa : Nat) (n0 : Nat) (th0 : Nat) (mv0 : Nat) (a : Nat) (e : Nat) (g : Nat → Nat) (i0 : Nat) (j0 : Nat) (ou : Nat) (ov : Nat → Int64) (hfg : FG g) (hn0 : n0 ≤ 14) (hth : th0 < 2 ^ n0) (hi0 : i0 < n0) (hj0 : j0 < n0) (hc : (edB g th0 i0 j0) = false) : WT l yL_cut (wsw yL_cut cL_cut 5 (some .int) [(0, 10, 13, 13), (0, 10, 17, 15)]) (rmX 9 1 6) Γ [.ref xa, .int (nI i0), .int (nI j0), .ref ou] [(xa, .inr (6, [.ref fa, .ref xs, .ref xk, .ref ha, .ref ta, .ref sa, .ref oa, .ref pa, .ref ja])), (fa, .inr (0, [.ref a, .int (nI n0), .int (nI th0), .int (nI mv0)])), (a, .inr (1, [.ref e])), (e, .inl (Γ.2 0, 14, .inl (aN g))), (ou, .inl (Γ.2 3, 1, .inr (.inl ov)))] (nI 2) := by
  refine wl_ofx (hh := [(0, 10, 13, 13), (0, 10, 17, 15)]) (cc := cL_cut) (maxL := 5) (by decide +kernel) (Nat.le_of_ble_eq_true rfl) rfl ?_
  intro p ev R st mi args below meth cd Q A ls C0 hR hret hP hD hS hl
  obtain ⟨hx, hb, hr, hml, hown, hts, hlk, hK, hnm⟩ := C0
  have hown : st.vm.findClass RL = some mi.cls := hown
  obtain ⟨htb, hXS, hXN, hret⟩ := hret
  refine lv_aload_n hx hb dL_cut_0 rfl (lv_at hl 3 rfl) ?_
  refine lv_iconst (v := (nI 0)) hx hb dL_cut_1 (by decide) ?_
  refine lv_aload_n hx hb dL_cut_2 rfl (lv_at hl 0 rfl) ?_
  refine lv_iload_n hx hb dL_cut_3 rfl (lv_at hl 1 rfl) ?_
  refine lv_iload_n hx hb dL_cut_4 rfl (lv_at hl 2 rfl) ?_
  refine xl_call (hh := [(0, 10, 13, 13), (0, 10, 17, 15)]) (own := RL) [⟨0, 10, 13, 13⟩] ⟨0, 10, 17, 15⟩ [] (vx_runV (As := [.int (nI i0), .int (nI j0)]) (rest := [.int (nI 0), .ref ou]) ⟨hx, hb, hml, hown, hts⟩ (c_X6_cut_n l hls Γ xa xs xk ha ta sa oa pa ja fa n0 th0 mv0 a e g i0 j0 (hfg) (hn0) (hth) (hi0) (hj0) (hc)) (kcwV 2 hts kv_X6_cut mw_634 (rm_le hR (Nat.le_of_ble_eq_true rfl) (Nat.le_of_ble_eq_true rfl))) (kPx_V hK (va_recv hK.1 hP (ci := 6) (q0 := 0) rfl rfl) (hP.sub (ws' := [(xa, .inr (6, [.ref fa, .ref xs, .ref xk, .ref ha, .ref ta, .ref sa, .ref oa, .ref pa, .ref ja])), (fa, .inr (0, [.ref a, .int (nI n0), .int (nI th0), .int (nI mv0)])), (a, .inr (1, [.ref e])), (e, .inl (Γ.2 0, 14, .inl (aN g)))]) [0, 1, 2, 3] rfl) (hD.sub (ws' := [(xa, .inr (6, [.ref fa, .ref xs, .ref xk, .ref ha, .ref ta, .ref sa, .ref oa, .ref pa, .ref ja])), (fa, .inr (0, [.ref a, .int (nI n0), .int (nI th0), .int (nI mv0)])), (a, .inr (1, [.ref e])), (e, .inl (Γ.2 0, 14, .inl (aN g)))]) [0, 1, 2, 3] (by decide +kernel) rfl) hXS hS) rfl rfl hl.1 rfl (lv_room (Nat.le_of_ble_eq_true rfl)) dL_cut_5 (by rw [hR]; exact ⟨Nat.le_refl _, Nat.le_refl _⟩)) hown htb hXS hP hD hS [0, 1, 2, 3] rfl rfl rfl (by decide +kernel) (hts _ mw_625) (fun z9 hz9 => by rcases List.mem_singleton.mp hz9 with rfl; exact Or.inr ⟨by decide, _, hts _ mw_624, hXN.1⟩) (by decide +kernel) (by decide) (fun q9 H locs hP hS => ?_)
  refine lv_astore (lv' := [(4, .ref q9), (0, .ref xa), (1, .int (nI i0)), (2, .int (nI j0)), (3, .ref ou)]) hx hb dL_cut_17 hl (by decide) rfl (fun ls hl => ?_)
  refine lv_iconst (v := (nI 2)) hx hb dL_cut_19 (by decide) ?_
  exact hret () hP hS (rfl) dL_cut_20
set_option maxHeartbeats 8000000 in
set_option maxRecDepth 100000 in
theorem c_L_take_x (l : Launch) (hls : l.stackTraces = false) (Γ : kG) (xa : Nat) (xs : Nat) (xk : Nat) (ha : Nat) (ta : Nat) (sa : Nat) (oa : Nat) (pa : Nat) (ja : Nat) (fa : Nat) (n0 : Nat) (th0 : Nat) (mv0 : Nat) (a : Nat) (e : Nat) (g : Nat → Nat) (x0 : Int32) (ou : Nat) (ov : Nat → Int64) (hn0 : n0 ≤ 14) (hx0 : isN n0 x0 = false) : WT l yL_take (wsw yL_take cL_take 4 (some .int) [(0, 9, 12, 13), (0, 9, 15, 15)]) (rmX 9 1 6) Γ [.ref xa, .int x0, .ref ou] [(xa, .inr (6, [.ref fa, .ref xs, .ref xk, .ref ha, .ref ta, .ref sa, .ref oa, .ref pa, .ref ja])), (fa, .inr (0, [.ref a, .int (nI n0), .int (nI th0), .int (nI mv0)])), (a, .inr (1, [.ref e])), (e, .inl (Γ.2 0, 14, .inl (aN g))), (ou, .inl (Γ.2 3, 1, .inr (.inl ov)))] (nI 1) := by
  refine wl_ofx (hh := [(0, 9, 12, 13), (0, 9, 15, 15)]) (cc := cL_take) (maxL := 4) (by decide +kernel) (Nat.le_of_ble_eq_true rfl) rfl ?_
  intro p ev R st mi args below meth cd Q A ls C0 hR hret hP hD hS hl
  obtain ⟨hx, hb, hr, hml, hown, hts, hlk, hK, hnm⟩ := C0
  have hown : st.vm.findClass RL = some mi.cls := hown
  obtain ⟨htb, hXS, hXN, hret⟩ := hret
  refine lv_aload_n hx hb dL_take_0 rfl (lv_at hl 2 rfl) ?_
  refine lv_iconst (v := (nI 0)) hx hb dL_take_1 (by decide) ?_
  refine lv_aload_n hx hb dL_take_2 rfl (lv_at hl 0 rfl) ?_
  refine lv_iload_n hx hb dL_take_3 rfl (lv_at hl 1 rfl) ?_
  refine xl_call (hh := [(0, 9, 12, 13), (0, 9, 15, 15)]) (own := RL) [] ⟨0, 9, 12, 13⟩ [⟨0, 9, 15, 15⟩] (vx_runV (As := [.int x0]) (rest := [.int (nI 0), .ref ou]) ⟨hx, hb, hml, hown, hts⟩ (c_X6_take_x l hls Γ xa xs xk ha ta sa oa pa ja fa n0 th0 mv0 a e g x0 (hn0) (hx0)) (kcwV 1 hts kv_X6_take mw_638 (rm_le hR (Nat.le_of_ble_eq_true rfl) (Nat.le_of_ble_eq_true rfl))) (kPx_V hK (va_recv hK.1 hP (ci := 6) (q0 := 0) rfl rfl) (hP.sub (ws' := [(xa, .inr (6, [.ref fa, .ref xs, .ref xk, .ref ha, .ref ta, .ref sa, .ref oa, .ref pa, .ref ja])), (fa, .inr (0, [.ref a, .int (nI n0), .int (nI th0), .int (nI mv0)])), (a, .inr (1, [.ref e])), (e, .inl (Γ.2 0, 14, .inl (aN g)))]) [0, 1, 2, 3] rfl) (hD.sub (ws' := [(xa, .inr (6, [.ref fa, .ref xs, .ref xk, .ref ha, .ref ta, .ref sa, .ref oa, .ref pa, .ref ja])), (fa, .inr (0, [.ref a, .int (nI n0), .int (nI th0), .int (nI mv0)])), (a, .inr (1, [.ref e])), (e, .inl (Γ.2 0, 14, .inl (aN g)))]) [0, 1, 2, 3] (by decide +kernel) rfl) hXS hS) rfl rfl hl.1 rfl (lv_room (Nat.le_of_ble_eq_true rfl)) dL_take_4 (by rw [hR]; exact ⟨Nat.le_refl _, Nat.le_refl _⟩)) hown htb hXS hP hD hS [0, 1, 2, 3] rfl rfl rfl (by decide +kernel) (hts _ mw_624) (fun z9 hz9 => nomatch hz9) (by decide +kernel) (by decide) (fun q9 H locs hP hS => ?_)
  refine lv_astore_n (lv' := [(3, .ref q9), (0, .ref xa), (1, .int x0), (2, .ref ou)]) hx hb dL_take_12 rfl hl (by decide) rfl (fun ls hl => ?_)
  refine lv_iconst (v := (nI 1)) hx hb dL_take_13 (by decide) ?_
  exact hret () hP hS (rfl) dL_take_14
set_option maxHeartbeats 8000000 in
set_option maxRecDepth 100000 in
theorem c_L_take_t (l : Launch) (hls : l.stackTraces = false) (Γ : kG) (xa : Nat) (xs : Nat) (xk : Nat) (ha : Nat) (ta : Nat) (sa : Nat) (oa : Nat) (pa : Nat) (ja : Nat) (fa : Nat) (n0 : Nat) (th0 : Nat) (mv0 : Nat) (a : Nat) (e : Nat) (g : Nat → Nat) (v0 : Nat) (ou : Nat) (ov : Nat → Int64) (hn0 : n0 ≤ 14) (hth : th0 < 2 ^ n0) (hv0 : v0 < n0) (hb0 : th0.testBit v0 = false) : WT l yL_take (wsw yL_take cL_take 4 (some .int) [(0, 9, 12, 13), (0, 9, 15, 15)]) (rmX 9 1 6) Γ [.ref xa, .int (nI v0), .ref ou] [(xa, .inr (6, [.ref fa, .ref xs, .ref xk, .ref ha, .ref ta, .ref sa, .ref oa, .ref pa, .ref ja])), (fa, .inr (0, [.ref a, .int (nI n0), .int (nI th0), .int (nI mv0)])), (a, .inr (1, [.ref e])), (e, .inl (Γ.2 0, 14, .inl (aN g))), (ou, .inl (Γ.2 3, 1, .inr (.inl ov)))] (nI 2) := by
  refine wl_ofx (hh := [(0, 9, 12, 13), (0, 9, 15, 15)]) (cc := cL_take) (maxL := 4) (by decide +kernel) (Nat.le_of_ble_eq_true rfl) rfl ?_
  intro p ev R st mi args below meth cd Q A ls C0 hR hret hP hD hS hl
  obtain ⟨hx, hb, hr, hml, hown, hts, hlk, hK, hnm⟩ := C0
  have hown : st.vm.findClass RL = some mi.cls := hown
  obtain ⟨htb, hXS, hXN, hret⟩ := hret
  refine lv_aload_n hx hb dL_take_0 rfl (lv_at hl 2 rfl) ?_
  refine lv_iconst (v := (nI 0)) hx hb dL_take_1 (by decide) ?_
  refine lv_aload_n hx hb dL_take_2 rfl (lv_at hl 0 rfl) ?_
  refine lv_iload_n hx hb dL_take_3 rfl (lv_at hl 1 rfl) ?_
  refine xl_call (hh := [(0, 9, 12, 13), (0, 9, 15, 15)]) (own := RL) [⟨0, 9, 12, 13⟩] ⟨0, 9, 15, 15⟩ [] (vx_runV (As := [.int (nI v0)]) (rest := [.int (nI 0), .ref ou]) ⟨hx, hb, hml, hown, hts⟩ (c_X6_take_t l hls Γ xa xs xk ha ta sa oa pa ja fa n0 th0 mv0 a e g v0 (hn0) (hth) (hv0) (hb0)) (kcwV 1 hts kv_X6_take mw_638 (rm_le hR (Nat.le_of_ble_eq_true rfl) (Nat.le_of_ble_eq_true rfl))) (kPx_V hK (va_recv hK.1 hP (ci := 6) (q0 := 0) rfl rfl) (hP.sub (ws' := [(xa, .inr (6, [.ref fa, .ref xs, .ref xk, .ref ha, .ref ta, .ref sa, .ref oa, .ref pa, .ref ja])), (fa, .inr (0, [.ref a, .int (nI n0), .int (nI th0), .int (nI mv0)])), (a, .inr (1, [.ref e])), (e, .inl (Γ.2 0, 14, .inl (aN g)))]) [0, 1, 2, 3] rfl) (hD.sub (ws' := [(xa, .inr (6, [.ref fa, .ref xs, .ref xk, .ref ha, .ref ta, .ref sa, .ref oa, .ref pa, .ref ja])), (fa, .inr (0, [.ref a, .int (nI n0), .int (nI th0), .int (nI mv0)])), (a, .inr (1, [.ref e])), (e, .inl (Γ.2 0, 14, .inl (aN g)))]) [0, 1, 2, 3] (by decide +kernel) rfl) hXS hS) rfl rfl hl.1 rfl (lv_room (Nat.le_of_ble_eq_true rfl)) dL_take_4 (by rw [hR]; exact ⟨Nat.le_refl _, Nat.le_refl _⟩)) hown htb hXS hP hD hS [0, 1, 2, 3] rfl rfl rfl (by decide +kernel) (hts _ mw_625) (fun z9 hz9 => by rcases List.mem_singleton.mp hz9 with rfl; exact Or.inr ⟨by decide, _, hts _ mw_624, hXN.1⟩) (by decide +kernel) (by decide) (fun q9 H locs hP hS => ?_)
  refine lv_astore_n (lv' := [(3, .ref q9), (0, .ref xa), (1, .int (nI v0)), (2, .ref ou)]) hx hb dL_take_15 rfl hl (by decide) rfl (fun ls hl => ?_)
  refine lv_iconst (v := (nI 2)) hx hb dL_take_16 (by decide) ?_
  exact hret () hP hS (rfl) dL_take_17
set_option maxHeartbeats 8000000 in
set_option maxRecDepth 100000 in
theorem c_L_reply_x (l : Launch) (hls : l.stackTraces = false) (Γ : kG) (xa : Nat) (xs : Nat) (xk : Nat) (ha : Nat) (ta : Nat) (sa : Nat) (oa : Nat) (pa : Nat) (ja : Nat) (fa : Nat) (n0 : Nat) (th0 : Nat) (mv0 : Nat) (a : Nat) (e : Nat) (g : Nat → Nat) (ou : Nat) (ov : Nat → Int64) (hz : th0 = 0) : WT l yL_reply (wsw yL_reply cL_reply 3 (some .int) [(0, 8, 11, 15)]) (rmX 9 1 6) Γ [.ref xa, .ref ou] [(xa, .inr (6, [.ref fa, .ref xs, .ref xk, .ref ha, .ref ta, .ref sa, .ref oa, .ref pa, .ref ja])), (fa, .inr (0, [.ref a, .int (nI n0), .int (nI th0), .int (nI mv0)])), (a, .inr (1, [.ref e])), (e, .inl (Γ.2 0, 14, .inl (aN g))), (ou, .inl (Γ.2 3, 1, .inr (.inl ov)))] (nI 1) := by
  refine wl_ofx (hh := [(0, 8, 11, 15)]) (cc := cL_reply) (maxL := 3) (by decide +kernel) (Nat.le_of_ble_eq_true rfl) rfl ?_
  intro p ev R st mi args below meth cd Q A ls C0 hR hret hP hD hS hl
  obtain ⟨hx, hb, hr, hml, hown, hts, hlk, hK, hnm⟩ := C0
  have hown : st.vm.findClass RL = some mi.cls := hown
  obtain ⟨htb, hXS, hXN, hret⟩ := hret
  refine lv_aload_n hx hb dL_reply_0 rfl (lv_at hl 1 rfl) ?_
  refine lv_iconst (v := (nI 0)) hx hb dL_reply_1 (by decide) ?_
  refine lv_aload_n hx hb dL_reply_2 rfl (lv_at hl 0 rfl) ?_
  refine xl_call (hh := [(0, 8, 11, 15)]) (own := RL) [] ⟨0, 8, 11, 15⟩ [] (vx_runV (As := []) (rest := [.int (nI 0), .ref ou]) ⟨hx, hb, hml, hown, hts⟩ (c_X6_reply_x l hls Γ xa xs xk ha ta sa oa pa ja fa n0 th0 mv0 a e g (hz)) (kcwV 0 hts kv_X6_reply mw_642 (rm_le hR (Nat.le_of_ble_eq_true rfl) (Nat.le_of_ble_eq_true rfl))) (kPx_V hK (va_recv hK.1 hP (ci := 6) (q0 := 0) rfl rfl) (hP.sub (ws' := [(xa, .inr (6, [.ref fa, .ref xs, .ref xk, .ref ha, .ref ta, .ref sa, .ref oa, .ref pa, .ref ja])), (fa, .inr (0, [.ref a, .int (nI n0), .int (nI th0), .int (nI mv0)])), (a, .inr (1, [.ref e])), (e, .inl (Γ.2 0, 14, .inl (aN g)))]) [0, 1, 2, 3] rfl) (hD.sub (ws' := [(xa, .inr (6, [.ref fa, .ref xs, .ref xk, .ref ha, .ref ta, .ref sa, .ref oa, .ref pa, .ref ja])), (fa, .inr (0, [.ref a, .int (nI n0), .int (nI th0), .int (nI mv0)])), (a, .inr (1, [.ref e])), (e, .inl (Γ.2 0, 14, .inl (aN g)))]) [0, 1, 2, 3] (by decide +kernel) rfl) hXS hS) rfl rfl hl.1 rfl (lv_room (Nat.le_of_ble_eq_true rfl)) dL_reply_3 (by rw [hR]; exact ⟨Nat.le_refl _, Nat.le_refl _⟩)) hown htb hXS hP hD hS [0, 1, 2, 3] rfl rfl rfl (by decide +kernel) (hts _ mw_625) (fun z9 hz9 => nomatch hz9) (by decide +kernel) (by decide) (fun q9 H locs hP hS => ?_)
  refine lv_astore_n (lv' := [(2, .ref q9), (0, .ref xa), (1, .ref ou)]) hx hb dL_reply_11 rfl hl (by decide) rfl (fun ls hl => ?_)
  refine lv_iconst (v := (nI 1)) hx hb dL_reply_12 (by decide) ?_
  exact hret () hP hS (rfl) dL_reply_13
set_option maxHeartbeats 8000000 in
set_option maxRecDepth 100000 in
theorem c_L_append_x (l : Launch) (hls : l.stackTraces = false) (Γ : kG) (xa : Nat) (xs : Nat) (xk : Nat) (ha : Nat) (ta : Nat) (sa : Nat) (oa : Nat) (pa : Nat) (ja : Nat) (fa : Nat) (tc : Nat) (sz0 : Nat) (tx : Nat → Nat) (x0 : Int32) (ou : Nat) (ov : Nat → Int64) (hx0 : ¬ (nI 33 ≤ x0 ∧ x0 ≤ nI 126)) : WT l yL_append (wsw yL_append cL_append 4 (some .int) [(0, 9, 12, 34), (0, 9, 15, 15)]) (rmX 9 1 6) Γ [.ref xa, .int x0, .ref ou] [(xa, .inr (6, [.ref fa, .ref xs, .ref xk, .ref ha, .ref ta, .ref sa, .ref oa, .ref pa, .ref ja])), (ta, .inr (5, [.ref tc, .int (nI sz0)])), (tc, .inl (Γ.2 0, 14, .inl (aN tx))), (ou, .inl (Γ.2 3, 1, .inr (.inl ov)))] (nI 1) := by
  refine wl_ofx (hh := [(0, 9, 12, 34), (0, 9, 15, 15)]) (cc := cL_append) (maxL := 4) (by decide +kernel) (Nat.le_of_ble_eq_true rfl) rfl ?_
  intro p ev R st mi args below meth cd Q A ls C0 hR hret hP hD hS hl
  obtain ⟨hx, hb, hr, hml, hown, hts, hlk, hK, hnm⟩ := C0
  have hown : st.vm.findClass RL = some mi.cls := hown
  obtain ⟨htb, hXS, hXN, hret⟩ := hret
  refine lv_aload_n hx hb dL_append_0 rfl (lv_at hl 2 rfl) ?_
  refine lv_iconst (v := (nI 0)) hx hb dL_append_1 (by decide) ?_
  refine lv_aload_n hx hb dL_append_2 rfl (lv_at hl 0 rfl) ?_
  refine lv_iload_n hx hb dL_append_3 rfl (lv_at hl 1 rfl) ?_
  refine xl_call (hh := [(0, 9, 12, 34), (0, 9, 15, 15)]) (own := RL) [] ⟨0, 9, 12, 34⟩ [⟨0, 9, 15, 15⟩] (vx_runV (As := [.int x0]) (rest := [.int (nI 0), .ref ou]) ⟨hx, hb, hml, hown, hts⟩ (c_X6_append_x l hls Γ xa xs xk ha ta sa oa pa ja fa tc sz0 tx x0 (hx0)) (kcwV 1 hts kv_X6_append mw_648 (rm_le hR (Nat.le_of_ble_eq_true rfl) (Nat.le_of_ble_eq_true rfl))) (kPx_V hK (va_recv hK.1 hP (ci := 6) (q0 := 0) rfl rfl) (hP.sub (ws' := [(xa, .inr (6, [.ref fa, .ref xs, .ref xk, .ref ha, .ref ta, .ref sa, .ref oa, .ref pa, .ref ja])), (ta, .inr (5, [.ref tc, .int (nI sz0)])), (tc, .inl (Γ.2 0, 14, .inl (aN tx)))]) [0, 1, 2] rfl) (hD.sub (ws' := [(xa, .inr (6, [.ref fa, .ref xs, .ref xk, .ref ha, .ref ta, .ref sa, .ref oa, .ref pa, .ref ja])), (ta, .inr (5, [.ref tc, .int (nI sz0)])), (tc, .inl (Γ.2 0, 14, .inl (aN tx)))]) [0, 1, 2] (by decide +kernel) rfl) hXS hS) rfl rfl hl.1 rfl (lv_room (Nat.le_of_ble_eq_true rfl)) dL_append_4 (by rw [hR]; exact ⟨Nat.le_refl _, Nat.le_refl _⟩)) hown htb hXS hP hD hS [0, 1, 2] rfl rfl rfl (by decide +kernel) (hts _ mw_647) (fun z9 hz9 => nomatch hz9) (by decide +kernel) (by decide) (fun q9 H locs hP hS => ?_)
  refine lv_astore_n (lv' := [(3, .ref q9), (0, .ref xa), (1, .int x0), (2, .ref ou)]) hx hb dL_append_12 rfl hl (by decide) rfl (fun ls hl => ?_)
  refine lv_iconst (v := (nI 1)) hx hb dL_append_13 (by decide) ?_
  exact hret () hP hS (rfl) dL_append_14
set_option maxHeartbeats 8000000 in
set_option maxRecDepth 100000 in
theorem c_L_append_f (l : Launch) (hls : l.stackTraces = false) (Γ : kG) (xa : Nat) (xs : Nat) (xk : Nat) (ha : Nat) (ta : Nat) (sa : Nat) (oa : Nat) (pa : Nat) (ja : Nat) (fa : Nat) (tc : Nat) (sz0 : Nat) (tx : Nat → Nat) (c0 : Nat) (ou : Nat) (ov : Nat → Int64) (h33 : 33 ≤ c0) (h126 : c0 ≤ 126) (hsz : sz0 = 14) : WT l yL_append (wsw yL_append cL_append 4 (some .int) [(0, 9, 12, 34), (0, 9, 15, 15)]) (rmX 9 1 6) Γ [.ref xa, .int (nI c0), .ref ou] [(xa, .inr (6, [.ref fa, .ref xs, .ref xk, .ref ha, .ref ta, .ref sa, .ref oa, .ref pa, .ref ja])), (ta, .inr (5, [.ref tc, .int (nI sz0)])), (tc, .inl (Γ.2 0, 14, .inl (aN tx))), (ou, .inl (Γ.2 3, 1, .inr (.inl ov)))] (nI 2) := by
  refine wl_ofx (hh := [(0, 9, 12, 34), (0, 9, 15, 15)]) (cc := cL_append) (maxL := 4) (by decide +kernel) (Nat.le_of_ble_eq_true rfl) rfl ?_
  intro p ev R st mi args below meth cd Q A ls C0 hR hret hP hD hS hl
  obtain ⟨hx, hb, hr, hml, hown, hts, hlk, hK, hnm⟩ := C0
  have hown : st.vm.findClass RL = some mi.cls := hown
  obtain ⟨htb, hXS, hXN, hret⟩ := hret
  refine lv_aload_n hx hb dL_append_0 rfl (lv_at hl 2 rfl) ?_
  refine lv_iconst (v := (nI 0)) hx hb dL_append_1 (by decide) ?_
  refine lv_aload_n hx hb dL_append_2 rfl (lv_at hl 0 rfl) ?_
  refine lv_iload_n hx hb dL_append_3 rfl (lv_at hl 1 rfl) ?_
  refine xl_call (hh := [(0, 9, 12, 34), (0, 9, 15, 15)]) (own := RL) [⟨0, 9, 12, 34⟩] ⟨0, 9, 15, 15⟩ [] (vx_runV (As := [.int (nI c0)]) (rest := [.int (nI 0), .ref ou]) ⟨hx, hb, hml, hown, hts⟩ (c_X6_append_f l hls Γ xa xs xk ha ta sa oa pa ja fa tc sz0 tx c0 (h33) (h126) (hsz)) (kcwV 1 hts kv_X6_append mw_648 (rm_le hR (Nat.le_of_ble_eq_true rfl) (Nat.le_of_ble_eq_true rfl))) (kPx_V hK (va_recv hK.1 hP (ci := 6) (q0 := 0) rfl rfl) (hP.sub (ws' := [(xa, .inr (6, [.ref fa, .ref xs, .ref xk, .ref ha, .ref ta, .ref sa, .ref oa, .ref pa, .ref ja])), (ta, .inr (5, [.ref tc, .int (nI sz0)])), (tc, .inl (Γ.2 0, 14, .inl (aN tx)))]) [0, 1, 2] rfl) (hD.sub (ws' := [(xa, .inr (6, [.ref fa, .ref xs, .ref xk, .ref ha, .ref ta, .ref sa, .ref oa, .ref pa, .ref ja])), (ta, .inr (5, [.ref tc, .int (nI sz0)])), (tc, .inl (Γ.2 0, 14, .inl (aN tx)))]) [0, 1, 2] (by decide +kernel) rfl) hXS hS) rfl rfl hl.1 rfl (lv_room (Nat.le_of_ble_eq_true rfl)) dL_append_4 (by rw [hR]; exact ⟨Nat.le_refl _, Nat.le_refl _⟩)) hown htb hXS hP hD hS [0, 1, 2] rfl rfl rfl (by decide +kernel) (hts _ mw_625) (fun z9 hz9 => by rcases List.mem_singleton.mp hz9 with rfl; exact Or.inr ⟨by decide, _, hts _ mw_647, hXN.2.1⟩) (by decide +kernel) (by decide) (fun q9 H locs hP hS => ?_)
  refine lv_astore_n (lv' := [(3, .ref q9), (0, .ref xa), (1, .int (nI c0)), (2, .ref ou)]) hx hb dL_append_15 rfl hl (by decide) rfl (fun ls hl => ?_)
  refine lv_iconst (v := (nI 2)) hx hb dL_append_16 (by decide) ?_
  exact hret () hP hS (rfl) dL_append_17
set_option maxHeartbeats 8000000 in
set_option maxRecDepth 100000 in
theorem c_L_load_x (l : Launch) (hls : l.stackTraces = false) (Γ : kG) (xa : Nat) (xs : Nat) (xk : Nat) (ha : Nat) (ta : Nat) (sa : Nat) (oa : Nat) (pa : Nat) (ja : Nat) (fa : Nat) (tc : Nat) (sz0 : Nat) (tx : Nat → Nat) (ou : Nat) (ov : Nat → Int64) (htx : ∀ i, i < 14 → tx i < 128) (hsz : sz0 ≤ 14) (hfw : fst (wrg tx) sz0 < sz0) : WT l yL_load (wsw yL_load cL_load 3 (some .int) [(0, 8, 11, 34)]) (rmX 9 1 6) Γ [.ref xa, .ref ou] [(xa, .inr (6, [.ref fa, .ref xs, .ref xk, .ref ha, .ref ta, .ref sa, .ref oa, .ref pa, .ref ja])), (ta, .inr (5, [.ref tc, .int (nI sz0)])), (tc, .inl (Γ.2 0, 14, .inl (aN tx))), (ou, .inl (Γ.2 3, 1, .inr (.inl ov)))] (nI 1) := by
  refine wl_ofx (hh := [(0, 8, 11, 34)]) (cc := cL_load) (maxL := 3) (by decide +kernel) (Nat.le_of_ble_eq_true rfl) rfl ?_
  intro p ev R st mi args below meth cd Q A ls C0 hR hret hP hD hS hl
  obtain ⟨hx, hb, hr, hml, hown, hts, hlk, hK, hnm⟩ := C0
  have hown : st.vm.findClass RL = some mi.cls := hown
  obtain ⟨htb, hXS, hXN, hret⟩ := hret
  refine lv_aload_n hx hb dL_load_0 rfl (lv_at hl 1 rfl) ?_
  refine lv_iconst (v := (nI 0)) hx hb dL_load_1 (by decide) ?_
  refine lv_aload_n hx hb dL_load_2 rfl (lv_at hl 0 rfl) ?_
  refine xl_call (hh := [(0, 8, 11, 34)]) (own := RL) [] ⟨0, 8, 11, 34⟩ [] (vx_runV (As := []) (rest := [.int (nI 0), .ref ou]) ⟨hx, hb, hml, hown, hts⟩ (c_X6_load_x l hls Γ xa xs xk ha ta sa oa pa ja fa tc sz0 tx (htx) (hsz) (hfw)) (kcwV 0 hts kv_X6_load mw_651 (rm_le hR (Nat.le_of_ble_eq_true rfl) (Nat.le_of_ble_eq_true rfl))) (kPx_V hK (va_recv hK.1 hP (ci := 6) (q0 := 0) rfl rfl) (hP.sub (ws' := [(xa, .inr (6, [.ref fa, .ref xs, .ref xk, .ref ha, .ref ta, .ref sa, .ref oa, .ref pa, .ref ja])), (ta, .inr (5, [.ref tc, .int (nI sz0)])), (tc, .inl (Γ.2 0, 14, .inl (aN tx)))]) [0, 1, 2] rfl) (hD.sub (ws' := [(xa, .inr (6, [.ref fa, .ref xs, .ref xk, .ref ha, .ref ta, .ref sa, .ref oa, .ref pa, .ref ja])), (ta, .inr (5, [.ref tc, .int (nI sz0)])), (tc, .inl (Γ.2 0, 14, .inl (aN tx)))]) [0, 1, 2] (by decide +kernel) rfl) hXS hS) rfl rfl hl.1 rfl (lv_room (Nat.le_of_ble_eq_true rfl)) dL_load_3 (by rw [hR]; exact ⟨Nat.le_refl _, Nat.le_refl _⟩)) hown htb hXS hP hD hS [0, 1, 2] rfl rfl rfl (by decide +kernel) (hts _ mw_647) (fun z9 hz9 => nomatch hz9) (by decide +kernel) (by decide) (fun q9 H locs hP hS => ?_)
  refine lv_astore_n (lv' := [(2, .ref q9), (0, .ref xa), (1, .ref ou)]) hx hb dL_load_11 rfl hl (by decide) rfl (fun ls hl => ?_)
  refine lv_iconst (v := (nI 1)) hx hb dL_load_12 (by decide) ?_
  exact hret () hP hS (rfl) dL_load_13
set_option maxHeartbeats 8000000 in
set_option maxRecDepth 100000 in
theorem c_L_keep_x (l : Launch) (hls : l.stackTraces = false) (Γ : kG) (xa : Nat) (xs : Nat) (xk : Nat) (ha : Nat) (ta : Nat) (sa : Nat) (oa : Nat) (pa : Nat) (ja : Nat) (fa : Nat) (x0 : Int32) (ou : Nat) (ov : Nat → Int64) (hx0 : ¬ (nI 0 ≤ x0 ∧ x0 ≤ nI 1)) : WT l yL_keep (wsw yL_keep cL_keep 4 (some .int) [(0, 9, 12, 34)]) (rmX 9 1 6) Γ [.ref xa, .int x0, .ref ou] [(xa, .inr (6, [.ref fa, .ref xs, .ref xk, .ref ha, .ref ta, .ref sa, .ref oa, .ref pa, .ref ja])), (ou, .inl (Γ.2 3, 1, .inr (.inl ov)))] (nI 1) := by
  refine wl_ofx (hh := [(0, 9, 12, 34)]) (cc := cL_keep) (maxL := 4) (by decide +kernel) (Nat.le_of_ble_eq_true rfl) rfl ?_
  intro p ev R st mi args below meth cd Q A ls C0 hR hret hP hD hS hl
  obtain ⟨hx, hb, hr, hml, hown, hts, hlk, hK, hnm⟩ := C0
  have hown : st.vm.findClass RL = some mi.cls := hown
  obtain ⟨htb, hXS, hXN, hret⟩ := hret
  refine lv_aload_n hx hb dL_keep_0 rfl (lv_at hl 2 rfl) ?_
  refine lv_iconst (v := (nI 0)) hx hb dL_keep_1 (by decide) ?_
  refine lv_aload_n hx hb dL_keep_2 rfl (lv_at hl 0 rfl) ?_
  refine lv_iload_n hx hb dL_keep_3 rfl (lv_at hl 1 rfl) ?_
  refine xl_call (hh := [(0, 9, 12, 34)]) (own := RL) [] ⟨0, 9, 12, 34⟩ [] (vx_runV (As := [.int x0]) (rest := [.int (nI 0), .ref ou]) ⟨hx, hb, hml, hown, hts⟩ (c_X6_keep_x l hls Γ xa xs xk ha ta sa oa pa ja fa x0 (hx0)) (kcwV 1 hts kv_X6_keep mw_655 (rm_le hR (Nat.le_of_ble_eq_true rfl) (Nat.le_of_ble_eq_true rfl))) (kPx_V hK (va_recv hK.1 hP (ci := 6) (q0 := 0) rfl rfl) (hP.sub (ws' := [(xa, .inr (6, [.ref fa, .ref xs, .ref xk, .ref ha, .ref ta, .ref sa, .ref oa, .ref pa, .ref ja]))]) [0] rfl) (hD.sub (ws' := [(xa, .inr (6, [.ref fa, .ref xs, .ref xk, .ref ha, .ref ta, .ref sa, .ref oa, .ref pa, .ref ja]))]) [0] (by decide +kernel) rfl) hXS hS) rfl rfl hl.1 rfl (lv_room (Nat.le_of_ble_eq_true rfl)) dL_keep_4 (by rw [hR]; exact ⟨Nat.le_refl _, Nat.le_refl _⟩)) hown htb hXS hP hD hS [0] rfl rfl rfl (by decide +kernel) (hts _ mw_647) (fun z9 hz9 => nomatch hz9) (by decide +kernel) (by decide) (fun q9 H locs hP hS => ?_)
  refine lv_astore_n (lv' := [(3, .ref q9), (0, .ref xa), (1, .int x0), (2, .ref ou)]) hx hb dL_keep_12 rfl hl (by decide) rfl (fun ls hl => ?_)
  refine lv_iconst (v := (nI 1)) hx hb dL_keep_13 (by decide) ?_
  exact hret () hP hS (rfl) dL_keep_14
set_option maxHeartbeats 8000000 in
set_option maxRecDepth 100000 in
theorem c_L_goBack_x (l : Launch) (hls : l.stackTraces = false) (Γ : kG) (xa : Nat) (xs : Nat) (xk : Nat) (ha : Nat) (ta : Nat) (sa : Nat) (oa : Nat) (pa : Nat) (ja : Nat) (fa : Nat) (x0 : Int32) (ou : Nat) (ov : Nat → Int64) (hx0 : ¬ (nI 0 ≤ x0 ∧ x0 ≤ nI 1)) : WT l yL_goBack (wsw yL_goBack cL_goBack 4 (some .int) [(0, 9, 12, 34), (0, 9, 15, 15)]) (rmX 9 1 6) Γ [.ref xa, .int x0, .ref ou] [(xa, .inr (6, [.ref fa, .ref xs, .ref xk, .ref ha, .ref ta, .ref sa, .ref oa, .ref pa, .ref ja])), (ou, .inl (Γ.2 3, 1, .inr (.inl ov)))] (nI 1) := by
  refine wl_ofx (hh := [(0, 9, 12, 34), (0, 9, 15, 15)]) (cc := cL_goBack) (maxL := 4) (by decide +kernel) (Nat.le_of_ble_eq_true rfl) rfl ?_
  intro p ev R st mi args below meth cd Q A ls C0 hR hret hP hD hS hl
  obtain ⟨hx, hb, hr, hml, hown, hts, hlk, hK, hnm⟩ := C0
  have hown : st.vm.findClass RL = some mi.cls := hown
  obtain ⟨htb, hXS, hXN, hret⟩ := hret
  refine lv_aload_n hx hb dL_goBack_0 rfl (lv_at hl 2 rfl) ?_
  refine lv_iconst (v := (nI 0)) hx hb dL_goBack_1 (by decide) ?_
  refine lv_aload_n hx hb dL_goBack_2 rfl (lv_at hl 0 rfl) ?_
  refine lv_iload_n hx hb dL_goBack_3 rfl (lv_at hl 1 rfl) ?_
  refine xl_call (hh := [(0, 9, 12, 34), (0, 9, 15, 15)]) (own := RL) [] ⟨0, 9, 12, 34⟩ [⟨0, 9, 15, 15⟩] (vx_runV (As := [.int x0]) (rest := [.int (nI 0), .ref ou]) ⟨hx, hb, hml, hown, hts⟩ (c_X6_goBack_x l hls Γ xa xs xk ha ta sa oa pa ja fa x0 (hx0)) (kcwV 1 hts kv_X6_goBack mw_659 (rm_le hR (Nat.le_of_ble_eq_true rfl) (Nat.le_of_ble_eq_true rfl))) (kPx_V hK (va_recv hK.1 hP (ci := 6) (q0 := 0) rfl rfl) (hP.sub (ws' := [(xa, .inr (6, [.ref fa, .ref xs, .ref xk, .ref ha, .ref ta, .ref sa, .ref oa, .ref pa, .ref ja]))]) [0] rfl) (hD.sub (ws' := [(xa, .inr (6, [.ref fa, .ref xs, .ref xk, .ref ha, .ref ta, .ref sa, .ref oa, .ref pa, .ref ja]))]) [0] (by decide +kernel) rfl) hXS hS) rfl rfl hl.1 rfl (lv_room (Nat.le_of_ble_eq_true rfl)) dL_goBack_4 (by rw [hR]; exact ⟨Nat.le_refl _, Nat.le_refl _⟩)) hown htb hXS hP hD hS [0] rfl rfl rfl (by decide +kernel) (hts _ mw_647) (fun z9 hz9 => nomatch hz9) (by decide +kernel) (by decide) (fun q9 H locs hP hS => ?_)
  refine lv_astore_n (lv' := [(3, .ref q9), (0, .ref xa), (1, .int x0), (2, .ref ou)]) hx hb dL_goBack_12 rfl hl (by decide) rfl (fun ls hl => ?_)
  refine lv_iconst (v := (nI 1)) hx hb dL_goBack_13 (by decide) ?_
  exact hret () hP hS (rfl) dL_goBack_14
set_option maxHeartbeats 8000000 in
set_option maxRecDepth 100000 in
theorem c_L_goBack_f (l : Launch) (hls : l.stackTraces = false) (Γ : kG) (xa : Nat) (xs : Nat) (xk : Nat) (ha : Nat) (ta : Nat) (sa : Nat) (oa : Nat) (pa : Nat) (ja : Nat) (fa : Nat) (sf : Nat → Nat) (sg : Nat → Nat) (se : Nat → Nat) (sn : Nat → Nat) (sh : Nat → Nat) (sm9 : Nat → Nat) (sG : Nat → Nat → Nat) (kp : Nat → Nat) (s0 : Nat) (ou : Nat) (ov : Nat → Int64) (hsl : s0 < 2) (hkp : kp s0 = 0) : WT l yL_goBack (wsw yL_goBack cL_goBack 4 (some .int) [(0, 9, 12, 34), (0, 9, 15, 15)]) (rmX 9 1 6) Γ [.ref xa, .int (nI s0), .ref ou] [(xa, .inr (6, [.ref fa, .ref xs, .ref xk, .ref ha, .ref ta, .ref sa, .ref oa, .ref pa, .ref ja])), (xs, .inl (Γ.2 4, 2, .inr (.inr (.inr (.inr (fun i => some (sf i))))))), ((sf 0), .inr (0, [.ref (sg 0), .int (nI (sn 0)), .int (nI (sh 0)), .int (nI (sm9 0))])), ((sg 0), .inr (1, [.ref (se 0)])), ((se 0), .inl (Γ.2 0, 14, .inl (aN (sG 0)))), ((sf 1), .inr (0, [.ref (sg 1), .int (nI (sn 1)), .int (nI (sh 1)), .int (nI (sm9 1))])), ((sg 1), .inr (1, [.ref (se 1)])), ((se 1), .inl (Γ.2 0, 14, .inl (aN (sG 1)))), (xk, .inl (Γ.2 1, 2, .inl (aN kp))), (ou, .inl (Γ.2 3, 1, .inr (.inl ov)))] (nI 2) := by
  refine wl_ofx (hh := [(0, 9, 12, 34), (0, 9, 15, 15)]) (cc := cL_goBack) (maxL := 4) (by decide +kernel) (Nat.le_of_ble_eq_true rfl) rfl ?_
  intro p ev R st mi args below meth cd Q A ls C0 hR hret hP hD hS hl
  obtain ⟨hx, hb, hr, hml, hown, hts, hlk, hK, hnm⟩ := C0
  have hown : st.vm.findClass RL = some mi.cls := hown
  obtain ⟨htb, hXS, hXN, hret⟩ := hret
  refine lv_aload_n hx hb dL_goBack_0 rfl (lv_at hl 2 rfl) ?_
  refine lv_iconst (v := (nI 0)) hx hb dL_goBack_1 (by decide) ?_
  refine lv_aload_n hx hb dL_goBack_2 rfl (lv_at hl 0 rfl) ?_
  refine lv_iload_n hx hb dL_goBack_3 rfl (lv_at hl 1 rfl) ?_
  refine xl_call (hh := [(0, 9, 12, 34), (0, 9, 15, 15)]) (own := RL) [⟨0, 9, 12, 34⟩] ⟨0, 9, 15, 15⟩ [] (vx_runV (As := [.int (nI s0)]) (rest := [.int (nI 0), .ref ou]) ⟨hx, hb, hml, hown, hts⟩ (c_X6_goBack_f l hls Γ xa xs xk ha ta sa oa pa ja fa sf sg se sn sh sm9 sG kp s0 (hsl) (hkp)) (kcwV 1 hts kv_X6_goBack mw_659 (rm_le hR (Nat.le_of_ble_eq_true rfl) (Nat.le_of_ble_eq_true rfl))) (kPx_V hK (va_recv hK.1 hP (ci := 6) (q0 := 0) rfl rfl) (hP.sub (ws' := [(xa, .inr (6, [.ref fa, .ref xs, .ref xk, .ref ha, .ref ta, .ref sa, .ref oa, .ref pa, .ref ja])), (xs, .inl (Γ.2 4, 2, .inr (.inr (.inr (.inr (fun i => some (sf i))))))), ((sf 0), .inr (0, [.ref (sg 0), .int (nI (sn 0)), .int (nI (sh 0)), .int (nI (sm9 0))])), ((sg 0), .inr (1, [.ref (se 0)])), ((se 0), .inl (Γ.2 0, 14, .inl (aN (sG 0)))), ((sf 1), .inr (0, [.ref (sg 1), .int (nI (sn 1)), .int (nI (sh 1)), .int (nI (sm9 1))])), ((sg 1), .inr (1, [.ref (se 1)])), ((se 1), .inl (Γ.2 0, 14, .inl (aN (sG 1)))), (xk, .inl (Γ.2 1, 2, .inl (aN kp)))]) [0, 1, 2, 3, 4, 5, 6, 7, 8] rfl) (hD.sub (ws' := [(xa, .inr (6, [.ref fa, .ref xs, .ref xk, .ref ha, .ref ta, .ref sa, .ref oa, .ref pa, .ref ja])), (xs, .inl (Γ.2 4, 2, .inr (.inr (.inr (.inr (fun i => some (sf i))))))), ((sf 0), .inr (0, [.ref (sg 0), .int (nI (sn 0)), .int (nI (sh 0)), .int (nI (sm9 0))])), ((sg 0), .inr (1, [.ref (se 0)])), ((se 0), .inl (Γ.2 0, 14, .inl (aN (sG 0)))), ((sf 1), .inr (0, [.ref (sg 1), .int (nI (sn 1)), .int (nI (sh 1)), .int (nI (sm9 1))])), ((sg 1), .inr (1, [.ref (se 1)])), ((se 1), .inl (Γ.2 0, 14, .inl (aN (sG 1)))), (xk, .inl (Γ.2 1, 2, .inl (aN kp)))]) [0, 1, 2, 3, 4, 5, 6, 7, 8] (by decide +kernel) rfl) hXS hS) rfl rfl hl.1 rfl (lv_room (Nat.le_of_ble_eq_true rfl)) dL_goBack_4 (by rw [hR]; exact ⟨Nat.le_refl _, Nat.le_refl _⟩)) hown htb hXS hP hD hS [0, 1, 2, 3, 4, 5, 6, 7, 8] rfl rfl rfl (by decide +kernel) (hts _ mw_625) (fun z9 hz9 => by rcases List.mem_singleton.mp hz9 with rfl; exact Or.inr ⟨by decide, _, hts _ mw_647, hXN.2.1⟩) (by decide +kernel) (by decide) (fun q9 H locs hP hS => ?_)
  refine lv_astore_n (lv' := [(3, .ref q9), (0, .ref xa), (1, .int (nI s0)), (2, .ref ou)]) hx hb dL_goBack_15 rfl hl (by decide) rfl (fun ls hl => ?_)
  refine lv_iconst (v := (nI 2)) hx hb dL_goBack_16 (by decide) ?_
  exact hret () hP hS (rfl) dL_goBack_17
set_option maxHeartbeats 8000000 in
set_option maxRecDepth 100000 in
theorem c_L_undo_x (l : Launch) (hls : l.stackTraces = false) (Γ : kG) (xa : Nat) (xs : Nat) (xk : Nat) (ha : Nat) (ta : Nat) (sa : Nat) (oa : Nat) (pa : Nat) (ja : Nat) (fa : Nat) (hro : Nat) (ho0 : Nat) (hs0 : Nat) (ou : Nat) (ov : Nat → Int64) (hz : hs0 = 0) : WT l yL_undo (wsw yL_undo cL_undo 3 (some .int) [(0, 8, 11, 15)]) (rmX 9 1 6) Γ [.ref xa, .ref ou] [(xa, .inr (6, [.ref fa, .ref xs, .ref xk, .ref ha, .ref ta, .ref sa, .ref oa, .ref pa, .ref ja])), (ha, .inr (2, [.ref hro, .int (nI ho0), .int (nI hs0)])), (ou, .inl (Γ.2 3, 1, .inr (.inl ov)))] (nI 1) := by
  refine wl_ofx (hh := [(0, 8, 11, 15)]) (cc := cL_undo) (maxL := 3) (by decide +kernel) (Nat.le_of_ble_eq_true rfl) rfl ?_
  intro p ev R st mi args below meth cd Q A ls C0 hR hret hP hD hS hl
  obtain ⟨hx, hb, hr, hml, hown, hts, hlk, hK, hnm⟩ := C0
  have hown : st.vm.findClass RL = some mi.cls := hown
  obtain ⟨htb, hXS, hXN, hret⟩ := hret
  refine lv_aload_n hx hb dL_undo_0 rfl (lv_at hl 1 rfl) ?_
  refine lv_iconst (v := (nI 0)) hx hb dL_undo_1 (by decide) ?_
  refine lv_aload_n hx hb dL_undo_2 rfl (lv_at hl 0 rfl) ?_
  refine xl_call (hh := [(0, 8, 11, 15)]) (own := RL) [] ⟨0, 8, 11, 15⟩ [] (vx_runV (As := []) (rest := [.int (nI 0), .ref ou]) ⟨hx, hb, hml, hown, hts⟩ (c_X6_undo_x l hls Γ xa xs xk ha ta sa oa pa ja fa hro ho0 hs0 (hz)) (kcwV 0 hts kv_X6_undo mw_663 (rm_le hR (Nat.le_of_ble_eq_true rfl) (Nat.le_of_ble_eq_true rfl))) (kPx_V hK (va_recv hK.1 hP (ci := 6) (q0 := 0) rfl rfl) (hP.sub (ws' := [(xa, .inr (6, [.ref fa, .ref xs, .ref xk, .ref ha, .ref ta, .ref sa, .ref oa, .ref pa, .ref ja])), (ha, .inr (2, [.ref hro, .int (nI ho0), .int (nI hs0)]))]) [0, 1] rfl) (hD.sub (ws' := [(xa, .inr (6, [.ref fa, .ref xs, .ref xk, .ref ha, .ref ta, .ref sa, .ref oa, .ref pa, .ref ja])), (ha, .inr (2, [.ref hro, .int (nI ho0), .int (nI hs0)]))]) [0, 1] (by decide +kernel) rfl) hXS hS) rfl rfl hl.1 rfl (lv_room (Nat.le_of_ble_eq_true rfl)) dL_undo_3 (by rw [hR]; exact ⟨Nat.le_refl _, Nat.le_refl _⟩)) hown htb hXS hP hD hS [0, 1] rfl rfl rfl (by decide +kernel) (hts _ mw_625) (fun z9 hz9 => nomatch hz9) (by decide +kernel) (by decide) (fun q9 H locs hP hS => ?_)
  refine lv_astore_n (lv' := [(2, .ref q9), (0, .ref xa), (1, .ref ou)]) hx hb dL_undo_11 rfl hl (by decide) rfl (fun ls hl => ?_)
  refine lv_iconst (v := (nI 1)) hx hb dL_undo_12 (by decide) ?_
  exact hret () hP hS (rfl) dL_undo_13
set_option maxHeartbeats 8000000 in
set_option maxRecDepth 100000 in
theorem c_L_nodeOf_x (l : Launch) (hls : l.stackTraces = false) (Γ : kG) (xa : Nat) (xs : Nat) (xk : Nat) (ha : Nat) (ta : Nat) (sa : Nat) (oa : Nat) (pa : Nat) (ja : Nat) (fa : Nat) (n0 : Nat) (th0 : Nat) (mv0 : Nat) (a : Nat) (e : Nat) (g : Nat → Nat) (x0 : Int32) (y0 : Int32) (ou : Nat) (ov : Nat → Int64) (hn0 : n0 ≤ 14) (hx0 : isN n0 x0 = false) : WT l yL_nodeOf (wsw yL_nodeOf cL_nodeOf 5 (some .int) [(0, 10, 13, 13), (0, 10, 17, 34)]) (rmX 9 1 6) Γ [.ref xa, .int x0, .int y0, .ref ou] [(xa, .inr (6, [.ref fa, .ref xs, .ref xk, .ref ha, .ref ta, .ref sa, .ref oa, .ref pa, .ref ja])), (fa, .inr (0, [.ref a, .int (nI n0), .int (nI th0), .int (nI mv0)])), (a, .inr (1, [.ref e])), (e, .inl (Γ.2 0, 14, .inl (aN g))), (ou, .inl (Γ.2 3, 1, .inr (.inl ov)))] (nI 1) := by
  refine wl_ofx (hh := [(0, 10, 13, 13), (0, 10, 17, 34)]) (cc := cL_nodeOf) (maxL := 5) (by decide +kernel) (Nat.le_of_ble_eq_true rfl) rfl ?_
  intro p ev R st mi args below meth cd Q A ls C0 hR hret hP hD hS hl
  obtain ⟨hx, hb, hr, hml, hown, hts, hlk, hK, hnm⟩ := C0
  have hown : st.vm.findClass RL = some mi.cls := hown
  obtain ⟨htb, hXS, hXN, hret⟩ := hret
  refine lv_aload_n hx hb dL_nodeOf_0 rfl (lv_at hl 3 rfl) ?_
  refine lv_iconst (v := (nI 0)) hx hb dL_nodeOf_1 (by decide) ?_
  refine lv_aload_n hx hb dL_nodeOf_2 rfl (lv_at hl 0 rfl) ?_
  refine lv_iload_n hx hb dL_nodeOf_3 rfl (lv_at hl 1 rfl) ?_
  refine lv_iload_n hx hb dL_nodeOf_4 rfl (lv_at hl 2 rfl) ?_
  refine xl_call (hh := [(0, 10, 13, 13), (0, 10, 17, 34)]) (own := RL) [] ⟨0, 10, 13, 13⟩ [⟨0, 10, 17, 34⟩] (vx_runV (As := [.int x0, .int y0]) (rest := [.int (nI 0), .ref ou]) ⟨hx, hb, hml, hown, hts⟩ (c_X6_nodeOf_x l hls Γ xa xs xk ha ta sa oa pa ja fa n0 th0 mv0 a e g x0 y0 (hn0) (hx0)) (kcwV 2 hts kv_X6_nodeOf mw_667 (rm_le hR (Nat.le_of_ble_eq_true rfl) (Nat.le_of_ble_eq_true rfl))) (kPx_V hK (va_recv hK.1 hP (ci := 6) (q0 := 0) rfl rfl) (hP.sub (ws' := [(xa, .inr (6, [.ref fa, .ref xs, .ref xk, .ref ha, .ref ta, .ref sa, .ref oa, .ref pa, .ref ja])), (fa, .inr (0, [.ref a, .int (nI n0), .int (nI th0), .int (nI mv0)])), (a, .inr (1, [.ref e])), (e, .inl (Γ.2 0, 14, .inl (aN g)))]) [0, 1, 2, 3] rfl) (hD.sub (ws' := [(xa, .inr (6, [.ref fa, .ref xs, .ref xk, .ref ha, .ref ta, .ref sa, .ref oa, .ref pa, .ref ja])), (fa, .inr (0, [.ref a, .int (nI n0), .int (nI th0), .int (nI mv0)])), (a, .inr (1, [.ref e])), (e, .inl (Γ.2 0, 14, .inl (aN g)))]) [0, 1, 2, 3] (by decide +kernel) rfl) hXS hS) rfl rfl hl.1 rfl (lv_room (Nat.le_of_ble_eq_true rfl)) dL_nodeOf_5 (by rw [hR]; exact ⟨Nat.le_refl _, Nat.le_refl _⟩)) hown htb hXS hP hD hS [0, 1, 2, 3] rfl rfl rfl (by decide +kernel) (hts _ mw_624) (fun z9 hz9 => nomatch hz9) (by decide +kernel) (by decide) (fun q9 H locs hP hS => ?_)
  refine lv_astore (lv' := [(4, .ref q9), (0, .ref xa), (1, .int x0), (2, .int y0), (3, .ref ou)]) hx hb dL_nodeOf_13 hl (by decide) rfl (fun ls hl => ?_)
  refine lv_iconst (v := (nI 1)) hx hb dL_nodeOf_15 (by decide) ?_
  exact hret () hP hS (rfl) dL_nodeOf_16
set_option maxHeartbeats 8000000 in
set_option maxRecDepth 100000 in
theorem c_L_nodeOf_f (l : Launch) (hls : l.stackTraces = false) (Γ : kG) (xa : Nat) (xs : Nat) (xk : Nat) (ha : Nat) (ta : Nat) (sa : Nat) (oa : Nat) (pa : Nat) (ja : Nat) (fa : Nat) (n0 : Nat) (th0 : Nat) (mv0 : Nat) (a : Nat) (e : Nat) (g : Nat → Nat) (v0 : Nat) (y0 : Int32) (ou : Nat) (ov : Nat → Int64) (hn0 : n0 ≤ 14) (hv0 : v0 < n0) (hy0 : ¬ (nI 0 ≤ y0 ∧ y0 ≤ nI 5)) : WT l yL_nodeOf (wsw yL_nodeOf cL_nodeOf 5 (some .int) [(0, 10, 13, 13), (0, 10, 17, 34)]) (rmX 9 1 6) Γ [.ref xa, .int (nI v0), .int y0, .ref ou] [(xa, .inr (6, [.ref fa, .ref xs, .ref xk, .ref ha, .ref ta, .ref sa, .ref oa, .ref pa, .ref ja])), (fa, .inr (0, [.ref a, .int (nI n0), .int (nI th0), .int (nI mv0)])), (a, .inr (1, [.ref e])), (e, .inl (Γ.2 0, 14, .inl (aN g))), (ou, .inl (Γ.2 3, 1, .inr (.inl ov)))] (nI 2) := by
  refine wl_ofx (hh := [(0, 10, 13, 13), (0, 10, 17, 34)]) (cc := cL_nodeOf) (maxL := 5) (by decide +kernel) (Nat.le_of_ble_eq_true rfl) rfl ?_
  intro p ev R st mi args below meth cd Q A ls C0 hR hret hP hD hS hl
  obtain ⟨hx, hb, hr, hml, hown, hts, hlk, hK, hnm⟩ := C0
  have hown : st.vm.findClass RL = some mi.cls := hown
  obtain ⟨htb, hXS, hXN, hret⟩ := hret
  refine lv_aload_n hx hb dL_nodeOf_0 rfl (lv_at hl 3 rfl) ?_
  refine lv_iconst (v := (nI 0)) hx hb dL_nodeOf_1 (by decide) ?_
  refine lv_aload_n hx hb dL_nodeOf_2 rfl (lv_at hl 0 rfl) ?_
  refine lv_iload_n hx hb dL_nodeOf_3 rfl (lv_at hl 1 rfl) ?_
  refine lv_iload_n hx hb dL_nodeOf_4 rfl (lv_at hl 2 rfl) ?_
  refine xl_call (hh := [(0, 10, 13, 13), (0, 10, 17, 34)]) (own := RL) [⟨0, 10, 13, 13⟩] ⟨0, 10, 17, 34⟩ [] (vx_runV (As := [.int (nI v0), .int y0]) (rest := [.int (nI 0), .ref ou]) ⟨hx, hb, hml, hown, hts⟩ (c_X6_nodeOf_f l hls Γ xa xs xk ha ta sa oa pa ja fa n0 th0 mv0 a e g v0 y0 (hn0) (hv0) (hy0)) (kcwV 2 hts kv_X6_nodeOf mw_667 (rm_le hR (Nat.le_of_ble_eq_true rfl) (Nat.le_of_ble_eq_true rfl))) (kPx_V hK (va_recv hK.1 hP (ci := 6) (q0 := 0) rfl rfl) (hP.sub (ws' := [(xa, .inr (6, [.ref fa, .ref xs, .ref xk, .ref ha, .ref ta, .ref sa, .ref oa, .ref pa, .ref ja])), (fa, .inr (0, [.ref a, .int (nI n0), .int (nI th0), .int (nI mv0)])), (a, .inr (1, [.ref e])), (e, .inl (Γ.2 0, 14, .inl (aN g)))]) [0, 1, 2, 3] rfl) (hD.sub (ws' := [(xa, .inr (6, [.ref fa, .ref xs, .ref xk, .ref ha, .ref ta, .ref sa, .ref oa, .ref pa, .ref ja])), (fa, .inr (0, [.ref a, .int (nI n0), .int (nI th0), .int (nI mv0)])), (a, .inr (1, [.ref e])), (e, .inl (Γ.2 0, 14, .inl (aN g)))]) [0, 1, 2, 3] (by decide +kernel) rfl) hXS hS) rfl rfl hl.1 rfl (lv_room (Nat.le_of_ble_eq_true rfl)) dL_nodeOf_5 (by rw [hR]; exact ⟨Nat.le_refl _, Nat.le_refl _⟩)) hown htb hXS hP hD hS [0, 1, 2, 3] rfl rfl rfl (by decide +kernel) (hts _ mw_647) (fun z9 hz9 => by rcases List.mem_singleton.mp hz9 with rfl; exact Or.inr ⟨by decide, _, hts _ mw_624, hXN.2.2⟩) (by decide +kernel) (by decide) (fun q9 H locs hP hS => ?_)
  refine lv_astore (lv' := [(4, .ref q9), (0, .ref xa), (1, .int (nI v0)), (2, .int y0), (3, .ref ou)]) hx hb dL_nodeOf_17 hl (by decide) rfl (fun ls hl => ?_)
  refine lv_iconst (v := (nI 2)) hx hb dL_nodeOf_19 (by decide) ?_
  exact hret () hP hS (rfl) dL_nodeOf_20
set_option maxHeartbeats 8000000 in
set_option maxRecDepth 100000 in
theorem c_L_tree_x (l : Launch) (hls : l.stackTraces = false) (Γ : kG) (xa : Nat) (xs : Nat) (xk : Nat) (ha : Nat) (ta : Nat) (sa : Nat) (oa : Nat) (pa : Nat) (ja : Nat) (fa : Nat) (n0 : Nat) (th0 : Nat) (mv0 : Nat) (a : Nat) (e : Nat) (g : Nat → Nat) (k0 : Nat) (y0 : Int32) (ou : Nat) (ov : Nat → Int64) (hfg : FG g) (hn0 : n0 ≤ 14) (hth : th0 < 2 ^ n0) (hk0 : k0 < 2147483648) (hk1 : trC g th0 ≤ k0) : WT l yL_tree (wsw yL_tree cL_tree 5 (some .int) [(0, 10, 13, 13), (0, 10, 17, 34)]) (rmX 9 1 6) Γ [.ref xa, .int (nI k0), .int y0, .ref ou] [(xa, .inr (6, [.ref fa, .ref xs, .ref xk, .ref ha, .ref ta, .ref sa, .ref oa, .ref pa, .ref ja])), (fa, .inr (0, [.ref a, .int (nI n0), .int (nI th0), .int (nI mv0)])), (a, .inr (1, [.ref e])), (e, .inl (Γ.2 0, 14, .inl (aN g))), (ou, .inl (Γ.2 3, 1, .inr (.inl ov)))] (nI 1) := by
  refine wl_ofx (hh := [(0, 10, 13, 13), (0, 10, 17, 34)]) (cc := cL_tree) (maxL := 5) (by decide +kernel) (Nat.le_of_ble_eq_true rfl) rfl ?_
  intro p ev R st mi args below meth cd Q A ls C0 hR hret hP hD hS hl
  obtain ⟨hx, hb, hr, hml, hown, hts, hlk, hK, hnm⟩ := C0
  have hown : st.vm.findClass RL = some mi.cls := hown
  obtain ⟨htb, hXS, hXN, hret⟩ := hret
  refine lv_aload_n hx hb dL_tree_0 rfl (lv_at hl 3 rfl) ?_
  refine lv_iconst (v := (nI 0)) hx hb dL_tree_1 (by decide) ?_
  refine lv_aload_n hx hb dL_tree_2 rfl (lv_at hl 0 rfl) ?_
  refine lv_iload_n hx hb dL_tree_3 rfl (lv_at hl 1 rfl) ?_
  refine lv_iload_n hx hb dL_tree_4 rfl (lv_at hl 2 rfl) ?_
  refine xl_call (hh := [(0, 10, 13, 13), (0, 10, 17, 34)]) (own := RL) [] ⟨0, 10, 13, 13⟩ [⟨0, 10, 17, 34⟩] (vx_runV (As := [.int (nI k0), .int y0]) (rest := [.int (nI 0), .ref ou]) ⟨hx, hb, hml, hown, hts⟩ (c_X6_tree_x l hls Γ xa xs xk ha ta sa oa pa ja fa n0 th0 mv0 a e g k0 y0 (hfg) (hn0) (hth) (hk0) (hk1)) (kcwV 2 hts kv_X6_tree mw_669 (rm_le hR (Nat.le_of_ble_eq_true rfl) (Nat.le_of_ble_eq_true rfl))) (kPx_V hK (va_recv hK.1 hP (ci := 6) (q0 := 0) rfl rfl) (hP.sub (ws' := [(xa, .inr (6, [.ref fa, .ref xs, .ref xk, .ref ha, .ref ta, .ref sa, .ref oa, .ref pa, .ref ja])), (fa, .inr (0, [.ref a, .int (nI n0), .int (nI th0), .int (nI mv0)])), (a, .inr (1, [.ref e])), (e, .inl (Γ.2 0, 14, .inl (aN g)))]) [0, 1, 2, 3] rfl) (hD.sub (ws' := [(xa, .inr (6, [.ref fa, .ref xs, .ref xk, .ref ha, .ref ta, .ref sa, .ref oa, .ref pa, .ref ja])), (fa, .inr (0, [.ref a, .int (nI n0), .int (nI th0), .int (nI mv0)])), (a, .inr (1, [.ref e])), (e, .inl (Γ.2 0, 14, .inl (aN g)))]) [0, 1, 2, 3] (by decide +kernel) rfl) hXS hS) rfl rfl hl.1 rfl (lv_room (Nat.le_of_ble_eq_true rfl)) dL_tree_5 (by rw [hR]; exact ⟨Nat.le_refl _, Nat.le_refl _⟩)) hown htb hXS hP hD hS [0, 1, 2, 3] rfl rfl rfl (by decide +kernel) (hts _ mw_624) (fun z9 hz9 => nomatch hz9) (by decide +kernel) (by decide) (fun q9 H locs hP hS => ?_)
  refine lv_astore (lv' := [(4, .ref q9), (0, .ref xa), (1, .int (nI k0)), (2, .int y0), (3, .ref ou)]) hx hb dL_tree_13 hl (by decide) rfl (fun ls hl => ?_)
  refine lv_iconst (v := (nI 1)) hx hb dL_tree_15 (by decide) ?_
  exact hret () hP hS (rfl) dL_tree_16
set_option maxHeartbeats 8000000 in
set_option maxRecDepth 100000 in
theorem c_L_tree_n (l : Launch) (hls : l.stackTraces = false) (Γ : kG) (xa : Nat) (xs : Nat) (xk : Nat) (ha : Nat) (ta : Nat) (sa : Nat) (oa : Nat) (pa : Nat) (ja : Nat) (fa : Nat) (n0 : Nat) (th0 : Nat) (mv0 : Nat) (a : Nat) (e : Nat) (g : Nat → Nat) (x0 : Int32) (y0 : Int32) (ou : Nat) (ov : Nat → Int64) (hfg : FG g) (hn0 : n0 ≤ 14) (hth : th0 < 2 ^ n0) (hx0 : x0 < 0) : WT l yL_tree (wsw yL_tree cL_tree 5 (some .int) [(0, 10, 13, 13), (0, 10, 17, 34)]) (rmX 9 1 6) Γ [.ref xa, .int x0, .int y0, .ref ou] [(xa, .inr (6, [.ref fa, .ref xs, .ref xk, .ref ha, .ref ta, .ref sa, .ref oa, .ref pa, .ref ja])), (fa, .inr (0, [.ref a, .int (nI n0), .int (nI th0), .int (nI mv0)])), (a, .inr (1, [.ref e])), (e, .inl (Γ.2 0, 14, .inl (aN g))), (ou, .inl (Γ.2 3, 1, .inr (.inl ov)))] (nI 1) := by
  refine wl_ofx (hh := [(0, 10, 13, 13), (0, 10, 17, 34)]) (cc := cL_tree) (maxL := 5) (by decide +kernel) (Nat.le_of_ble_eq_true rfl) rfl ?_
  intro p ev R st mi args below meth cd Q A ls C0 hR hret hP hD hS hl
  obtain ⟨hx, hb, hr, hml, hown, hts, hlk, hK, hnm⟩ := C0
  have hown : st.vm.findClass RL = some mi.cls := hown
  obtain ⟨htb, hXS, hXN, hret⟩ := hret
  refine lv_aload_n hx hb dL_tree_0 rfl (lv_at hl 3 rfl) ?_
  refine lv_iconst (v := (nI 0)) hx hb dL_tree_1 (by decide) ?_
  refine lv_aload_n hx hb dL_tree_2 rfl (lv_at hl 0 rfl) ?_
  refine lv_iload_n hx hb dL_tree_3 rfl (lv_at hl 1 rfl) ?_
  refine lv_iload_n hx hb dL_tree_4 rfl (lv_at hl 2 rfl) ?_
  refine xl_call (hh := [(0, 10, 13, 13), (0, 10, 17, 34)]) (own := RL) [] ⟨0, 10, 13, 13⟩ [⟨0, 10, 17, 34⟩] (vx_runV (As := [.int x0, .int y0]) (rest := [.int (nI 0), .ref ou]) ⟨hx, hb, hml, hown, hts⟩ (c_X6_tree_n l hls Γ xa xs xk ha ta sa oa pa ja fa n0 th0 mv0 a e g x0 y0 (hfg) (hn0) (hth) (hx0)) (kcwV 2 hts kv_X6_tree mw_669 (rm_le hR (Nat.le_of_ble_eq_true rfl) (Nat.le_of_ble_eq_true rfl))) (kPx_V hK (va_recv hK.1 hP (ci := 6) (q0 := 0) rfl rfl) (hP.sub (ws' := [(xa, .inr (6, [.ref fa, .ref xs, .ref xk, .ref ha, .ref ta, .ref sa, .ref oa, .ref pa, .ref ja])), (fa, .inr (0, [.ref a, .int (nI n0), .int (nI th0), .int (nI mv0)])), (a, .inr (1, [.ref e])), (e, .inl (Γ.2 0, 14, .inl (aN g)))]) [0, 1, 2, 3] rfl) (hD.sub (ws' := [(xa, .inr (6, [.ref fa, .ref xs, .ref xk, .ref ha, .ref ta, .ref sa, .ref oa, .ref pa, .ref ja])), (fa, .inr (0, [.ref a, .int (nI n0), .int (nI th0), .int (nI mv0)])), (a, .inr (1, [.ref e])), (e, .inl (Γ.2 0, 14, .inl (aN g)))]) [0, 1, 2, 3] (by decide +kernel) rfl) hXS hS) rfl rfl hl.1 rfl (lv_room (Nat.le_of_ble_eq_true rfl)) dL_tree_5 (by rw [hR]; exact ⟨Nat.le_refl _, Nat.le_refl _⟩)) hown htb hXS hP hD hS [0, 1, 2, 3] rfl rfl rfl (by decide +kernel) (hts _ mw_624) (fun z9 hz9 => nomatch hz9) (by decide +kernel) (by decide) (fun q9 H locs hP hS => ?_)
  refine lv_astore (lv' := [(4, .ref q9), (0, .ref xa), (1, .int x0), (2, .int y0), (3, .ref ou)]) hx hb dL_tree_13 hl (by decide) rfl (fun ls hl => ?_)
  refine lv_iconst (v := (nI 1)) hx hb dL_tree_15 (by decide) ?_
  exact hret () hP hS (rfl) dL_tree_16
set_option maxHeartbeats 8000000 in
set_option maxRecDepth 100000 in
theorem c_L_tree_f (l : Launch) (hls : l.stackTraces = false) (Γ : kG) (xa : Nat) (xs : Nat) (xk : Nat) (ha : Nat) (ta : Nat) (sa : Nat) (oa : Nat) (pa : Nat) (ja : Nat) (fa : Nat) (n0 : Nat) (th0 : Nat) (mv0 : Nat) (a : Nat) (e : Nat) (g : Nat → Nat) (t0 : Nat) (y0 : Int32) (ou : Nat) (ov : Nat → Int64) (hfg : FG g) (hn0 : n0 ≤ 14) (hth : th0 < 2 ^ n0) (ht0 : t0 < trC g th0) (hy0 : ¬ (nI 0 ≤ y0 ∧ y0 ≤ nI 5)) : WT l yL_tree (wsw yL_tree cL_tree 5 (some .int) [(0, 10, 13, 13), (0, 10, 17, 34)]) (rmX 9 1 6) Γ [.ref xa, .int (nI t0), .int y0, .ref ou] [(xa, .inr (6, [.ref fa, .ref xs, .ref xk, .ref ha, .ref ta, .ref sa, .ref oa, .ref pa, .ref ja])), (fa, .inr (0, [.ref a, .int (nI n0), .int (nI th0), .int (nI mv0)])), (a, .inr (1, [.ref e])), (e, .inl (Γ.2 0, 14, .inl (aN g))), (ou, .inl (Γ.2 3, 1, .inr (.inl ov)))] (nI 2) := by
  refine wl_ofx (hh := [(0, 10, 13, 13), (0, 10, 17, 34)]) (cc := cL_tree) (maxL := 5) (by decide +kernel) (Nat.le_of_ble_eq_true rfl) rfl ?_
  intro p ev R st mi args below meth cd Q A ls C0 hR hret hP hD hS hl
  obtain ⟨hx, hb, hr, hml, hown, hts, hlk, hK, hnm⟩ := C0
  have hown : st.vm.findClass RL = some mi.cls := hown
  obtain ⟨htb, hXS, hXN, hret⟩ := hret
  refine lv_aload_n hx hb dL_tree_0 rfl (lv_at hl 3 rfl) ?_
  refine lv_iconst (v := (nI 0)) hx hb dL_tree_1 (by decide) ?_
  refine lv_aload_n hx hb dL_tree_2 rfl (lv_at hl 0 rfl) ?_
  refine lv_iload_n hx hb dL_tree_3 rfl (lv_at hl 1 rfl) ?_
  refine lv_iload_n hx hb dL_tree_4 rfl (lv_at hl 2 rfl) ?_
  refine xl_call (hh := [(0, 10, 13, 13), (0, 10, 17, 34)]) (own := RL) [⟨0, 10, 13, 13⟩] ⟨0, 10, 17, 34⟩ [] (vx_runV (As := [.int (nI t0), .int y0]) (rest := [.int (nI 0), .ref ou]) ⟨hx, hb, hml, hown, hts⟩ (c_X6_tree_f l hls Γ xa xs xk ha ta sa oa pa ja fa n0 th0 mv0 a e g t0 y0 (hfg) (hn0) (hth) (ht0) (hy0)) (kcwV 2 hts kv_X6_tree mw_669 (rm_le hR (Nat.le_of_ble_eq_true rfl) (Nat.le_of_ble_eq_true rfl))) (kPx_V hK (va_recv hK.1 hP (ci := 6) (q0 := 0) rfl rfl) (hP.sub (ws' := [(xa, .inr (6, [.ref fa, .ref xs, .ref xk, .ref ha, .ref ta, .ref sa, .ref oa, .ref pa, .ref ja])), (fa, .inr (0, [.ref a, .int (nI n0), .int (nI th0), .int (nI mv0)])), (a, .inr (1, [.ref e])), (e, .inl (Γ.2 0, 14, .inl (aN g)))]) [0, 1, 2, 3] rfl) (hD.sub (ws' := [(xa, .inr (6, [.ref fa, .ref xs, .ref xk, .ref ha, .ref ta, .ref sa, .ref oa, .ref pa, .ref ja])), (fa, .inr (0, [.ref a, .int (nI n0), .int (nI th0), .int (nI mv0)])), (a, .inr (1, [.ref e])), (e, .inl (Γ.2 0, 14, .inl (aN g)))]) [0, 1, 2, 3] (by decide +kernel) rfl) hXS hS) rfl rfl hl.1 rfl (lv_room (Nat.le_of_ble_eq_true rfl)) dL_tree_5 (by rw [hR]; exact ⟨Nat.le_refl _, Nat.le_refl _⟩)) hown htb hXS hP hD hS [0, 1, 2, 3] rfl rfl rfl (by decide +kernel) (hts _ mw_647) (fun z9 hz9 => by rcases List.mem_singleton.mp hz9 with rfl; exact Or.inr ⟨by decide, _, hts _ mw_624, hXN.2.2⟩) (by decide +kernel) (by decide) (fun q9 H locs hP hS => ?_)
  refine lv_astore (lv' := [(4, .ref q9), (0, .ref xa), (1, .int (nI t0)), (2, .int y0), (3, .ref ou)]) hx hb dL_tree_17 hl (by decide) rfl (fun ls hl => ?_)
  refine lv_iconst (v := (nI 2)) hx hb dL_tree_19 (by decide) ?_
  exact hret () hP hS (rfl) dL_tree_20
set_option maxHeartbeats 8000000 in
set_option maxRecDepth 100000 in
theorem c_L_count_x (l : Launch) (hls : l.stackTraces = false) (Γ : kG) (xa : Nat) (xs : Nat) (xk : Nat) (ha : Nat) (ta : Nat) (sa : Nat) (oa : Nat) (pa : Nat) (ja : Nat) (fa : Nat) (x0 : Int32) (ou : Nat) (ov : Nat → Int64) (hx0 : ¬ (nI 0 ≤ x0 ∧ x0 ≤ nI 11)) : WT l yL_count (wsw yL_count cL_count 4 (some .int) [(0, 9, 12, 34)]) (rmX 9 1 6) Γ [.ref xa, .int x0, .ref ou] [(xa, .inr (6, [.ref fa, .ref xs, .ref xk, .ref ha, .ref ta, .ref sa, .ref oa, .ref pa, .ref ja])), (ou, .inl (Γ.2 3, 1, .inr (.inl ov)))] (nI 1) := by
  refine wl_ofx (hh := [(0, 9, 12, 34)]) (cc := cL_count) (maxL := 4) (by decide +kernel) (Nat.le_of_ble_eq_true rfl) rfl ?_
  intro p ev R st mi args below meth cd Q A ls C0 hR hret hP hD hS hl
  obtain ⟨hx, hb, hr, hml, hown, hts, hlk, hK, hnm⟩ := C0
  have hown : st.vm.findClass RL = some mi.cls := hown
  obtain ⟨htb, hXS, hXN, hret⟩ := hret
  refine lv_aload_n hx hb dL_count_0 rfl (lv_at hl 2 rfl) ?_
  refine lv_iconst (v := (nI 0)) hx hb dL_count_1 (by decide) ?_
  refine lv_aload_n hx hb dL_count_2 rfl (lv_at hl 0 rfl) ?_
  refine lv_iload_n hx hb dL_count_3 rfl (lv_at hl 1 rfl) ?_
  refine xl_call (hh := [(0, 9, 12, 34)]) (own := RL) [] ⟨0, 9, 12, 34⟩ [] (vx_runV (As := [.int x0]) (rest := [.int (nI 0), .ref ou]) ⟨hx, hb, hml, hown, hts⟩ (c_X6_count_x l hls Γ xa xs xk ha ta sa oa pa ja fa x0 (hx0)) (kcwV 1 hts kv_X6_count mw_671 (rm_le hR (Nat.le_of_ble_eq_true rfl) (Nat.le_of_ble_eq_true rfl))) (kPx_V hK (va_recv hK.1 hP (ci := 6) (q0 := 0) rfl rfl) (hP.sub (ws' := [(xa, .inr (6, [.ref fa, .ref xs, .ref xk, .ref ha, .ref ta, .ref sa, .ref oa, .ref pa, .ref ja]))]) [0] rfl) (hD.sub (ws' := [(xa, .inr (6, [.ref fa, .ref xs, .ref xk, .ref ha, .ref ta, .ref sa, .ref oa, .ref pa, .ref ja]))]) [0] (by decide +kernel) rfl) hXS hS) rfl rfl hl.1 rfl (lv_room (Nat.le_of_ble_eq_true rfl)) dL_count_4 (by rw [hR]; exact ⟨Nat.le_refl _, Nat.le_refl _⟩)) hown htb hXS hP hD hS [0] rfl rfl rfl (by decide +kernel) (hts _ mw_647) (fun z9 hz9 => nomatch hz9) (by decide +kernel) (by decide) (fun q9 H locs hP hS => ?_)
  refine lv_astore_n (lv' := [(3, .ref q9), (0, .ref xa), (1, .int x0), (2, .ref ou)]) hx hb dL_count_12 rfl hl (by decide) rfl (fun ls hl => ?_)
  refine lv_iconst (v := (nI 1)) hx hb dL_count_13 (by decide) ?_
  exact hret () hP hS (rfl) dL_count_14
set_option maxHeartbeats 8000000 in
set_option maxRecDepth 100000 in
theorem c_L_mirror_x (l : Launch) (hls : l.stackTraces = false) (Γ : kG) (xa : Nat) (xs : Nat) (xk : Nat) (ha : Nat) (ta : Nat) (sa : Nat) (oa : Nat) (pa : Nat) (ja : Nat) (fa : Nat) (x0 : Int32) (ou : Nat) (ov : Nat → Int64) (hx0 : x0 < 0) : WT l yL_mirror (wsw yL_mirror cL_mirror 4 (some .int) [(0, 9, 12, 34)]) (rmX 9 1 6) Γ [.ref xa, .int x0, .ref ou] [(xa, .inr (6, [.ref fa, .ref xs, .ref xk, .ref ha, .ref ta, .ref sa, .ref oa, .ref pa, .ref ja])), (ou, .inl (Γ.2 3, 1, .inr (.inl ov)))] (nI 1) := by
  refine wl_ofx (hh := [(0, 9, 12, 34)]) (cc := cL_mirror) (maxL := 4) (by decide +kernel) (Nat.le_of_ble_eq_true rfl) rfl ?_
  intro p ev R st mi args below meth cd Q A ls C0 hR hret hP hD hS hl
  obtain ⟨hx, hb, hr, hml, hown, hts, hlk, hK, hnm⟩ := C0
  have hown : st.vm.findClass RL = some mi.cls := hown
  obtain ⟨htb, hXS, hXN, hret⟩ := hret
  refine lv_aload_n hx hb dL_mirror_0 rfl (lv_at hl 2 rfl) ?_
  refine lv_iconst (v := (nI 0)) hx hb dL_mirror_1 (by decide) ?_
  refine lv_aload_n hx hb dL_mirror_2 rfl (lv_at hl 0 rfl) ?_
  refine lv_iload_n hx hb dL_mirror_3 rfl (lv_at hl 1 rfl) ?_
  refine xl_call (hh := [(0, 9, 12, 34)]) (own := RL) [] ⟨0, 9, 12, 34⟩ [] (vx_runV (As := [.int x0]) (rest := [.int (nI 0), .ref ou]) ⟨hx, hb, hml, hown, hts⟩ (c_X6_mirror_x l hls Γ xa xs xk ha ta sa oa pa ja fa x0 (hx0)) (kcwV 1 hts kv_X6_mirror mw_673 (rm_le hR (Nat.le_of_ble_eq_true rfl) (Nat.le_of_ble_eq_true rfl))) (kPx_V hK (va_recv hK.1 hP (ci := 6) (q0 := 0) rfl rfl) (hP.sub (ws' := [(xa, .inr (6, [.ref fa, .ref xs, .ref xk, .ref ha, .ref ta, .ref sa, .ref oa, .ref pa, .ref ja]))]) [0] rfl) (hD.sub (ws' := [(xa, .inr (6, [.ref fa, .ref xs, .ref xk, .ref ha, .ref ta, .ref sa, .ref oa, .ref pa, .ref ja]))]) [0] (by decide +kernel) rfl) hXS hS) rfl rfl hl.1 rfl (lv_room (Nat.le_of_ble_eq_true rfl)) dL_mirror_4 (by rw [hR]; exact ⟨Nat.le_refl _, Nat.le_refl _⟩)) hown htb hXS hP hD hS [0] rfl rfl rfl (by decide +kernel) (hts _ mw_647) (fun z9 hz9 => nomatch hz9) (by decide +kernel) (by decide) (fun q9 H locs hP hS => ?_)
  refine lv_astore_n (lv' := [(3, .ref q9), (0, .ref xa), (1, .int x0), (2, .ref ou)]) hx hb dL_mirror_12 rfl hl (by decide) rfl (fun ls hl => ?_)
  refine lv_iconst (v := (nI 1)) hx hb dL_mirror_13 (by decide) ?_
  exact hret () hP hS (rfl) dL_mirror_14
set_option maxHeartbeats 8000000 in
set_option maxRecDepth 100000 in
theorem c_L_value_x (l : Launch) (hls : l.stackTraces = false) (Γ : kG) (xa : Nat) (xs : Nat) (xk : Nat) (ha : Nat) (ta : Nat) (sa : Nat) (oa : Nat) (pa : Nat) (ja : Nat) (fa : Nat) (n0 : Nat) (th0 : Nat) (mv0 : Nat) (a : Nat) (e : Nat) (g : Nat → Nat) (x0 : Int32) (ou : Nat) (ov : Nat → Int64) (hx0 : x0 &&& (nI th0 ^^^ (-1)) ≠ 0) : WT l yL_value (wsw yL_value cL_value 4 (some .int) [(0, 9, 12, 34)]) (rmX 9 1 6) Γ [.ref xa, .int x0, .ref ou] [(xa, .inr (6, [.ref fa, .ref xs, .ref xk, .ref ha, .ref ta, .ref sa, .ref oa, .ref pa, .ref ja])), (fa, .inr (0, [.ref a, .int (nI n0), .int (nI th0), .int (nI mv0)])), (a, .inr (1, [.ref e])), (e, .inl (Γ.2 0, 14, .inl (aN g))), (ou, .inl (Γ.2 3, 1, .inr (.inl ov)))] (nI 1) := by
  refine wl_ofx (hh := [(0, 9, 12, 34)]) (cc := cL_value) (maxL := 4) (by decide +kernel) (Nat.le_of_ble_eq_true rfl) rfl ?_
  intro p ev R st mi args below meth cd Q A ls C0 hR hret hP hD hS hl
  obtain ⟨hx, hb, hr, hml, hown, hts, hlk, hK, hnm⟩ := C0
  have hown : st.vm.findClass RL = some mi.cls := hown
  obtain ⟨htb, hXS, hXN, hret⟩ := hret
  refine lv_aload_n hx hb dL_value_0 rfl (lv_at hl 2 rfl) ?_
  refine lv_iconst (v := (nI 0)) hx hb dL_value_1 (by decide) ?_
  refine lv_aload_n hx hb dL_value_2 rfl (lv_at hl 0 rfl) ?_
  refine lv_iload_n hx hb dL_value_3 rfl (lv_at hl 1 rfl) ?_
  refine xl_call (hh := [(0, 9, 12, 34)]) (own := RL) [] ⟨0, 9, 12, 34⟩ [] (vx_runV (As := [.int x0]) (rest := [.int (nI 0), .ref ou]) ⟨hx, hb, hml, hown, hts⟩ (c_X6_value_x l hls Γ xa xs xk ha ta sa oa pa ja fa n0 th0 mv0 a e g x0 (hx0)) (kcwV 1 hts kv_X6_value mw_677 (rm_le hR (Nat.le_of_ble_eq_true rfl) (Nat.le_of_ble_eq_true rfl))) (kPx_V hK (va_recv hK.1 hP (ci := 6) (q0 := 0) rfl rfl) (hP.sub (ws' := [(xa, .inr (6, [.ref fa, .ref xs, .ref xk, .ref ha, .ref ta, .ref sa, .ref oa, .ref pa, .ref ja])), (fa, .inr (0, [.ref a, .int (nI n0), .int (nI th0), .int (nI mv0)])), (a, .inr (1, [.ref e])), (e, .inl (Γ.2 0, 14, .inl (aN g)))]) [0, 1, 2, 3] rfl) (hD.sub (ws' := [(xa, .inr (6, [.ref fa, .ref xs, .ref xk, .ref ha, .ref ta, .ref sa, .ref oa, .ref pa, .ref ja])), (fa, .inr (0, [.ref a, .int (nI n0), .int (nI th0), .int (nI mv0)])), (a, .inr (1, [.ref e])), (e, .inl (Γ.2 0, 14, .inl (aN g)))]) [0, 1, 2, 3] (by decide +kernel) rfl) hXS hS) rfl rfl hl.1 rfl (lv_room (Nat.le_of_ble_eq_true rfl)) dL_value_4 (by rw [hR]; exact ⟨Nat.le_refl _, Nat.le_refl _⟩)) hown htb hXS hP hD hS [0, 1, 2, 3] rfl rfl rfl (by decide +kernel) (hts _ mw_647) (fun z9 hz9 => nomatch hz9) (by decide +kernel) (by decide) (fun q9 H locs hP hS => ?_)
  refine lv_astore_n (lv' := [(3, .ref q9), (0, .ref xa), (1, .int x0), (2, .ref ou)]) hx hb dL_value_12 rfl hl (by decide) rfl (fun ls hl => ?_)
  refine lv_iconst (v := (nI 1)) hx hb dL_value_13 (by decide) ?_
  exact hret () hP hS (rfl) dL_value_14
