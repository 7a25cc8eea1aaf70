/-- what an act answers and leaves -/
def ACT (n th mv : Nat) (g : Nat → Nat) (k kd zz : Nat) (r : Int32) (w : tST) : Prop :=
  (((r = -2000001 ∨ r = -2000002) ∧ OKW n th mv g k w) ∧ kd ≠ 11 ∧ ((kd = 4 ∨ kd = 5) → ¬ (zz % 10 < n ∧ zz / 16 % 10 < n ∧ cjB g th n (zz % 10) (zz / 16 % 10) = true)))
  ∨ ((kd < 4 ∨ 12 < kd) ∧ r = nI n ∧ n < 14 ∧ ∃ g2, OKW (n + 1) (th ||| 2 ^ n) mv g2 (svS k + 1) w)
  ∨ ((kd = 4 ∨ kd = 5) ∧ (zz % 10 < n ∧ zz / 16 % 10 < n ∧ cjB g th n (zz % 10) (zz / 16 % 10) = true) ∧ r = nI (trC (lk2 g (zz % 10) (zz / 16 % 10) true) th) ∧ OKW n th mv (lk2 g (zz % 10) (zz / 16 % 10) true) (svS k + 1) w)
  ∨ (kd = 6 ∧ ∃ i j, i < n ∧ j < n ∧ edB g th i j = true ∧ r = bI (mrB g th 14 i j) ∧ ∃ g2, OKW n th mv g2 (svS k + 1) w)
  ∨ ((6 < kd ∧ kd < 10) ∧ ∃ v, v < n ∧ th.testBit v = true ∧ r = nI (pc th - pc (lft g th v)) ∧ OKW n (lft g th v) (mv + 1) g (svS k + 1) w)
  ∨ (kd = 10 ∧ th ≠ 0 ∧ r = nI (rpN g th n) ∧ OKW n (lft g th (rpN g th n)) (mv + 1) g (svS k + 1) w)
  ∨ (kd = 11 ∧ r = nI (n - pc th) ∧ OKW n (2 ^ n - 1) 0 g (svS k + 1) w)
  ∨ (kd = 12 ∧ zz % 2 = 0 ∧ ∃ n2 th2 mv2 g2, r = nI (pc th2) ∧ OKW n2 th2 mv2 g2 (svS k + 1) w)
  ∨ (kd = 12 ∧ zz % 2 = 1 ∧ r = nI (pc th) ∧ OKW n th mv g k w)
theorem isN_no {n i : Nat} (hn : n ≤ 14) (hi : n ≤ i) (h : i < 2147483648) : isN n (nI i) = false := by
  cases e : isN n (nI i)
  · rfl
  · obtain ⟨k, h1, h2⟩ := (isN_iff hn).mp e
    have := (nI_eq h (by omega)).mp h2
    omega
theorem nd_cases (n th v : Nat) (hn : n ≤ 14) : (n < 14 ∧ v < n ∧ th.testBit v = true) ∨ (n < 14 ∧ v < n ∧ th.testBit v = false) ∨ (n = 14 ∧ v < n) ∨ n ≤ v := by
  cases e : th.testBit v <;> simp <;> omega
theorem jn_cases (q : Bool) (n i j : Nat) : (i < n ∧ j < n ∧ q = true) ∨ (i < n ∧ j < n ∧ q = false) ∨ (i < n ∧ n ≤ j) ∨ n ≤ i := by
  cases q <;> simp <;> omega
theorem tk_cases (n th v : Nat) : (v < n ∧ th.testBit v = true) ∨ (v < n ∧ th.testBit v = false) ∨ n ≤ v := by
  cases e : th.testBit v <;> simp <;> omega

set_option maxHeartbeats 16000000 in
set_option maxRecDepth 100000 in
theorem c_L_acts (l : Launch) (hls : l.stackTraces = false) (Γ : kG) (z : tAD) (w : tST) {n th mv : Nat} {g : Nat → Nat} {k : Nat} (h : OKW n th mv g k w) (y : Nat) (hy : y < 2147483648) : WY l yL_acts (wsq yL_acts cL_acts 3 (some .int)) (rmX 41 1 6) Γ z [.ref (z.1 0), .int (nI y)] w 1 6 (fun r w' => ACT n th mv g k (y % 16) (y / 16) r w') := by
  refine wy_of (cc := cL_acts) (maxL := 3) (by decide +kernel) (Nat.le_of_ble_eq_true rfl) rfl (Or.inl rfl) ?_
  intro p ev R st mi args below meth cd Q A ls C0 hR hret hP hD hS hl
  obtain ⟨hx, hb, hr, hml, hown, hts, hlk, hK, hnm⟩ := C0
  have hown : st.vm.findClass RL = some mi.cls := hown
  obtain ⟨hXS, hXN, hret⟩ := hret
  have hC := h.2.2.1
  have hn0 := hC.2.1
  refine lv_iload_n hx hb dL_acts_0 rfl (lv_at hl 1 rfl) ?_
  refine lv_bipush (v := (nI 16)) hx hb dL_acts_1 (by decide) ?_
  refine lv_idiv hx hb dL_acts_3 (nI_ne0 (by omega) (by omega)) ?_
  refine tp_i (y := (nI (y / 16))) (pk_div (by omega) (by omega) (by omega)) ?_
  refine lv_istore_n (lv' := [(2, .int (nI (y / 16))), (0, .ref (z.1 0)), (1, .int (nI y))]) hx hb dL_acts_4 rfl hl (by decide) rfl (fun ls hl => ?_)
  refine lv_iload_n hx hb dL_acts_5 rfl (lv_at hl 2 rfl) ?_
  refine lv_bipush (v := (nI 16)) hx hb dL_acts_6 (by decide) ?_
  refine lv_irem hx hb dL_acts_8 (nI_ne0 (by omega) (by omega)) ?_
  refine tp_i (y := (nI (y % 16))) (pk_rem (by omega) (by omega) (by omega)) ?_
  rcases (show y % 16 = 0 ∨ y % 16 = 1 ∨ y % 16 = 2 ∨ y % 16 = 3 ∨ y % 16 = 4 ∨ y % 16 = 5 ∨ y % 16 = 6 ∨ y % 16 = 7 ∨ y % 16 = 8 ∨ y % 16 = 9 ∨ y % 16 = 10 ∨ y % 16 = 11 ∨ y % 16 = 12 ∨ y % 16 = 13 ∨ y % 16 = 14 ∨ y % 16 = 15 by omega) with hk9 | hk9 | hk9 | hk9 | hk9 | hk9 | hk9 | hk9 | hk9 | hk9 | hk9 | hk9 | hk9 | hk9 | hk9 | hk9
  · skip
    refine tp_i (y := nI 0) (congrArg nI hk9) ?_
    refine lv_tableIn (off := 67) (tgt := 76) hx hb dL_acts_9 (by decide) (by decide) (by decide) (by decide) ?_
    refine lv_aload_n hx hb dL_acts_76 rfl (lv_at hl 1 rfl) ?_
    refine lv_iload_n hx hb dL_acts_77 rfl (lv_at hl 0 rfl) ?_
    refine lv_bipush (v := (nI 12)) hx hb dL_acts_78 (by decide) ?_
    refine lv_irem hx hb dL_acts_80 (nI_ne0 (by omega) (by omega)) ?_
    refine tp_i (y := (nI ((y / 16) % 12))) (pk_rem (by omega) (by omega) (by omega)) ?_
    refine lv_iconst (v := (nI 1)) hx hb dL_acts_81 (by decide) ?_
    by_cases hz9 : y / 16 % 12 = 0
    · skip
      refine lv_isub hx hb dL_acts_82 ?_
      refine tp_i (y := (-1)) (by rw [hz9]; decide) ?_
      by_cases hn9 : n < 14
      · skip
        refine wy_fin (vx_runSW (As := [.ref (z.1 0), .int (-1)]) (rest := []) ⟨hx, hb, hml, hown, hts⟩ (d_L_node_e l Γ z w h hn9) (kcwSW 2 hts kw_L_node mw_436 (rm_le hR (Nat.le_of_ble_eq_true rfl) (Nat.le_of_ble_eq_true rfl))) (kPy_S hK hP hD hXS hXN hS) rfl rfl hl.1 rfl (lv_room (Nat.le_of_ble_eq_true rfl)) dL_acts_83 (by subst hR; exact ⟨Nat.le_of_ble_eq_true rfl, Nat.le_of_ble_eq_true rfl⟩)) hP hD hS (fun r w H locs hw hP hD hS => ?_)
        obtain ⟨rfl, h⟩ := hw
        refine tp_i (y := (nI n)) (rfl) ?_
        refine W.widen (k := 1) (n := 6) (Nat.le_of_ble_eq_true rfl) (Nat.le_of_ble_eq_true rfl) ?_
        exact hret w hP hS (Or.inr (Or.inl ⟨by omega, rfl, hn9, _, h⟩)) (fun q9 => by cases q9) dL_acts_86
      · skip
        refine wy_fin (vx_runSW (As := [.ref (z.1 0), .int (-1)]) (rest := []) ⟨hx, hb, hml, hown, hts⟩ (d_L_node_f l hls Γ z w h (by omega)) (kcwSW 2 hts kw_L_node mw_436 (rm_le hR (Nat.le_of_ble_eq_true rfl) (Nat.le_of_ble_eq_true rfl))) (kPy_S hK hP hD hXS hXN hS) rfl rfl hl.1 rfl (lv_room (Nat.le_of_ble_eq_true rfl)) dL_acts_83 (by subst hR; exact ⟨Nat.le_of_ble_eq_true rfl, Nat.le_of_ble_eq_true rfl⟩)) hP hD hS (fun r w H locs hw hP hD hS => ?_)
        obtain ⟨rfl, e9⟩ := hw
        rw [← e9] at h
        refine tp_i (y := (-2000002)) (rfl) ?_
        exact hret w hP hS (Or.inl ⟨⟨Or.inr rfl, h⟩, by omega, fun q9 => absurd q9 (by omega)⟩) (fun q9 => by cases q9) dL_acts_86
    · skip
      refine lv_isub hx hb dL_acts_82 ?_
      refine tp_i (y := (nI (y / 16 % 12 - 1))) (ni_sub (by omega)) ?_
      rcases nd_cases n th (y / 16 % 12 - 1) hn0 with ⟨hn9, hv9, hb9⟩ | ⟨hn9, hv9, hb9⟩ | ⟨hn9, hv9⟩ | hv9
      · skip
        refine wy_fin (vx_runSW (As := [.ref (z.1 0), .int (nI (y / 16 % 12 - 1))]) (rest := []) ⟨hx, hb, hml, hown, hts⟩ (d_L_node_a l Γ z w h (y / 16 % 12 - 1) hn9 hv9 hb9) (kcwSW 2 hts kw_L_node mw_436 (rm_le hR (Nat.le_of_ble_eq_true rfl) (Nat.le_of_ble_eq_true rfl))) (kPy_S hK hP hD hXS hXN hS) rfl rfl hl.1 rfl (lv_room (Nat.le_of_ble_eq_true rfl)) dL_acts_83 (by subst hR; exact ⟨Nat.le_of_ble_eq_true rfl, Nat.le_of_ble_eq_true rfl⟩)) hP hD hS (fun r w H locs hw hP hD hS => ?_)
        obtain ⟨rfl, h⟩ := hw
        refine tp_i (y := (nI n)) (rfl) ?_
        refine W.widen (k := 1) (n := 6) (Nat.le_of_ble_eq_true rfl) (Nat.le_of_ble_eq_true rfl) ?_
        exact hret w hP hS (Or.inr (Or.inl ⟨by omega, rfl, hn9, _, h⟩)) (fun q9 => by cases q9) dL_acts_86
      · skip
        refine wy_fin (vx_runSW (As := [.ref (z.1 0), .int (nI (y / 16 % 12 - 1))]) (rest := []) ⟨hx, hb, hml, hown, hts⟩ (d_L_node_t l hls Γ z w h (y / 16 % 12 - 1) hn9 hv9 hb9) (kcwSW 2 hts kw_L_node mw_436 (rm_le hR (Nat.le_of_ble_eq_true rfl) (Nat.le_of_ble_eq_true rfl))) (kPy_S hK hP hD hXS hXN hS) rfl rfl hl.1 rfl (lv_room (Nat.le_of_ble_eq_true rfl)) dL_acts_83 (by subst hR; exact ⟨Nat.le_of_ble_eq_true rfl, Nat.le_of_ble_eq_true rfl⟩)) hP hD hS (fun r w H locs hw hP hD hS => ?_)
        obtain ⟨rfl, e9⟩ := hw
        rw [← e9] at h
        refine tp_i (y := (-2000002)) (rfl) ?_
        exact hret w hP hS (Or.inl ⟨⟨Or.inr rfl, h⟩, by omega, fun q9 => absurd q9 (by omega)⟩) (fun q9 => by cases q9) dL_acts_86
      · skip
        refine wy_fin (vx_runSW (As := [.ref (z.1 0), .int (nI (y / 16 % 12 - 1))]) (rest := []) ⟨hx, hb, hml, hown, hts⟩ (d_L_node_g l hls Γ z w h (y / 16 % 12 - 1) hn9 hv9) (kcwSW 2 hts kw_L_node mw_436 (rm_le hR (Nat.le_of_ble_eq_true rfl) (Nat.le_of_ble_eq_true rfl))) (kPy_S hK hP hD hXS hXN hS) rfl rfl hl.1 rfl (lv_room (Nat.le_of_ble_eq_true rfl)) dL_acts_83 (by subst hR; exact ⟨Nat.le_of_ble_eq_true rfl, Nat.le_of_ble_eq_true rfl⟩)) hP hD hS (fun r w H locs hw hP hD hS => ?_)
        obtain ⟨rfl, e9⟩ := hw
        rw [← e9] at h
        refine tp_i (y := (-2000002)) (rfl) ?_
        exact hret w hP hS (Or.inl ⟨⟨Or.inr rfl, h⟩, by omega, fun q9 => absurd q9 (by omega)⟩) (fun q9 => by cases q9) dL_acts_86
      · skip
        refine wy_fin (vx_runSW (As := [.ref (z.1 0), .int (nI (y / 16 % 12 - 1))]) (rest := []) ⟨hx, hb, hml, hown, hts⟩ (d_L_node_x l hls Γ z w h (nI (y / 16 % 12 - 1)) (nI_m1 (by omega)) (isN_no hn0 hv9 (by omega))) (kcwSW 2 hts kw_L_node mw_436 (rm_le hR (Nat.le_of_ble_eq_true rfl) (Nat.le_of_ble_eq_true rfl))) (kPy_S hK hP hD hXS hXN hS) rfl rfl hl.1 rfl (lv_room (Nat.le_of_ble_eq_true rfl)) dL_acts_83 (by subst hR; exact ⟨Nat.le_of_ble_eq_true rfl, Nat.le_of_ble_eq_true rfl⟩)) hP hD hS (fun r w H locs hw hP hD hS => ?_)
        obtain ⟨rfl, e9⟩ := hw
        rw [← e9] at h
        refine tp_i (y := (-2000001)) (rfl) ?_
        exact hret w hP hS (Or.inl ⟨⟨Or.inl rfl, h⟩, by omega, fun q9 => absurd q9 (by omega)⟩) (fun q9 => by cases q9) dL_acts_86
  · skip
    refine tp_i (y := nI 1) (congrArg nI hk9) ?_
    refine lv_tableIn (off := 67) (tgt := 76) hx hb dL_acts_9 (by decide) (by decide) (by decide) (by decide) ?_
    refine lv_aload_n hx hb dL_acts_76 rfl (lv_at hl 1 rfl) ?_
    refine lv_iload_n hx hb dL_acts_77 rfl (lv_at hl 0 rfl) ?_
    refine lv_bipush (v := (nI 12)) hx hb dL_acts_78 (by decide) ?_
    refine lv_irem hx hb dL_acts_80 (nI_ne0 (by omega) (by omega)) ?_
    refine tp_i (y := (nI ((y / 16) % 12))) (pk_rem (by omega) (by omega) (by omega)) ?_
    refine lv_iconst (v := (nI 1)) hx hb dL_acts_81 (by decide) ?_
    by_cases hz9 : y / 16 % 12 = 0
    · skip
      refine lv_isub hx hb dL_acts_82 ?_
      refine tp_i (y := (-1)) (by rw [hz9]; decide) ?_
      by_cases hn9 : n < 14
      · skip
        refine wy_fin (vx_runSW (As := [.ref (z.1 0), .int (-1)]) (rest := []) ⟨hx, hb, hml, hown, hts⟩ (d_L_node_e l Γ z w h hn9) (kcwSW 2 hts kw_L_node mw_436 (rm_le hR (Nat.le_of_ble_eq_true rfl) (Nat.le_of_ble_eq_true rfl))) (kPy_S hK hP hD hXS hXN hS) rfl rfl hl.1 rfl (lv_room (Nat.le_of_ble_eq_true rfl)) dL_acts_83 (by subst hR; exact ⟨Nat.le_of_ble_eq_true rfl, Nat.le_of_ble_eq_true rfl⟩)) hP hD hS (fun r w H locs hw hP hD hS => ?_)
        obtain ⟨rfl, h⟩ := hw
        refine tp_i (y := (nI n)) (rfl) ?_
        refine W.widen (k := 1) (n := 6) (Nat.le_of_ble_eq_true rfl) (Nat.le_of_ble_eq_true rfl) ?_
        exact hret w hP hS (Or.inr (Or.inl ⟨by omega, rfl, hn9, _, h⟩)) (fun q9 => by cases q9) dL_acts_86
      · skip
        refine wy_fin (vx_runSW (As := [.ref (z.1 0), .int (-1)]) (rest := []) ⟨hx, hb, hml, hown, hts⟩ (d_L_node_f l hls Γ z w h (by omega)) (kcwSW 2 hts kw_L_node mw_436 (rm_le hR (Nat.le_of_ble_eq_true rfl) (Nat.le_of_ble_eq_true rfl))) (kPy_S hK hP hD hXS hXN hS) rfl rfl hl.1 rfl (lv_room (Nat.le_of_ble_eq_true rfl)) dL_acts_83 (by subst hR; exact ⟨Nat.le_of_ble_eq_true rfl, Nat.le_of_ble_eq_true rfl⟩)) hP hD hS (fun r w H locs hw hP hD hS => ?_)
        obtain ⟨rfl, e9⟩ := hw
        rw [← e9] at h
        refine tp_i (y := (-2000002)) (rfl) ?_
        exact hret w hP hS (Or.inl ⟨⟨Or.inr rfl, h⟩, by omega, fun q9 => absurd q9 (by omega)⟩) (fun q9 => by cases q9) dL_acts_86
    · skip
      refine lv_isub hx hb dL_acts_82 ?_
      refine tp_i (y := (nI (y / 16 % 12 - 1))) (ni_sub (by omega)) ?_
      rcases nd_cases n th (y / 16 % 12 - 1) hn0 with ⟨hn9, hv9, hb9⟩ | ⟨hn9, hv9, hb9⟩ | ⟨hn9, hv9⟩ | hv9
      · skip
        refine wy_fin (vx_runSW (As := [.ref (z.1 0), .int (nI (y / 16 % 12 - 1))]) (rest := []) ⟨hx, hb, hml, hown, hts⟩ (d_L_node_a l Γ z w h (y / 16 % 12 - 1) hn9 hv9 hb9) (kcwSW 2 hts kw_L_node mw_436 (rm_le hR (Nat.le_of_ble_eq_true rfl) (Nat.le_of_ble_eq_true rfl))) (kPy_S hK hP hD hXS hXN hS) rfl rfl hl.1 rfl (lv_room (Nat.le_of_ble_eq_true rfl)) dL_acts_83 (by subst hR; exact ⟨Nat.le_of_ble_eq_true rfl, Nat.le_of_ble_eq_true rfl⟩)) hP hD hS (fun r w H locs hw hP hD hS => ?_)
        obtain ⟨rfl, h⟩ := hw
        refine tp_i (y := (nI n)) (rfl) ?_
        refine W.widen (k := 1) (n := 6) (Nat.le_of_ble_eq_true rfl) (Nat.le_of_ble_eq_true rfl) ?_
        exact hret w hP hS (Or.inr (Or.inl ⟨by omega, rfl, hn9, _, h⟩)) (fun q9 => by cases q9) dL_acts_86
      · skip
        refine wy_fin (vx_runSW (As := [.ref (z.1 0), .int (nI (y / 16 % 12 - 1))]) (rest := []) ⟨hx, hb, hml, hown, hts⟩ (d_L_node_t l hls Γ z w h (y / 16 % 12 - 1) hn9 hv9 hb9) (kcwSW 2 hts kw_L_node mw_436 (rm_le hR (Nat.le_of_ble_eq_true rfl) (Nat.le_of_ble_eq_true rfl))) (kPy_S hK hP hD hXS hXN hS) rfl rfl hl.1 rfl (lv_room (Nat.le_of_ble_eq_true rfl)) dL_acts_83 (by subst hR; exact ⟨Nat.le_of_ble_eq_true rfl, Nat.le_of_ble_eq_true rfl⟩)) hP hD hS (fun r w H locs hw hP hD hS => ?_)
        obtain ⟨rfl, e9⟩ := hw
        rw [← e9] at h
        refine tp_i (y := (-2000002)) (rfl) ?_
        exact hret w hP hS (Or.inl ⟨⟨Or.inr rfl, h⟩, by omega, fun q9 => absurd q9 (by omega)⟩) (fun q9 => by cases q9) dL_acts_86
      · skip
        refine wy_fin (vx_runSW (As := [.ref (z.1 0), .int (nI (y / 16 % 12 - 1))]) (rest := []) ⟨hx, hb, hml, hown, hts⟩ (d_L_node_g l hls Γ z w h (y / 16 % 12 - 1) hn9 hv9) (kcwSW 2 hts kw_L_node mw_436 (rm_le hR (Nat.le_of_ble_eq_true rfl) (Nat.le_of_ble_eq_true rfl))) (kPy_S hK hP hD hXS hXN hS) rfl rfl hl.1 rfl (lv_room (Nat.le_of_ble_eq_true rfl)) dL_acts_83 (by subst hR; exact ⟨Nat.le_of_ble_eq_true rfl, Nat.le_of_ble_eq_true rfl⟩)) hP hD hS (fun r w H locs hw hP hD hS => ?_)
        obtain ⟨rfl, e9⟩ := hw
        rw [← e9] at h
        refine tp_i (y := (-2000002)) (rfl) ?_
        exact hret w hP hS (Or.inl ⟨⟨Or.inr rfl, h⟩, by omega, fun q9 => absurd q9 (by omega)⟩) (fun q9 => by cases q9) dL_acts_86
      · skip
        refine wy_fin (vx_runSW (As := [.ref (z.1 0), .int (nI (y / 16 % 12 - 1))]) (rest := []) ⟨hx, hb, hml, hown, hts⟩ (d_L_node_x l hls Γ z w h (nI (y / 16 % 12 - 1)) (nI_m1 (by omega)) (isN_no hn0 hv9 (by omega))) (kcwSW 2 hts kw_L_node mw_436 (rm_le hR (Nat.le_of_ble_eq_true rfl) (Nat.le_of_ble_eq_true rfl))) (kPy_S hK hP hD hXS hXN hS) rfl rfl hl.1 rfl (lv_room (Nat.le_of_ble_eq_true rfl)) dL_acts_83 (by subst hR; exact ⟨Nat.le_of_ble_eq_true rfl, Nat.le_of_ble_eq_true rfl⟩)) hP hD hS (fun r w H locs hw hP hD hS => ?_)
        obtain ⟨rfl, e9⟩ := hw
        rw [← e9] at h
        refine tp_i (y := (-2000001)) (rfl) ?_
        exact hret w hP hS (Or.inl ⟨⟨Or.inl rfl, h⟩, by omega, fun q9 => absurd q9 (by omega)⟩) (fun q9 => by cases q9) dL_acts_86
  · skip
    refine tp_i (y := nI 2) (congrArg nI hk9) ?_
    refine lv_tableIn (off := 67) (tgt := 76) hx hb dL_acts_9 (by decide) (by decide) (by decide) (by decide) ?_
    refine lv_aload_n hx hb dL_acts_76 rfl (lv_at hl 1 rfl) ?_
    refine lv_iload_n hx hb dL_acts_77 rfl (lv_at hl 0 rfl) ?_
    refine lv_bipush (v := (nI 12)) hx hb dL_acts_78 (by decide) ?_
    refine lv_irem hx hb dL_acts_80 (nI_ne0 (by omega) (by omega)) ?_
    refine tp_i (y := (nI ((y / 16) % 12))) (pk_rem (by omega) (by omega) (by omega)) ?_
    refine lv_iconst (v := (nI 1)) hx hb dL_acts_81 (by decide) ?_
    by_cases hz9 : y / 16 % 12 = 0
    · skip
      refine lv_isub hx hb dL_acts_82 ?_
      refine tp_i (y := (-1)) (by rw [hz9]; decide) ?_
      by_cases hn9 : n < 14
      · skip
        refine wy_fin (vx_runSW (As := [.ref (z.1 0), .int (-1)]) (rest := []) ⟨hx, hb, hml, hown, hts⟩ (d_L_node_e l Γ z w h hn9) (kcwSW 2 hts kw_L_node mw_436 (rm_le hR (Nat.le_of_ble_eq_true rfl) (Nat.le_of_ble_eq_true rfl))) (kPy_S hK hP hD hXS hXN hS) rfl rfl hl.1 rfl (lv_room (Nat.le_of_ble_eq_true rfl)) dL_acts_83 (by subst hR; exact ⟨Nat.le_of_ble_eq_true rfl, Nat.le_of_ble_eq_true rfl⟩)) hP hD hS (fun r w H locs hw hP hD hS => ?_)
        obtain ⟨rfl, h⟩ := hw
        refine tp_i (y := (nI n)) (rfl) ?_
        refine W.widen (k := 1) (n := 6) (Nat.le_of_ble_eq_true rfl) (Nat.le_of_ble_eq_true rfl) ?_
        exact hret w hP hS (Or.inr (Or.inl ⟨by omega, rfl, hn9, _, h⟩)) (fun q9 => by cases q9) dL_acts_86
      · skip
        refine wy_fin (vx_runSW (As := [.ref (z.1 0), .int (-1)]) (rest := []) ⟨hx, hb, hml, hown, hts⟩ (d_L_node_f l hls Γ z w h (by omega)) (kcwSW 2 hts kw_L_node mw_436 (rm_le hR (Nat.le_of_ble_eq_true rfl) (Nat.le_of_ble_eq_true rfl))) (kPy_S hK hP hD hXS hXN hS) rfl rfl hl.1 rfl (lv_room (Nat.le_of_ble_eq_true rfl)) dL_acts_83 (by subst hR; exact ⟨Nat.le_of_ble_eq_true rfl, Nat.le_of_ble_eq_true rfl⟩)) hP hD hS (fun r w H locs hw hP hD hS => ?_)
        obtain ⟨rfl, e9⟩ := hw
        rw [← e9] at h
        refine tp_i (y := (-2000002)) (rfl) ?_
        exact hret w hP hS (Or.inl ⟨⟨Or.inr rfl, h⟩, by omega, fun q9 => absurd q9 (by omega)⟩) (fun q9 => by cases q9) dL_acts_86
    · skip
      refine lv_isub hx hb dL_acts_82 ?_
      refine tp_i (y := (nI (y / 16 % 12 - 1))) (ni_sub (by omega)) ?_
      rcases nd_cases n th (y / 16 % 12 - 1) hn0 with ⟨hn9, hv9, hb9⟩ | ⟨hn9, hv9, hb9⟩ | ⟨hn9, hv9⟩ | hv9
      · skip
        refine wy_fin (vx_runSW (As := [.ref (z.1 0), .int (nI (y / 16 % 12 - 1))]) (rest := []) ⟨hx, hb, hml, hown, hts⟩ (d_L_node_a l Γ z w h (y / 16 % 12 - 1) hn9 hv9 hb9) (kcwSW 2 hts kw_L_node mw_436 (rm_le hR (Nat.le_of_ble_eq_true rfl) (Nat.le_of_ble_eq_true rfl))) (kPy_S hK hP hD hXS hXN hS) rfl rfl hl.1 rfl (lv_room (Nat.le_of_ble_eq_true rfl)) dL_acts_83 (by subst hR; exact ⟨Nat.le_of_ble_eq_true rfl, Nat.le_of_ble_eq_true rfl⟩)) hP hD hS (fun r w H locs hw hP hD hS => ?_)
        obtain ⟨rfl, h⟩ := hw
        refine tp_i (y := (nI n)) (rfl) ?_
        refine W.widen (k := 1) (n := 6) (Nat.le_of_ble_eq_true rfl) (Nat.le_of_ble_eq_true rfl) ?_
        exact hret w hP hS (Or.inr (Or.inl ⟨by omega, rfl, hn9, _, h⟩)) (fun q9 => by cases q9) dL_acts_86
      · skip
        refine wy_fin (vx_runSW (As := [.ref (z.1 0), .int (nI (y / 16 % 12 - 1))]) (rest := []) ⟨hx, hb, hml, hown, hts⟩ (d_L_node_t l hls Γ z w h (y / 16 % 12 - 1) hn9 hv9 hb9) (kcwSW 2 hts kw_L_node mw_436 (rm_le hR (Nat.le_of_ble_eq_true rfl) (Nat.le_of_ble_eq_true rfl))) (kPy_S hK hP hD hXS hXN hS) rfl rfl hl.1 rfl (lv_room (Nat.le_of_ble_eq_true rfl)) dL_acts_83 (by subst hR; exact ⟨Nat.le_of_ble_eq_true rfl, Nat.le_of_ble_eq_true rfl⟩)) hP hD hS (fun r w H locs hw hP hD hS => ?_)
        obtain ⟨rfl, e9⟩ := hw
        rw [← e9] at h
        refine tp_i (y := (-2000002)) (rfl) ?_
        exact hret w hP hS (Or.inl ⟨⟨Or.inr rfl, h⟩, by omega, fun q9 => absurd q9 (by omega)⟩) (fun q9 => by cases q9) dL_acts_86
      · skip
        refine wy_fin (vx_runSW (As := [.ref (z.1 0), .int (nI (y / 16 % 12 - 1))]) (rest := []) ⟨hx, hb, hml, hown, hts⟩ (d_L_node_g l hls Γ z w h (y / 16 % 12 - 1) hn9 hv9) (kcwSW 2 hts kw_L_node mw_436 (rm_le hR (Nat.le_of_ble_eq_true rfl) (Nat.le_of_ble_eq_true rfl))) (kPy_S hK hP hD hXS hXN hS) rfl rfl hl.1 rfl (lv_room (Nat.le_of_ble_eq_true rfl)) dL_acts_83 (by subst hR; exact ⟨Nat.le_of_ble_eq_true rfl, Nat.le_of_ble_eq_true rfl⟩)) hP hD hS (fun r w H locs hw hP hD hS => ?_)
        obtain ⟨rfl, e9⟩ := hw
        rw [← e9] at h
        refine tp_i (y := (-2000002)) (rfl) ?_
        exact hret w hP hS (Or.inl ⟨⟨Or.inr rfl, h⟩, by omega, fun q9 => absurd q9 (by omega)⟩) (fun q9 => by cases q9) dL_acts_86
      · skip
        refine wy_fin (vx_runSW (As := [.ref (z.1 0), .int (nI (y / 16 % 12 - 1))]) (rest := []) ⟨hx, hb, hml, hown, hts⟩ (d_L_node_x l hls Γ z w h (nI (y / 16 % 12 - 1)) (nI_m1 (by omega)) (isN_no hn0 hv9 (by omega))) (kcwSW 2 hts kw_L_node mw_436 (rm_le hR (Nat.le_of_ble_eq_true rfl) (Nat.le_of_ble_eq_true rfl))) (kPy_S hK hP hD hXS hXN hS) rfl rfl hl.1 rfl (lv_room (Nat.le_of_ble_eq_true rfl)) dL_acts_83 (by subst hR; exact ⟨Nat.le_of_ble_eq_true rfl, Nat.le_of_ble_eq_true rfl⟩)) hP hD hS (fun r w H locs hw hP hD hS => ?_)
        obtain ⟨rfl, e9⟩ := hw
        rw [← e9] at h
        refine tp_i (y := (-2000001)) (rfl) ?_
        exact hret w hP hS (Or.inl ⟨⟨Or.inl rfl, h⟩, by omega, fun q9 => absurd q9 (by omega)⟩) (fun q9 => by cases q9) dL_acts_86
  · skip
    refine tp_i (y := nI 3) (congrArg nI hk9) ?_
    refine lv_tableIn (off := 67) (tgt := 76) hx hb dL_acts_9 (by decide) (by decide) (by decide) (by decide) ?_
    refine lv_aload_n hx hb dL_acts_76 rfl (lv_at hl 1 rfl) ?_
    refine lv_iload_n hx hb dL_acts_77 rfl (lv_at hl 0 rfl) ?_
    refine lv_bipush (v := (nI 12)) hx hb dL_acts_78 (by decide) ?_
    refine lv_irem hx hb dL_acts_80 (nI_ne0 (by omega) (by omega)) ?_
    refine tp_i (y := (nI ((y / 16) % 12))) (pk_rem (by omega) (by omega) (by omega)) ?_
    refine lv_iconst (v := (nI 1)) hx hb dL_acts_81 (by decide) ?_
    by_cases hz9 : y / 16 % 12 = 0
    · skip
      refine lv_isub hx hb dL_acts_82 ?_
      refine tp_i (y := (-1)) (by rw [hz9]; decide) ?_
      by_cases hn9 : n < 14
      · skip
        refine wy_fin (vx_runSW (As := [.ref (z.1 0), .int (-1)]) (rest := []) ⟨hx, hb, hml, hown, hts⟩ (d_L_node_e l Γ z w h hn9) (kcwSW 2 hts kw_L_node mw_436 (rm_le hR (Nat.le_of_ble_eq_true rfl) (Nat.le_of_ble_eq_true rfl))) (kPy_S hK hP hD hXS hXN hS) rfl rfl hl.1 rfl (lv_room (Nat.le_of_ble_eq_true rfl)) dL_acts_83 (by subst hR; exact ⟨Nat.le_of_ble_eq_true rfl, Nat.le_of_ble_eq_true rfl⟩)) hP hD hS (fun r w H locs hw hP hD hS => ?_)
        obtain ⟨rfl, h⟩ := hw
        refine tp_i (y := (nI n)) (rfl) ?_
        refine W.widen (k := 1) (n := 6) (Nat.le_of_ble_eq_true rfl) (Nat.le_of_ble_eq_true rfl) ?_
        exact hret w hP hS (Or.inr (Or.inl ⟨by omega, rfl, hn9, _, h⟩)) (fun q9 => by cases q9) dL_acts_86
      · skip
        refine wy_fin (vx_runSW (As := [.ref (z.1 0), .int (-1)]) (rest := []) ⟨hx, hb, hml, hown, hts⟩ (d_L_node_f l hls Γ z w h (by omega)) (kcwSW 2 hts kw_L_node mw_436 (rm_le hR (Nat.le_of_ble_eq_true rfl) (Nat.le_of_ble_eq_true rfl))) (kPy_S hK hP hD hXS hXN hS) rfl rfl hl.1 rfl (lv_room (Nat.le_of_ble_eq_true rfl)) dL_acts_83 (by subst hR; exact ⟨Nat.le_of_ble_eq_true rfl, Nat.le_of_ble_eq_true rfl⟩)) hP hD hS (fun r w H locs hw hP hD hS => ?_)
        obtain ⟨rfl, e9⟩ := hw
        rw [← e9] at h
        refine tp_i (y := (-2000002)) (rfl) ?_
        exact hret w hP hS (Or.inl ⟨⟨Or.inr rfl, h⟩, by omega, fun q9 => absurd q9 (by omega)⟩) (fun q9 => by cases q9) dL_acts_86
    · skip
      refine lv_isub hx hb dL_acts_82 ?_
      refine tp_i (y := (nI (y / 16 % 12 - 1))) (ni_sub (by omega)) ?_
      rcases nd_cases n th (y / 16 % 12 - 1) hn0 with ⟨hn9, hv9, hb9⟩ | ⟨hn9, hv9, hb9⟩ | ⟨hn9, hv9⟩ | hv9
      · skip
        refine wy_fin (vx_runSW (As := [.ref (z.1 0), .int (nI (y / 16 % 12 - 1))]) (rest := []) ⟨hx, hb, hml, hown, hts⟩ (d_L_node_a l Γ z w h (y / 16 % 12 - 1) hn9 hv9 hb9) (kcwSW 2 hts kw_L_node mw_436 (rm_le hR (Nat.le_of_ble_eq_true rfl) (Nat.le_of_ble_eq_true rfl))) (kPy_S hK hP hD hXS hXN hS) rfl rfl hl.1 rfl (lv_room (Nat.le_of_ble_eq_true rfl)) dL_acts_83 (by subst hR; exact ⟨Nat.le_of_ble_eq_true rfl, Nat.le_of_ble_eq_true rfl⟩)) hP hD hS (fun r w H locs hw hP hD hS => ?_)
        obtain ⟨rfl, h⟩ := hw
        refine tp_i (y := (nI n)) (rfl) ?_
        refine W.widen (k := 1) (n := 6) (Nat.le_of_ble_eq_true rfl) (Nat.le_of_ble_eq_true rfl) ?_
        exact hret w hP hS (Or.inr (Or.inl ⟨by omega, rfl, hn9, _, h⟩)) (fun q9 => by cases q9) dL_acts_86
      · skip
        refine wy_fin (vx_runSW (As := [.ref (z.1 0), .int (nI (y / 16 % 12 - 1))]) (rest := []) ⟨hx, hb, hml, hown, hts⟩ (d_L_node_t l hls Γ z w h (y / 16 % 12 - 1) hn9 hv9 hb9) (kcwSW 2 hts kw_L_node mw_436 (rm_le hR (Nat.le_of_ble_eq_true rfl) (Nat.le_of_ble_eq_true rfl))) (kPy_S hK hP hD hXS hXN hS) rfl rfl hl.1 rfl (lv_room (Nat.le_of_ble_eq_true rfl)) dL_acts_83 (by subst hR; exact ⟨Nat.le_of_ble_eq_true rfl, Nat.le_of_ble_eq_true rfl⟩)) hP hD hS (fun r w H locs hw hP hD hS => ?_)
        obtain ⟨rfl, e9⟩ := hw
        rw [← e9] at h
        refine tp_i (y := (-2000002)) (rfl) ?_
        exact hret w hP hS (Or.inl ⟨⟨Or.inr rfl, h⟩, by omega, fun q9 => absurd q9 (by omega)⟩) (fun q9 => by cases q9) dL_acts_86
      · skip
        refine wy_fin (vx_runSW (As := [.ref (z.1 0), .int (nI (y / 16 % 12 - 1))]) (rest := []) ⟨hx, hb, hml, hown, hts⟩ (d_L_node_g l hls Γ z w h (y / 16 % 12 - 1) hn9 hv9) (kcwSW 2 hts kw_L_node mw_436 (rm_le hR (Nat.le_of_ble_eq_true rfl) (Nat.le_of_ble_eq_true rfl))) (kPy_S hK hP hD hXS hXN hS) rfl rfl hl.1 rfl (lv_room (Nat.le_of_ble_eq_true rfl)) dL_acts_83 (by subst hR; exact ⟨Nat.le_of_ble_eq_true rfl, Nat.le_of_ble_eq_true rfl⟩)) hP hD hS (fun r w H locs hw hP hD hS => ?_)
        obtain ⟨rfl, e9⟩ := hw
        rw [← e9] at h
        refine tp_i (y := (-2000002)) (rfl) ?_
        exact hret w hP hS (Or.inl ⟨⟨Or.inr rfl, h⟩, by omega, fun q9 => absurd q9 (by omega)⟩) (fun q9 => by cases q9) dL_acts_86
      · skip
        refine wy_fin (vx_runSW (As := [.ref (z.1 0), .int (nI (y / 16 % 12 - 1))]) (rest := []) ⟨hx, hb, hml, hown, hts⟩ (d_L_node_x l hls Γ z w h (nI (y / 16 % 12 - 1)) (nI_m1 (by omega)) (isN_no hn0 hv9 (by omega))) (kcwSW 2 hts kw_L_node mw_436 (rm_le hR (Nat.le_of_ble_eq_true rfl) (Nat.le_of_ble_eq_true rfl))) (kPy_S hK hP hD hXS hXN hS) rfl rfl hl.1 rfl (lv_room (Nat.le_of_ble_eq_true rfl)) dL_acts_83 (by subst hR; exact ⟨Nat.le_of_ble_eq_true rfl, Nat.le_of_ble_eq_true rfl⟩)) hP hD hS (fun r w H locs hw hP hD hS => ?_)
        obtain ⟨rfl, e9⟩ := hw
        rw [← e9] at h
        refine tp_i (y := (-2000001)) (rfl) ?_
        exact hret w hP hS (Or.inl ⟨⟨Or.inl rfl, h⟩, by omega, fun q9 => absurd q9 (by omega)⟩) (fun q9 => by cases q9) dL_acts_86
  · skip
    refine tp_i (y := nI 4) (congrArg nI hk9) ?_
    refine lv_tableIn (off := 78) (tgt := 87) hx hb dL_acts_9 (by decide) (by decide) (by decide) (by decide) ?_
    refine lv_aload_n hx hb dL_acts_87 rfl (lv_at hl 1 rfl) ?_
    refine lv_iload_n hx hb dL_acts_88 rfl (lv_at hl 0 rfl) ?_
    refine lv_bipush (v := (nI 10)) hx hb dL_acts_89 (by decide) ?_
    refine lv_irem hx hb dL_acts_91 (nI_ne0 (by omega) (by omega)) ?_
    refine tp_i (y := (nI ((y / 16) % 10))) (pk_rem (by omega) (by omega) (by omega)) ?_
    refine lv_iload_n hx hb dL_acts_92 rfl (lv_at hl 0 rfl) ?_
    refine lv_bipush (v := (nI 16)) hx hb dL_acts_93 (by decide) ?_
    refine lv_idiv hx hb dL_acts_95 (nI_ne0 (by omega) (by omega)) ?_
    refine tp_i (y := (nI ((y / 16) / 16))) (pk_div (by omega) (by omega) (by omega)) ?_
    refine lv_bipush (v := (nI 10)) hx hb dL_acts_96 (by decide) ?_
    refine lv_irem hx hb dL_acts_98 (nI_ne0 (by omega) (by omega)) ?_
    refine tp_i (y := (nI (((y / 16) / 16) % 10))) (pk_rem (by omega) (by omega) (by omega)) ?_
    rcases jn_cases (cjB g th n (y / 16 % 10) (y / 16 / 16 % 10)) n (y / 16 % 10) (y / 16 / 16 % 10) with ⟨hi9, hj9, hc9⟩ | ⟨hi9, hj9, hc9⟩ | ⟨hi9, hj9⟩ | hi9
    · skip
      refine wy_fin (vx_runSW (As := [.ref (z.1 0), .int (nI ((y / 16) % 10)), .int (nI (((y / 16) / 16) % 10))]) (rest := []) ⟨hx, hb, hml, hown, hts⟩ (d_L_join_a l Γ z w h (y / 16 % 10) (y / 16 / 16 % 10) hi9 hj9 hc9) (kcwSW 3 hts kw_L_join mw_439 (rm_le hR (Nat.le_of_ble_eq_true rfl) (Nat.le_of_ble_eq_true rfl))) (kPy_S hK hP hD hXS hXN hS) rfl rfl hl.1 rfl (lv_room (Nat.le_of_ble_eq_true rfl)) dL_acts_99 (by subst hR; exact ⟨Nat.le_of_ble_eq_true rfl, Nat.le_of_ble_eq_true rfl⟩)) hP hD hS (fun r w H locs hw hP hD hS => ?_)
      obtain ⟨rfl, h⟩ := hw
      refine tp_i (y := (nI (trC (lk2 g (y / 16 % 10) (y / 16 / 16 % 10) true) th))) (rfl) ?_
      refine W.widen (k := 1) (n := 6) (Nat.le_of_ble_eq_true rfl) (Nat.le_of_ble_eq_true rfl) ?_
      exact hret w hP hS (Or.inr (Or.inr (Or.inl ⟨by omega, ⟨hi9, hj9, hc9⟩, rfl, h⟩))) (fun q9 => by cases q9) dL_acts_102
    · skip
      refine wy_fin (vx_runSW (As := [.ref (z.1 0), .int (nI ((y / 16) % 10)), .int (nI (((y / 16) / 16) % 10))]) (rest := []) ⟨hx, hb, hml, hown, hts⟩ (d_L_join_n l hls Γ z w h (y / 16 % 10) (y / 16 / 16 % 10) hi9 hj9 hc9) (kcwSW 3 hts kw_L_join mw_439 (rm_le hR (Nat.le_of_ble_eq_true rfl) (Nat.le_of_ble_eq_true rfl))) (kPy_S hK hP hD hXS hXN hS) rfl rfl hl.1 rfl (lv_room (Nat.le_of_ble_eq_true rfl)) dL_acts_99 (by subst hR; exact ⟨Nat.le_of_ble_eq_true rfl, Nat.le_of_ble_eq_true rfl⟩)) hP hD hS (fun r w H locs hw hP hD hS => ?_)
      obtain ⟨rfl, e9⟩ := hw
      rw [← e9] at h
      refine tp_i (y := (-2000002)) (rfl) ?_
      exact hret w hP hS (Or.inl ⟨⟨Or.inr rfl, h⟩, by omega, fun q9 q8 => by rw [hc9] at q8; exact absurd q8.2.2 (by decide)⟩) (fun q9 => by cases q9) dL_acts_102
    · skip
      refine wy_fin (vx_runSW (As := [.ref (z.1 0), .int (nI ((y / 16) % 10)), .int (nI (((y / 16) / 16) % 10))]) (rest := []) ⟨hx, hb, hml, hown, hts⟩ (d_L_join_y l hls Γ z w h (y / 16 % 10) (nI (y / 16 / 16 % 10)) hi9 (isN_no hn0 hj9 (by omega))) (kcwSW 3 hts kw_L_join mw_439 (rm_le hR (Nat.le_of_ble_eq_true rfl) (Nat.le_of_ble_eq_true rfl))) (kPy_S hK hP hD hXS hXN hS) rfl rfl hl.1 rfl (lv_room (Nat.le_of_ble_eq_true rfl)) dL_acts_99 (by subst hR; exact ⟨Nat.le_of_ble_eq_true rfl, Nat.le_of_ble_eq_true rfl⟩)) hP hD hS (fun r w H locs hw hP hD hS => ?_)
      obtain ⟨rfl, e9⟩ := hw
      rw [← e9] at h
      refine tp_i (y := (-2000001)) (rfl) ?_
      exact hret w hP hS (Or.inl ⟨⟨Or.inl rfl, h⟩, by omega, fun q9 q8 => absurd q8.2.1 (by omega)⟩) (fun q9 => by cases q9) dL_acts_102
    · skip
      refine wy_fin (vx_runSW (As := [.ref (z.1 0), .int (nI ((y / 16) % 10)), .int (nI (((y / 16) / 16) % 10))]) (rest := []) ⟨hx, hb, hml, hown, hts⟩ (d_L_join_x l hls Γ z w h (nI (y / 16 % 10)) (nI (y / 16 / 16 % 10)) (isN_no hn0 hi9 (by omega))) (kcwSW 3 hts kw_L_join mw_439 (rm_le hR (Nat.le_of_ble_eq_true rfl) (Nat.le_of_ble_eq_true rfl))) (kPy_S hK hP hD hXS hXN hS) rfl rfl hl.1 rfl (lv_room (Nat.le_of_ble_eq_true rfl)) dL_acts_99 (by subst hR; exact ⟨Nat.le_of_ble_eq_true rfl, Nat.le_of_ble_eq_true rfl⟩)) hP hD hS (fun r w H locs hw hP hD hS => ?_)
      obtain ⟨rfl, e9⟩ := hw
      rw [← e9] at h
      refine tp_i (y := (-2000001)) (rfl) ?_
      exact hret w hP hS (Or.inl ⟨⟨Or.inl rfl, h⟩, by omega, fun q9 q8 => absurd q8.1 (by omega)⟩) (fun q9 => by cases q9) dL_acts_102
  · skip
    refine tp_i (y := nI 5) (congrArg nI hk9) ?_
    refine lv_tableIn (off := 78) (tgt := 87) hx hb dL_acts_9 (by decide) (by decide) (by decide) (by decide) ?_
    refine lv_aload_n hx hb dL_acts_87 rfl (lv_at hl 1 rfl) ?_
    refine lv_iload_n hx hb dL_acts_88 rfl (lv_at hl 0 rfl) ?_
    refine lv_bipush (v := (nI 10)) hx hb dL_acts_89 (by decide) ?_
    refine lv_irem hx hb dL_acts_91 (nI_ne0 (by omega) (by omega)) ?_
    refine tp_i (y := (nI ((y / 16) % 10))) (pk_rem (by omega) (by omega) (by omega)) ?_
    refine lv_iload_n hx hb dL_acts_92 rfl (lv_at hl 0 rfl) ?_
    refine lv_bipush (v := (nI 16)) hx hb dL_acts_93 (by decide) ?_
    refine lv_idiv hx hb dL_acts_95 (nI_ne0 (by omega) (by omega)) ?_
    refine tp_i (y := (nI ((y / 16) / 16))) (pk_div (by omega) (by omega) (by omega)) ?_
    refine lv_bipush (v := (nI 10)) hx hb dL_acts_96 (by decide) ?_
    refine lv_irem hx hb dL_acts_98 (nI_ne0 (by omega) (by omega)) ?_
    refine tp_i (y := (nI (((y / 16) / 16) % 10))) (pk_rem (by omega) (by omega) (by omega)) ?_
    rcases jn_cases (cjB g th n (y / 16 % 10) (y / 16 / 16 % 10)) n (y / 16 % 10) (y / 16 / 16 % 10) with ⟨hi9, hj9, hc9⟩ | ⟨hi9, hj9, hc9⟩ | ⟨hi9, hj9⟩ | hi9
    · skip
      refine wy_fin (vx_runSW (As := [.ref (z.1 0), .int (nI ((y / 16) % 10)), .int (nI (((y / 16) / 16) % 10))]) (rest := []) ⟨hx, hb, hml, hown, hts⟩ (d_L_join_a l Γ z w h (y / 16 % 10) (y / 16 / 16 % 10) hi9 hj9 hc9) (kcwSW 3 hts kw_L_join mw_439 (rm_le hR (Nat.le_of_ble_eq_true rfl) (Nat.le_of_ble_eq_true rfl))) (kPy_S hK hP hD hXS hXN hS) rfl rfl hl.1 rfl (lv_room (Nat.le_of_ble_eq_true rfl)) dL_acts_99 (by subst hR; exact ⟨Nat.le_of_ble_eq_true rfl, Nat.le_of_ble_eq_true rfl⟩)) hP hD hS (fun r w H locs hw hP hD hS => ?_)
      obtain ⟨rfl, h⟩ := hw
      refine tp_i (y := (nI (trC (lk2 g (y / 16 % 10) (y / 16 / 16 % 10) true) th))) (rfl) ?_
      refine W.widen (k := 1) (n := 6) (Nat.le_of_ble_eq_true rfl) (Nat.le_of_ble_eq_true rfl) ?_
      exact hret w hP hS (Or.inr (Or.inr (Or.inl ⟨by omega, ⟨hi9, hj9, hc9⟩, rfl, h⟩))) (fun q9 => by cases q9) dL_acts_102
    · skip
      refine wy_fin (vx_runSW (As := [.ref (z.1 0), .int (nI ((y / 16) % 10)), .int (nI (((y / 16) / 16) % 10))]) (rest := []) ⟨hx, hb, hml, hown, hts⟩ (d_L_join_n l hls Γ z w h (y / 16 % 10) (y / 16 / 16 % 10) hi9 hj9 hc9) (kcwSW 3 hts kw_L_join mw_439 (rm_le hR (Nat.le_of_ble_eq_true rfl) (Nat.le_of_ble_eq_true rfl))) (kPy_S hK hP hD hXS hXN hS) rfl rfl hl.1 rfl (lv_room (Nat.le_of_ble_eq_true rfl)) dL_acts_99 (by subst hR; exact ⟨Nat.le_of_ble_eq_true rfl, Nat.le_of_ble_eq_true rfl⟩)) hP hD hS (fun r w H locs hw hP hD hS => ?_)
      obtain ⟨rfl, e9⟩ := hw
      rw [← e9] at h
      refine tp_i (y := (-2000002)) (rfl) ?_
      exact hret w hP hS (Or.inl ⟨⟨Or.inr rfl, h⟩, by omega, fun q9 q8 => by rw [hc9] at q8; exact absurd q8.2.2 (by decide)⟩) (fun q9 => by cases q9) dL_acts_102
    · skip
      refine wy_fin (vx_runSW (As := [.ref (z.1 0), .int (nI ((y / 16) % 10)), .int (nI (((y / 16) / 16) % 10))]) (rest := []) ⟨hx, hb, hml, hown, hts⟩ (d_L_join_y l hls Γ z w h (y / 16 % 10) (nI (y / 16 / 16 % 10)) hi9 (isN_no hn0 hj9 (by omega))) (kcwSW 3 hts kw_L_join mw_439 (rm_le hR (Nat.le_of_ble_eq_true rfl) (Nat.le_of_ble_eq_true rfl))) (kPy_S hK hP hD hXS hXN hS) rfl rfl hl.1 rfl (lv_room (Nat.le_of_ble_eq_true rfl)) dL_acts_99 (by subst hR; exact ⟨Nat.le_of_ble_eq_true rfl, Nat.le_of_ble_eq_true rfl⟩)) hP hD hS (fun r w H locs hw hP hD hS => ?_)
      obtain ⟨rfl, e9⟩ := hw
      rw [← e9] at h
      refine tp_i (y := (-2000001)) (rfl) ?_
      exact hret w hP hS (Or.inl ⟨⟨Or.inl rfl, h⟩, by omega, fun q9 q8 => absurd q8.2.1 (by omega)⟩) (fun q9 => by cases q9) dL_acts_102
    · skip
      refine wy_fin (vx_runSW (As := [.ref (z.1 0), .int (nI ((y / 16) % 10)), .int (nI (((y / 16) / 16) % 10))]) (rest := []) ⟨hx, hb, hml, hown, hts⟩ (d_L_join_x l hls Γ z w h (nI (y / 16 % 10)) (nI (y / 16 / 16 % 10)) (isN_no hn0 hi9 (by omega))) (kcwSW 3 hts kw_L_join mw_439 (rm_le hR (Nat.le_of_ble_eq_true rfl) (Nat.le_of_ble_eq_true rfl))) (kPy_S hK hP hD hXS hXN hS) rfl rfl hl.1 rfl (lv_room (Nat.le_of_ble_eq_true rfl)) dL_acts_99 (by subst hR; exact ⟨Nat.le_of_ble_eq_true rfl, Nat.le_of_ble_eq_true rfl⟩)) hP hD hS (fun r w H locs hw hP hD hS => ?_)
      obtain ⟨rfl, e9⟩ := hw
      rw [← e9] at h
      refine tp_i (y := (-2000001)) (rfl) ?_
      exact hret w hP hS (Or.inl ⟨⟨Or.inl rfl, h⟩, by omega, fun q9 q8 => absurd q8.1 (by omega)⟩) (fun q9 => by cases q9) dL_acts_102
  · skip
    refine tp_i (y := nI 6) (congrArg nI hk9) ?_
    refine lv_tableIn (off := 94) (tgt := 103) hx hb dL_acts_9 (by decide) (by decide) (by decide) (by decide) ?_
    refine lv_aload_n hx hb dL_acts_103 rfl (lv_at hl 1 rfl) ?_
    refine lv_iload_n hx hb dL_acts_104 rfl (lv_at hl 0 rfl) ?_
    refine lv_bipush (v := (nI 10)) hx hb dL_acts_105 (by decide) ?_
    refine lv_irem hx hb dL_acts_107 (nI_ne0 (by omega) (by omega)) ?_
    refine tp_i (y := (nI ((y / 16) % 10))) (pk_rem (by omega) (by omega) (by omega)) ?_
    refine lv_iload_n hx hb dL_acts_108 rfl (lv_at hl 0 rfl) ?_
    refine lv_bipush (v := (nI 16)) hx hb dL_acts_109 (by decide) ?_
    refine lv_idiv hx hb dL_acts_111 (nI_ne0 (by omega) (by omega)) ?_
    refine tp_i (y := (nI ((y / 16) / 16))) (pk_div (by omega) (by omega) (by omega)) ?_
    refine lv_bipush (v := (nI 10)) hx hb dL_acts_112 (by decide) ?_
    refine lv_irem hx hb dL_acts_114 (nI_ne0 (by omega) (by omega)) ?_
    refine tp_i (y := (nI (((y / 16) / 16) % 10))) (pk_rem (by omega) (by omega) (by omega)) ?_
    rcases jn_cases (edB g th (y / 16 % 10) (y / 16 / 16 % 10)) n (y / 16 % 10) (y / 16 / 16 % 10) with ⟨hi9, hj9, hc9⟩ | ⟨hi9, hj9, hc9⟩ | ⟨hi9, hj9⟩ | hi9
    · skip
      refine wy_fin (vx_runSW (As := [.ref (z.1 0), .int (nI ((y / 16) % 10)), .int (nI (((y / 16) / 16) % 10))]) (rest := []) ⟨hx, hb, hml, hown, hts⟩ (d_L_cut_a l Γ z w h (y / 16 % 10) (y / 16 / 16 % 10) hi9 hj9 hc9) (kcwSW 3 hts kw_L_cut mw_441 (rm_le hR (Nat.le_of_ble_eq_true rfl) (Nat.le_of_ble_eq_true rfl))) (kPy_S hK hP hD hXS hXN hS) rfl rfl hl.1 rfl (lv_room (Nat.le_of_ble_eq_true rfl)) dL_acts_115 (by subst hR; exact ⟨Nat.le_of_ble_eq_true rfl, Nat.le_of_ble_eq_true rfl⟩)) hP hD hS (fun r w H locs hw hP hD hS => ?_)
      obtain ⟨rfl, h⟩ := hw
      refine tp_i (y := (bI (mrB g th 14 (y / 16 % 10) (y / 16 / 16 % 10)))) (rfl) ?_
      refine W.widen (k := 1) (n := 6) (Nat.le_of_ble_eq_true rfl) (Nat.le_of_ble_eq_true rfl) ?_
      exact hret w hP hS (Or.inr (Or.inr (Or.inr (Or.inl ⟨by omega, _, _, hi9, hj9, hc9, rfl, _, h⟩)))) (fun q9 => by cases q9) dL_acts_118
    · skip
      refine wy_fin (vx_runSW (As := [.ref (z.1 0), .int (nI ((y / 16) % 10)), .int (nI (((y / 16) / 16) % 10))]) (rest := []) ⟨hx, hb, hml, hown, hts⟩ (d_L_cut_n l hls Γ z w h (y / 16 % 10) (y / 16 / 16 % 10) hi9 hj9 hc9) (kcwSW 3 hts kw_L_cut mw_441 (rm_le hR (Nat.le_of_ble_eq_true rfl) (Nat.le_of_ble_eq_true rfl))) (kPy_S hK hP hD hXS hXN hS) rfl rfl hl.1 rfl (lv_room (Nat.le_of_ble_eq_true rfl)) dL_acts_115 (by subst hR; exact ⟨Nat.le_of_ble_eq_true rfl, Nat.le_of_ble_eq_true rfl⟩)) hP hD hS (fun r w H locs hw hP hD hS => ?_)
      obtain ⟨rfl, e9⟩ := hw
      rw [← e9] at h
      refine tp_i (y := (-2000002)) (rfl) ?_
      exact hret w hP hS (Or.inl ⟨⟨Or.inr rfl, h⟩, by omega, fun q9 q8 => absurd q9 (by omega)⟩) (fun q9 => by cases q9) dL_acts_118
    · skip
      refine wy_fin (vx_runSW (As := [.ref (z.1 0), .int (nI ((y / 16) % 10)), .int (nI (((y / 16) / 16) % 10))]) (rest := []) ⟨hx, hb, hml, hown, hts⟩ (d_L_cut_y l hls Γ z w h (y / 16 % 10) (nI (y / 16 / 16 % 10)) hi9 (isN_no hn0 hj9 (by omega))) (kcwSW 3 hts kw_L_cut mw_441 (rm_le hR (Nat.le_of_ble_eq_true rfl) (Nat.le_of_ble_eq_true rfl))) (kPy_S hK hP hD hXS hXN hS) rfl rfl hl.1 rfl (lv_room (Nat.le_of_ble_eq_true rfl)) dL_acts_115 (by subst hR; exact ⟨Nat.le_of_ble_eq_true rfl, Nat.le_of_ble_eq_true rfl⟩)) hP hD hS (fun r w H locs hw hP hD hS => ?_)
      obtain ⟨rfl, e9⟩ := hw
      rw [← e9] at h
      refine tp_i (y := (-2000001)) (rfl) ?_
      exact hret w hP hS (Or.inl ⟨⟨Or.inl rfl, h⟩, by omega, fun q9 q8 => absurd q9 (by omega)⟩) (fun q9 => by cases q9) dL_acts_118
    · skip
      refine wy_fin (vx_runSW (As := [.ref (z.1 0), .int (nI ((y / 16) % 10)), .int (nI (((y / 16) / 16) % 10))]) (rest := []) ⟨hx, hb, hml, hown, hts⟩ (d_L_cut_x l hls Γ z w h (nI (y / 16 % 10)) (nI (y / 16 / 16 % 10)) (isN_no hn0 hi9 (by omega))) (kcwSW 3 hts kw_L_cut mw_441 (rm_le hR (Nat.le_of_ble_eq_true rfl) (Nat.le_of_ble_eq_true rfl))) (kPy_S hK hP hD hXS hXN hS) rfl rfl hl.1 rfl (lv_room (Nat.le_of_ble_eq_true rfl)) dL_acts_115 (by subst hR; exact ⟨Nat.le_of_ble_eq_true rfl, Nat.le_of_ble_eq_true rfl⟩)) hP hD hS (fun r w H locs hw hP hD hS => ?_)
      obtain ⟨rfl, e9⟩ := hw
      rw [← e9] at h
      refine tp_i (y := (-2000001)) (rfl) ?_
      exact hret w hP hS (Or.inl ⟨⟨Or.inl rfl, h⟩, by omega, fun q9 q8 => absurd q9 (by omega)⟩) (fun q9 => by cases q9) dL_acts_118
  · skip
    refine tp_i (y := nI 7) (congrArg nI hk9) ?_
    refine lv_tableIn (off := 110) (tgt := 119) hx hb dL_acts_9 (by decide) (by decide) (by decide) (by decide) ?_
    refine lv_aload_n hx hb dL_acts_119 rfl (lv_at hl 1 rfl) ?_
    refine lv_iload_n hx hb dL_acts_120 rfl (lv_at hl 0 rfl) ?_
    refine lv_bipush (v := (nI 10)) hx hb dL_acts_121 (by decide) ?_
    refine lv_irem hx hb dL_acts_123 (nI_ne0 (by omega) (by omega)) ?_
    refine tp_i (y := (nI ((y / 16) % 10))) (pk_rem (by omega) (by omega) (by omega)) ?_
    rcases tk_cases n th (y / 16 % 10) with ⟨hv9, hb9⟩ | ⟨hv9, hb9⟩ | hv9
    · skip
      refine wy_fin (vx_runSW (As := [.ref (z.1 0), .int (nI ((y / 16) % 10))]) (rest := []) ⟨hx, hb, hml, hown, hts⟩ (d_L_take_a l Γ z w h (y / 16 % 10) hv9 hb9) (kcwSW 2 hts kw_L_take mw_443 (rm_le hR (Nat.le_of_ble_eq_true rfl) (Nat.le_of_ble_eq_true rfl))) (kPy_S hK hP hD hXS hXN hS) rfl rfl hl.1 rfl (lv_room (Nat.le_of_ble_eq_true rfl)) dL_acts_124 (by subst hR; exact ⟨Nat.le_of_ble_eq_true rfl, Nat.le_of_ble_eq_true rfl⟩)) hP hD hS (fun r w H locs hw hP hD hS => ?_)
      obtain ⟨rfl, h⟩ := hw
      refine tp_i (y := (nI (pc th - pc (lft g th (y / 16 % 10))))) (rfl) ?_
      refine W.widen (k := 1) (n := 6) (Nat.le_of_ble_eq_true rfl) (Nat.le_of_ble_eq_true rfl) ?_
      exact hret w hP hS (Or.inr (Or.inr (Or.inr (Or.inr (Or.inl (⟨by omega, _, hv9, hb9, rfl, h⟩)))))) (fun q9 => by cases q9) dL_acts_127
    · skip
      refine wy_fin (vx_runSW (As := [.ref (z.1 0), .int (nI ((y / 16) % 10))]) (rest := []) ⟨hx, hb, hml, hown, hts⟩ (d_L_take_t l hls Γ z w h (y / 16 % 10) hv9 hb9) (kcwSW 2 hts kw_L_take mw_443 (rm_le hR (Nat.le_of_ble_eq_true rfl) (Nat.le_of_ble_eq_true rfl))) (kPy_S hK hP hD hXS hXN hS) rfl rfl hl.1 rfl (lv_room (Nat.le_of_ble_eq_true rfl)) dL_acts_124 (by subst hR; exact ⟨Nat.le_of_ble_eq_true rfl, Nat.le_of_ble_eq_true rfl⟩)) hP hD hS (fun r w H locs hw hP hD hS => ?_)
      obtain ⟨rfl, e9⟩ := hw
      rw [← e9] at h
      refine tp_i (y := (-2000002)) (rfl) ?_
      exact hret w hP hS (Or.inl ⟨⟨Or.inr rfl, h⟩, by omega, fun q9 => absurd q9 (by omega)⟩) (fun q9 => by cases q9) dL_acts_127
    · skip
      refine wy_fin (vx_runSW (As := [.ref (z.1 0), .int (nI ((y / 16) % 10))]) (rest := []) ⟨hx, hb, hml, hown, hts⟩ (d_L_take_x l hls Γ z w h (nI (y / 16 % 10)) (isN_no hn0 hv9 (by omega))) (kcwSW 2 hts kw_L_take mw_443 (rm_le hR (Nat.le_of_ble_eq_true rfl) (Nat.le_of_ble_eq_true rfl))) (kPy_S hK hP hD hXS hXN hS) rfl rfl hl.1 rfl (lv_room (Nat.le_of_ble_eq_true rfl)) dL_acts_124 (by subst hR; exact ⟨Nat.le_of_ble_eq_true rfl, Nat.le_of_ble_eq_true rfl⟩)) hP hD hS (fun r w H locs hw hP hD hS => ?_)
      obtain ⟨rfl, e9⟩ := hw
      rw [← e9] at h
      refine tp_i (y := (-2000001)) (rfl) ?_
      exact hret w hP hS (Or.inl ⟨⟨Or.inl rfl, h⟩, by omega, fun q9 => absurd q9 (by omega)⟩) (fun q9 => by cases q9) dL_acts_127
  · skip
    refine tp_i (y := nI 8) (congrArg nI hk9) ?_
    refine lv_tableIn (off := 110) (tgt := 119) hx hb dL_acts_9 (by decide) (by decide) (by decide) (by decide) ?_
    refine lv_aload_n hx hb dL_acts_119 rfl (lv_at hl 1 rfl) ?_
    refine lv_iload_n hx hb dL_acts_120 rfl (lv_at hl 0 rfl) ?_
    refine lv_bipush (v := (nI 10)) hx hb dL_acts_121 (by decide) ?_
    refine lv_irem hx hb dL_acts_123 (nI_ne0 (by omega) (by omega)) ?_
    refine tp_i (y := (nI ((y / 16) % 10))) (pk_rem (by omega) (by omega) (by omega)) ?_
    rcases tk_cases n th (y / 16 % 10) with ⟨hv9, hb9⟩ | ⟨hv9, hb9⟩ | hv9
    · skip
      refine wy_fin (vx_runSW (As := [.ref (z.1 0), .int (nI ((y / 16) % 10))]) (rest := []) ⟨hx, hb, hml, hown, hts⟩ (d_L_take_a l Γ z w h (y / 16 % 10) hv9 hb9) (kcwSW 2 hts kw_L_take mw_443 (rm_le hR (Nat.le_of_ble_eq_true rfl) (Nat.le_of_ble_eq_true rfl))) (kPy_S hK hP hD hXS hXN hS) rfl rfl hl.1 rfl (lv_room (Nat.le_of_ble_eq_true rfl)) dL_acts_124 (by subst hR; exact ⟨Nat.le_of_ble_eq_true rfl, Nat.le_of_ble_eq_true rfl⟩)) hP hD hS (fun r w H locs hw hP hD hS => ?_)
      obtain ⟨rfl, h⟩ := hw
      refine tp_i (y := (nI (pc th - pc (lft g th (y / 16 % 10))))) (rfl) ?_
      refine W.widen (k := 1) (n := 6) (Nat.le_of_ble_eq_true rfl) (Nat.le_of_ble_eq_true rfl) ?_
      exact hret w hP hS (Or.inr (Or.inr (Or.inr (Or.inr (Or.inl (⟨by omega, _, hv9, hb9, rfl, h⟩)))))) (fun q9 => by cases q9) dL_acts_127
    · skip
      refine wy_fin (vx_runSW (As := [.ref (z.1 0), .int (nI ((y / 16) % 10))]) (rest := []) ⟨hx, hb, hml, hown, hts⟩ (d_L_take_t l hls Γ z w h (y / 16 % 10) hv9 hb9) (kcwSW 2 hts kw_L_take mw_443 (rm_le hR (Nat.le_of_ble_eq_true rfl) (Nat.le_of_ble_eq_true rfl))) (kPy_S hK hP hD hXS hXN hS) rfl rfl hl.1 rfl (lv_room (Nat.le_of_ble_eq_true rfl)) dL_acts_124 (by subst hR; exact ⟨Nat.le_of_ble_eq_true rfl, Nat.le_of_ble_eq_true rfl⟩)) hP hD hS (fun r w H locs hw hP hD hS => ?_)
      obtain ⟨rfl, e9⟩ := hw
      rw [← e9] at h
      refine tp_i (y := (-2000002)) (rfl) ?_
      exact hret w hP hS (Or.inl ⟨⟨Or.inr rfl, h⟩, by omega, fun q9 => absurd q9 (by omega)⟩) (fun q9 => by cases q9) dL_acts_127
    · skip
      refine wy_fin (vx_runSW (As := [.ref (z.1 0), .int (nI ((y / 16) % 10))]) (rest := []) ⟨hx, hb, hml, hown, hts⟩ (d_L_take_x l hls Γ z w h (nI (y / 16 % 10)) (isN_no hn0 hv9 (by omega))) (kcwSW 2 hts kw_L_take mw_443 (rm_le hR (Nat.le_of_ble_eq_true rfl) (Nat.le_of_ble_eq_true rfl))) (kPy_S hK hP hD hXS hXN hS) rfl rfl hl.1 rfl (lv_room (Nat.le_of_ble_eq_true rfl)) dL_acts_124 (by subst hR; exact ⟨Nat.le_of_ble_eq_true rfl, Nat.le_of_ble_eq_true rfl⟩)) hP hD hS (fun r w H locs hw hP hD hS => ?_)
      obtain ⟨rfl, e9⟩ := hw
      rw [← e9] at h
      refine tp_i (y := (-2000001)) (rfl) ?_
      exact hret w hP hS (Or.inl ⟨⟨Or.inl rfl, h⟩, by omega, fun q9 => absurd q9 (by omega)⟩) (fun q9 => by cases q9) dL_acts_127
  · skip
    refine tp_i (y := nI 9) (congrArg nI hk9) ?_
    refine lv_tableIn (off := 110) (tgt := 119) hx hb dL_acts_9 (by decide) (by decide) (by decide) (by decide) ?_
    refine lv_aload_n hx hb dL_acts_119 rfl (lv_at hl 1 rfl) ?_
    refine lv_iload_n hx hb dL_acts_120 rfl (lv_at hl 0 rfl) ?_
    refine lv_bipush (v := (nI 10)) hx hb dL_acts_121 (by decide) ?_
    refine lv_irem hx hb dL_acts_123 (nI_ne0 (by omega) (by omega)) ?_
    refine tp_i (y := (nI ((y / 16) % 10))) (pk_rem (by omega) (by omega) (by omega)) ?_
    rcases tk_cases n th (y / 16 % 10) with ⟨hv9, hb9⟩ | ⟨hv9, hb9⟩ | hv9
    · skip
      refine wy_fin (vx_runSW (As := [.ref (z.1 0), .int (nI ((y / 16) % 10))]) (rest := []) ⟨hx, hb, hml, hown, hts⟩ (d_L_take_a l Γ z w h (y / 16 % 10) hv9 hb9) (kcwSW 2 hts kw_L_take mw_443 (rm_le hR (Nat.le_of_ble_eq_true rfl) (Nat.le_of_ble_eq_true rfl))) (kPy_S hK hP hD hXS hXN hS) rfl rfl hl.1 rfl (lv_room (Nat.le_of_ble_eq_true rfl)) dL_acts_124 (by subst hR; exact ⟨Nat.le_of_ble_eq_true rfl, Nat.le_of_ble_eq_true rfl⟩)) hP hD hS (fun r w H locs hw hP hD hS => ?_)
      obtain ⟨rfl, h⟩ := hw
      refine tp_i (y := (nI (pc th - pc (lft g th (y / 16 % 10))))) (rfl) ?_
      refine W.widen (k := 1) (n := 6) (Nat.le_of_ble_eq_true rfl) (Nat.le_of_ble_eq_true rfl) ?_
      exact hret w hP hS (Or.inr (Or.inr (Or.inr (Or.inr (Or.inl (⟨by omega, _, hv9, hb9, rfl, h⟩)))))) (fun q9 => by cases q9) dL_acts_127
    · skip
      refine wy_fin (vx_runSW (As := [.ref (z.1 0), .int (nI ((y / 16) % 10))]) (rest := []) ⟨hx, hb, hml, hown, hts⟩ (d_L_take_t l hls Γ z w h (y / 16 % 10) hv9 hb9) (kcwSW 2 hts kw_L_take mw_443 (rm_le hR (Nat.le_of_ble_eq_true rfl) (Nat.le_of_ble_eq_true rfl))) (kPy_S hK hP hD hXS hXN hS) rfl rfl hl.1 rfl (lv_room (Nat.le_of_ble_eq_true rfl)) dL_acts_124 (by subst hR; exact ⟨Nat.le_of_ble_eq_true rfl, Nat.le_of_ble_eq_true rfl⟩)) hP hD hS (fun r w H locs hw hP hD hS => ?_)
      obtain ⟨rfl, e9⟩ := hw
      rw [← e9] at h
      refine tp_i (y := (-2000002)) (rfl) ?_
      exact hret w hP hS (Or.inl ⟨⟨Or.inr rfl, h⟩, by omega, fun q9 => absurd q9 (by omega)⟩) (fun q9 => by cases q9) dL_acts_127
    · skip
      refine wy_fin (vx_runSW (As := [.ref (z.1 0), .int (nI ((y / 16) % 10))]) (rest := []) ⟨hx, hb, hml, hown, hts⟩ (d_L_take_x l hls Γ z w h (nI (y / 16 % 10)) (isN_no hn0 hv9 (by omega))) (kcwSW 2 hts kw_L_take mw_443 (rm_le hR (Nat.le_of_ble_eq_true rfl) (Nat.le_of_ble_eq_true rfl))) (kPy_S hK hP hD hXS hXN hS) rfl rfl hl.1 rfl (lv_room (Nat.le_of_ble_eq_true rfl)) dL_acts_124 (by subst hR; exact ⟨Nat.le_of_ble_eq_true rfl, Nat.le_of_ble_eq_true rfl⟩)) hP hD hS (fun r w H locs hw hP hD hS => ?_)
      obtain ⟨rfl, e9⟩ := hw
      rw [← e9] at h
      refine tp_i (y := (-2000001)) (rfl) ?_
      exact hret w hP hS (Or.inl ⟨⟨Or.inl rfl, h⟩, by omega, fun q9 => absurd q9 (by omega)⟩) (fun q9 => by cases q9) dL_acts_127
  · skip
    refine tp_i (y := nI 10) (congrArg nI hk9) ?_
    refine lv_tableIn (off := 119) (tgt := 128) hx hb dL_acts_9 (by decide) (by decide) (by decide) (by decide) ?_
    refine lv_aload_n hx hb dL_acts_128 rfl (lv_at hl 1 rfl) ?_
    by_cases hz9 : th = 0
    · skip
      refine wy_fin (vx_runSW (As := [.ref (z.1 0)]) (rest := []) ⟨hx, hb, hml, hown, hts⟩ (d_L_reply_x l hls Γ z w h hz9) (kcwSW 1 hts kw_L_reply mw_445 (rm_le hR (Nat.le_of_ble_eq_true rfl) (Nat.le_of_ble_eq_true rfl))) (kPy_S hK hP hD hXS hXN hS) rfl rfl hl.1 rfl (lv_room (Nat.le_of_ble_eq_true rfl)) dL_acts_129 (by subst hR; exact ⟨Nat.le_of_ble_eq_true rfl, Nat.le_of_ble_eq_true rfl⟩)) hP hD hS (fun r w H locs hw hP hD hS => ?_)
      obtain ⟨rfl, e9⟩ := hw
      rw [← e9] at h
      refine tp_i (y := (-2000001)) (rfl) ?_
      exact hret w hP hS (Or.inl ⟨⟨Or.inl rfl, h⟩, by omega, fun q9 => absurd q9 (by omega)⟩) (fun q9 => by cases q9) dL_acts_132
    · skip
      refine wy_fin (vx_runSW (As := [.ref (z.1 0)]) (rest := []) ⟨hx, hb, hml, hown, hts⟩ (d_L_reply_a l Γ z w h hz9) (kcwSW 1 hts kw_L_reply mw_445 (rm_le hR (Nat.le_of_ble_eq_true rfl) (Nat.le_of_ble_eq_true rfl))) (kPy_S hK hP hD hXS hXN hS) rfl rfl hl.1 rfl (lv_room (Nat.le_of_ble_eq_true rfl)) dL_acts_129 (by subst hR; exact ⟨Nat.le_of_ble_eq_true rfl, Nat.le_of_ble_eq_true rfl⟩)) hP hD hS (fun r w H locs hw hP hD hS => ?_)
      obtain ⟨rfl, h⟩ := hw
      refine tp_i (y := (nI (rpN g th n))) (rfl) ?_
      refine W.widen (k := 1) (n := 6) (Nat.le_of_ble_eq_true rfl) (Nat.le_of_ble_eq_true rfl) ?_
      exact hret w hP hS (Or.inr (Or.inr (Or.inr (Or.inr (Or.inr (Or.inl (⟨hk9, hz9, rfl, h⟩))))))) (fun q9 => by cases q9) dL_acts_132
  · skip
    refine tp_i (y := nI 11) (congrArg nI hk9) ?_
    refine lv_tableIn (off := 124) (tgt := 133) hx hb dL_acts_9 (by decide) (by decide) (by decide) (by decide) ?_
    refine lv_aload_n hx hb dL_acts_133 rfl (lv_at hl 1 rfl) ?_
    refine wy_fin (va_runV (As := []) (rest := []) ⟨hx, hb, hml, hown, hts⟩ (d_X6_again l Γ z w h) (kcwV 0 hts kv_X6_again mw_447 (rm_le hR (Nat.le_of_ble_eq_true rfl) (Nat.le_of_ble_eq_true rfl))) (kPy_V hK (va_recv hK.1 hP (ci := 6) (q0 := 0) rfl rfl) hP hD hXS hXN hS) rfl rfl hl.1 rfl (lv_room (Nat.le_of_ble_eq_true rfl)) dL_acts_134 (by subst hR; exact ⟨Nat.le_of_ble_eq_true rfl, Nat.le_of_ble_eq_true rfl⟩)) hP hD hS (fun r w H locs hw hP hD hS => ?_)
    obtain ⟨rfl, h⟩ := hw
    refine tp_i (y := (nI (n - pc th))) (rfl) ?_
    refine W.widen (k := 1) (n := 6) (Nat.le_of_ble_eq_true rfl) (Nat.le_of_ble_eq_true rfl) ?_
    exact hret w hP hS (Or.inr (Or.inr (Or.inr (Or.inr (Or.inr (Or.inr (Or.inl (⟨hk9, rfl, h⟩)))))))) (fun q9 => by cases q9) dL_acts_137
  · skip
    refine tp_i (y := nI 12) (congrArg nI hk9) ?_
    refine lv_tableIn (off := 129) (tgt := 138) hx hb dL_acts_9 (by decide) (by decide) (by decide) (by decide) ?_
    refine lv_iload_n hx hb dL_acts_138 rfl (lv_at hl 0 rfl) ?_
    refine lv_iconst (v := (nI 2)) hx hb dL_acts_139 (by decide) ?_
    refine lv_irem hx hb dL_acts_140 (nI_ne0 (by omega) (by omega)) ?_
    refine tp_i (y := (nI ((y / 16) % 2))) (pk_rem (by omega) (by omega) (by omega)) ?_
    refine nb_if_ne (tgt := 156) hx hb (by omega) dL_acts_141 (by decide) (fun c_141 => ?_) (fun c_141 => ?_)
    · skip
      refine lv_aload_n hx hb dL_acts_156 rfl (lv_at hl 1 rfl) ?_
      refine lv_iload_n hx hb dL_acts_157 rfl (lv_at hl 0 rfl) ?_
      refine lv_iconst (v := (nI 2)) hx hb dL_acts_158 (by decide) ?_
      refine lv_idiv hx hb dL_acts_159 (nI_ne0 (by omega) (by omega)) ?_
      refine tp_i (y := (nI ((y / 16) / 2))) (pk_div (by omega) (by omega) (by omega)) ?_
      refine lv_iconst (v := (nI 2)) hx hb dL_acts_160 (by decide) ?_
      refine lv_irem hx hb dL_acts_161 (nI_ne0 (by omega) (by omega)) ?_
      refine tp_i (y := (nI (((y / 16) / 2) % 2))) (pk_rem (by omega) (by omega) (by omega)) ?_
      refine wy_fin (vx_runSW (As := [.ref (z.1 0), .int (nI (((y / 16) / 2) % 2))]) (rest := []) ⟨hx, hb, hml, hown, hts⟩ (d_L_keep_a l Γ z w h (y / 16 / 2 % 2) (by omega)) (kcwSW 2 hts kw_L_keep mw_452 (rm_le hR (Nat.le_of_ble_eq_true rfl) (Nat.le_of_ble_eq_true rfl))) (kPy_S hK hP hD hXS hXN hS) rfl rfl hl.1 rfl (lv_room (Nat.le_of_ble_eq_true rfl)) dL_acts_162 (by subst hR; exact ⟨Nat.le_of_ble_eq_true rfl, Nat.le_of_ble_eq_true rfl⟩)) hP hD hS (fun r w H locs hw hP hD hS => ?_)
      obtain ⟨rfl, h⟩ := hw
      refine tp_i (y := (nI (pc th))) (rfl) ?_
      refine W.widen (k := 1) (n := 6) (Nat.le_of_ble_eq_true rfl) (Nat.le_of_ble_eq_true rfl) ?_
      exact hret w hP hS (Or.inr (Or.inr (Or.inr (Or.inr (Or.inr (Or.inr (Or.inr (Or.inr (⟨hk9, by omega, rfl, h⟩))))))))) (fun q9 => by cases q9) dL_acts_165
    · skip
      refine lv_aload_n hx hb dL_acts_144 rfl (lv_at hl 1 rfl) ?_
      refine lv_iload_n hx hb dL_acts_145 rfl (lv_at hl 0 rfl) ?_
      refine lv_iconst (v := (nI 2)) hx hb dL_acts_146 (by decide) ?_
      refine lv_idiv hx hb dL_acts_147 (nI_ne0 (by omega) (by omega)) ?_
      refine tp_i (y := (nI ((y / 16) / 2))) (pk_div (by omega) (by omega) (by omega)) ?_
      refine lv_iconst (v := (nI 2)) hx hb dL_acts_148 (by decide) ?_
      refine lv_irem hx hb dL_acts_149 (nI_ne0 (by omega) (by omega)) ?_
      refine tp_i (y := (nI (((y / 16) / 2) % 2))) (pk_rem (by omega) (by omega) (by omega)) ?_
      rcases h.2.2.2.2.2.2.1 (y / 16 / 2 % 2) (by omega) with hp9 | hp9
      · skip
        refine wy_fin (vx_runSW (As := [.ref (z.1 0), .int (nI (((y / 16) / 2) % 2))]) (rest := []) ⟨hx, hb, hml, hown, hts⟩ (d_L_goBack_f l hls Γ z w h (y / 16 / 2 % 2) (by omega) hp9) (kcwSW 2 hts kw_L_goBack mw_450 (rm_le hR (Nat.le_of_ble_eq_true rfl) (Nat.le_of_ble_eq_true rfl))) (kPy_S hK hP hD hXS hXN hS) rfl rfl hl.1 rfl (lv_room (Nat.le_of_ble_eq_true rfl)) dL_acts_150 (by subst hR; exact ⟨Nat.le_of_ble_eq_true rfl, Nat.le_of_ble_eq_true rfl⟩)) hP hD hS (fun r w H locs hw hP hD hS => ?_)
        obtain ⟨rfl, e9⟩ := hw
        rw [← e9] at h
        refine tp_i (y := (-2000002)) (rfl) ?_
        refine lv_goto (tgt := 165) hx hb dL_acts_153 (by decide) ?_
        exact hret w hP hS (Or.inl ⟨⟨Or.inr rfl, h⟩, by omega, fun q9 => absurd q9 (by omega)⟩) (fun q9 => by cases q9) dL_acts_165
      · skip
        refine wy_fin (vx_runSW (As := [.ref (z.1 0), .int (nI (((y / 16) / 2) % 2))]) (rest := []) ⟨hx, hb, hml, hown, hts⟩ (d_L_goBack_a l Γ z w h (y / 16 / 2 % 2) (by omega) hp9.1) (kcwSW 2 hts kw_L_goBack mw_450 (rm_le hR (Nat.le_of_ble_eq_true rfl) (Nat.le_of_ble_eq_true rfl))) (kPy_S hK hP hD hXS hXN hS) rfl rfl hl.1 rfl (lv_room (Nat.le_of_ble_eq_true rfl)) dL_acts_150 (by subst hR; exact ⟨Nat.le_of_ble_eq_true rfl, Nat.le_of_ble_eq_true rfl⟩)) hP hD hS (fun r w H locs hw hP hD hS => ?_)
        obtain ⟨n2, th2, mv2, g2, rfl, h⟩ := hw
        refine tp_i (y := (nI (pc th2))) (rfl) ?_
        refine lv_goto (tgt := 165) hx hb dL_acts_153 (by decide) ?_
        refine W.widen (k := 1) (n := 6) (Nat.le_of_ble_eq_true rfl) (Nat.le_of_ble_eq_true rfl) ?_
        exact hret w hP hS (Or.inr (Or.inr (Or.inr (Or.inr (Or.inr (Or.inr (Or.inr (Or.inl (⟨hk9, c_141, _, _, _, _, rfl, h⟩))))))))) (fun q9 => by cases q9) dL_acts_165
  · skip
    refine tp_i (y := nI 13) (congrArg nI hk9) ?_
    refine lv_tableOut (tgt := 166) hx hb dL_acts_9 (by decide) (by decide) ?_
    refine lv_aload_n hx hb dL_acts_166 rfl (lv_at hl 1 rfl) ?_
    refine lv_iload_n hx hb dL_acts_167 rfl (lv_at hl 0 rfl) ?_
    refine lv_iconst (v := (nI 4)) hx hb dL_acts_168 (by decide) ?_
    refine lv_irem hx hb dL_acts_169 (nI_ne0 (by omega) (by omega)) ?_
    refine tp_i (y := (nI ((y / 16) % 4))) (pk_rem (by omega) (by omega) (by omega)) ?_
    refine nb_if_ne (tgt := 177) hx hb (by omega) dL_acts_170 (by decide) (fun c_170 => ?_) (fun c_170 => ?_)
    · skip
      refine lv_aload_n hx hb dL_acts_177 rfl (lv_at hl 1 rfl) ?_
      refine lv_iconst (v := (nI 0)) hx hb dL_acts_178 (by decide) ?_
      refine wy_fin (vx_runSW (As := [.ref (z.1 0), .int (nI 0)]) (rest := [.ref (z.1 0)]) ⟨hx, hb, hml, hown, hts⟩ (d_L_count_a l Γ z w h 0 (by decide)) (kcwSW 2 hts kw_L_count mw_454 (rm_le hR (Nat.le_of_ble_eq_true rfl) (Nat.le_of_ble_eq_true rfl))) (kPy_S hK hP hD hXS hXN hS) rfl rfl hl.1 rfl (lv_room (Nat.le_of_ble_eq_true rfl)) dL_acts_179 (by subst hR; exact ⟨Nat.le_of_ble_eq_true rfl, Nat.le_of_ble_eq_true rfl⟩)) hP hD hS (fun r w H locs hw hP hD hS => ?_)
      obtain ⟨rfl, h⟩ := hw
      refine tp_i (y := (nI n)) (rfl) ?_
      refine lv_iconst (v := (nI 1)) hx hb dL_acts_182 (by decide) ?_
      by_cases hz9 : n = 0
      · skip
        refine lv_isub hx hb dL_acts_183 ?_
        refine tp_i (y := (-1)) (by rw [hz9]; decide) ?_
        by_cases hn9 : n < 14
        · skip
          refine wy_fin (vx_runSW (As := [.ref (z.1 0), .int (-1)]) (rest := []) ⟨hx, hb, hml, hown, hts⟩ (d_L_node_e l Γ z w h hn9) (kcwSW 2 hts kw_L_node mw_436 (rm_le hR (Nat.le_of_ble_eq_true rfl) (Nat.le_of_ble_eq_true rfl))) (kPy_S hK hP hD hXS hXN hS) rfl rfl hl.1 rfl (lv_room (Nat.le_of_ble_eq_true rfl)) dL_acts_184 (by subst hR; exact ⟨Nat.le_of_ble_eq_true rfl, Nat.le_of_ble_eq_true rfl⟩)) hP hD hS (fun r w H locs hw hP hD hS => ?_)
          obtain ⟨rfl, h⟩ := hw
          refine tp_i (y := (nI n)) (rfl) ?_
          refine W.widen (k := 1) (n := 6) (Nat.le_of_ble_eq_true rfl) (Nat.le_of_ble_eq_true rfl) ?_
          exact hret w hP hS (Or.inr (Or.inl ⟨by omega, rfl, hn9, _, h⟩)) (fun q9 => by cases q9) dL_acts_187
        · skip
          refine wy_fin (vx_runSW (As := [.ref (z.1 0), .int (-1)]) (rest := []) ⟨hx, hb, hml, hown, hts⟩ (d_L_node_f l hls Γ z w h (by omega)) (kcwSW 2 hts kw_L_node mw_436 (rm_le hR (Nat.le_of_ble_eq_true rfl) (Nat.le_of_ble_eq_true rfl))) (kPy_S hK hP hD hXS hXN hS) rfl rfl hl.1 rfl (lv_room (Nat.le_of_ble_eq_true rfl)) dL_acts_184 (by subst hR; exact ⟨Nat.le_of_ble_eq_true rfl, Nat.le_of_ble_eq_true rfl⟩)) hP hD hS (fun r w H locs hw hP hD hS => ?_)
          obtain ⟨rfl, e9⟩ := hw
          rw [← e9] at h
          refine tp_i (y := (-2000002)) (rfl) ?_
          exact hret w hP hS (Or.inl ⟨⟨Or.inr rfl, h⟩, by omega, fun q9 => absurd q9 (by omega)⟩) (fun q9 => by cases q9) dL_acts_187
      · skip
        refine lv_isub hx hb dL_acts_183 ?_
        refine tp_i (y := (nI (n - 1))) (ni_sub (by omega)) ?_
        rcases nd_cases n th (n - 1) hn0 with ⟨hn9, hv9, hb9⟩ | ⟨hn9, hv9, hb9⟩ | ⟨hn9, hv9⟩ | hv9
        · skip
          refine wy_fin (vx_runSW (As := [.ref (z.1 0), .int (nI (n - 1))]) (rest := []) ⟨hx, hb, hml, hown, hts⟩ (d_L_node_a l Γ z w h (n - 1) hn9 hv9 hb9) (kcwSW 2 hts kw_L_node mw_436 (rm_le hR (Nat.le_of_ble_eq_true rfl) (Nat.le_of_ble_eq_true rfl))) (kPy_S hK hP hD hXS hXN hS) rfl rfl hl.1 rfl (lv_room (Nat.le_of_ble_eq_true rfl)) dL_acts_184 (by subst hR; exact ⟨Nat.le_of_ble_eq_true rfl, Nat.le_of_ble_eq_true rfl⟩)) hP hD hS (fun r w H locs hw hP hD hS => ?_)
          obtain ⟨rfl, h⟩ := hw
          refine tp_i (y := (nI n)) (rfl) ?_
          refine W.widen (k := 1) (n := 6) (Nat.le_of_ble_eq_true rfl) (Nat.le_of_ble_eq_true rfl) ?_
          exact hret w hP hS (Or.inr (Or.inl ⟨by omega, rfl, hn9, _, h⟩)) (fun q9 => by cases q9) dL_acts_187
        · skip
          refine wy_fin (vx_runSW (As := [.ref (z.1 0), .int (nI (n - 1))]) (rest := []) ⟨hx, hb, hml, hown, hts⟩ (d_L_node_t l hls Γ z w h (n - 1) hn9 hv9 hb9) (kcwSW 2 hts kw_L_node mw_436 (rm_le hR (Nat.le_of_ble_eq_true rfl) (Nat.le_of_ble_eq_true rfl))) (kPy_S hK hP hD hXS hXN hS) rfl rfl hl.1 rfl (lv_room (Nat.le_of_ble_eq_true rfl)) dL_acts_184 (by subst hR; exact ⟨Nat.le_of_ble_eq_true rfl, Nat.le_of_ble_eq_true rfl⟩)) hP hD hS (fun r w H locs hw hP hD hS => ?_)
          obtain ⟨rfl, e9⟩ := hw
          rw [← e9] at h
          refine tp_i (y := (-2000002)) (rfl) ?_
          exact hret w hP hS (Or.inl ⟨⟨Or.inr rfl, h⟩, by omega, fun q9 => absurd q9 (by omega)⟩) (fun q9 => by cases q9) dL_acts_187
        · skip
          refine wy_fin (vx_runSW (As := [.ref (z.1 0), .int (nI (n - 1))]) (rest := []) ⟨hx, hb, hml, hown, hts⟩ (d_L_node_g l hls Γ z w h (n - 1) hn9 hv9) (kcwSW 2 hts kw_L_node mw_436 (rm_le hR (Nat.le_of_ble_eq_true rfl) (Nat.le_of_ble_eq_true rfl))) (kPy_S hK hP hD hXS hXN hS) rfl rfl hl.1 rfl (lv_room (Nat.le_of_ble_eq_true rfl)) dL_acts_184 (by subst hR; exact ⟨Nat.le_of_ble_eq_true rfl, Nat.le_of_ble_eq_true rfl⟩)) hP hD hS (fun r w H locs hw hP hD hS => ?_)
          obtain ⟨rfl, e9⟩ := hw
          rw [← e9] at h
          refine tp_i (y := (-2000002)) (rfl) ?_
          exact hret w hP hS (Or.inl ⟨⟨Or.inr rfl, h⟩, by omega, fun q9 => absurd q9 (by omega)⟩) (fun q9 => by cases q9) dL_acts_187
        · skip
          refine wy_fin (vx_runSW (As := [.ref (z.1 0), .int (nI (n - 1))]) (rest := []) ⟨hx, hb, hml, hown, hts⟩ (d_L_node_x l hls Γ z w h (nI (n - 1)) (nI_m1 (by omega)) (isN_no hn0 hv9 (by omega))) (kcwSW 2 hts kw_L_node mw_436 (rm_le hR (Nat.le_of_ble_eq_true rfl) (Nat.le_of_ble_eq_true rfl))) (kPy_S hK hP hD hXS hXN hS) rfl rfl hl.1 rfl (lv_room (Nat.le_of_ble_eq_true rfl)) dL_acts_184 (by subst hR; exact ⟨Nat.le_of_ble_eq_true rfl, Nat.le_of_ble_eq_true rfl⟩)) hP hD hS (fun r w H locs hw hP hD hS => ?_)
          obtain ⟨rfl, e9⟩ := hw
          rw [← e9] at h
          refine tp_i (y := (-2000001)) (rfl) ?_
          exact hret w hP hS (Or.inl ⟨⟨Or.inl rfl, h⟩, by omega, fun q9 => absurd q9 (by omega)⟩) (fun q9 => by cases q9) dL_acts_187
    · skip
      refine lv_iconst (v := (-1)) hx hb dL_acts_173 (by decide) ?_
      refine lv_goto (tgt := 184) hx hb dL_acts_174 (by decide) ?_
      by_cases hn9 : n < 14
      · skip
        refine wy_fin (vx_runSW (As := [.ref (z.1 0), .int (-1)]) (rest := []) ⟨hx, hb, hml, hown, hts⟩ (d_L_node_e l Γ z w h hn9) (kcwSW 2 hts kw_L_node mw_436 (rm_le hR (Nat.le_of_ble_eq_true rfl) (Nat.le_of_ble_eq_true rfl))) (kPy_S hK hP hD hXS hXN hS) rfl rfl hl.1 rfl (lv_room (Nat.le_of_ble_eq_true rfl)) dL_acts_184 (by subst hR; exact ⟨Nat.le_of_ble_eq_true rfl, Nat.le_of_ble_eq_true rfl⟩)) hP hD hS (fun r w H locs hw hP hD hS => ?_)
        obtain ⟨rfl, h⟩ := hw
        refine tp_i (y := (nI n)) (rfl) ?_
        refine W.widen (k := 1) (n := 6) (Nat.le_of_ble_eq_true rfl) (Nat.le_of_ble_eq_true rfl) ?_
        exact hret w hP hS (Or.inr (Or.inl ⟨by omega, rfl, hn9, _, h⟩)) (fun q9 => by cases q9) dL_acts_187
      · skip
        refine wy_fin (vx_runSW (As := [.ref (z.1 0), .int (-1)]) (rest := []) ⟨hx, hb, hml, hown, hts⟩ (d_L_node_f l hls Γ z w h (by omega)) (kcwSW 2 hts kw_L_node mw_436 (rm_le hR (Nat.le_of_ble_eq_true rfl) (Nat.le_of_ble_eq_true rfl))) (kPy_S hK hP hD hXS hXN hS) rfl rfl hl.1 rfl (lv_room (Nat.le_of_ble_eq_true rfl)) dL_acts_184 (by subst hR; exact ⟨Nat.le_of_ble_eq_true rfl, Nat.le_of_ble_eq_true rfl⟩)) hP hD hS (fun r w H locs hw hP hD hS => ?_)
        obtain ⟨rfl, e9⟩ := hw
        rw [← e9] at h
        refine tp_i (y := (-2000002)) (rfl) ?_
        exact hret w hP hS (Or.inl ⟨⟨Or.inr rfl, h⟩, by omega, fun q9 => absurd q9 (by omega)⟩) (fun q9 => by cases q9) dL_acts_187
  · skip
    refine tp_i (y := nI 14) (congrArg nI hk9) ?_
    refine lv_tableOut (tgt := 166) hx hb dL_acts_9 (by decide) (by decide) ?_
    refine lv_aload_n hx hb dL_acts_166 rfl (lv_at hl 1 rfl) ?_
    refine lv_iload_n hx hb dL_acts_167 rfl (lv_at hl 0 rfl) ?_
    refine lv_iconst (v := (nI 4)) hx hb dL_acts_168 (by decide) ?_
    refine lv_irem hx hb dL_acts_169 (nI_ne0 (by omega) (by omega)) ?_
    refine tp_i (y := (nI ((y / 16) % 4))) (pk_rem (by omega) (by omega) (by omega)) ?_
    refine nb_if_ne (tgt := 177) hx hb (by omega) dL_acts_170 (by decide) (fun c_170 => ?_) (fun c_170 => ?_)
    · skip
      refine lv_aload_n hx hb dL_acts_177 rfl (lv_at hl 1 rfl) ?_
      refine lv_iconst (v := (nI 0)) hx hb dL_acts_178 (by decide) ?_
      refine wy_fin (vx_runSW (As := [.ref (z.1 0), .int (nI 0)]) (rest := [.ref (z.1 0)]) ⟨hx, hb, hml, hown, hts⟩ (d_L_count_a l Γ z w h 0 (by decide)) (kcwSW 2 hts kw_L_count mw_454 (rm_le hR (Nat.le_of_ble_eq_true rfl) (Nat.le_of_ble_eq_true rfl))) (kPy_S hK hP hD hXS hXN hS) rfl rfl hl.1 rfl (lv_room (Nat.le_of_ble_eq_true rfl)) dL_acts_179 (by subst hR; exact ⟨Nat.le_of_ble_eq_true rfl, Nat.le_of_ble_eq_true rfl⟩)) hP hD hS (fun r w H locs hw hP hD hS => ?_)
      obtain ⟨rfl, h⟩ := hw
      refine tp_i (y := (nI n)) (rfl) ?_
      refine lv_iconst (v := (nI 1)) hx hb dL_acts_182 (by decide) ?_
      by_cases hz9 : n = 0
      · skip
        refine lv_isub hx hb dL_acts_183 ?_
        refine tp_i (y := (-1)) (by rw [hz9]; decide) ?_
        by_cases hn9 : n < 14
        · skip
          refine wy_fin (vx_runSW (As := [.ref (z.1 0), .int (-1)]) (rest := []) ⟨hx, hb, hml, hown, hts⟩ (d_L_node_e l Γ z w h hn9) (kcwSW 2 hts kw_L_node mw_436 (rm_le hR (Nat.le_of_ble_eq_true rfl) (Nat.le_of_ble_eq_true rfl))) (kPy_S hK hP hD hXS hXN hS) rfl rfl hl.1 rfl (lv_room (Nat.le_of_ble_eq_true rfl)) dL_acts_184 (by subst hR; exact ⟨Nat.le_of_ble_eq_true rfl, Nat.le_of_ble_eq_true rfl⟩)) hP hD hS (fun r w H locs hw hP hD hS => ?_)
          obtain ⟨rfl, h⟩ := hw
          refine tp_i (y := (nI n)) (rfl) ?_
          refine W.widen (k := 1) (n := 6) (Nat.le_of_ble_eq_true rfl) (Nat.le_of_ble_eq_true rfl) ?_
          exact hret w hP hS (Or.inr (Or.inl ⟨by omega, rfl, hn9, _, h⟩)) (fun q9 => by cases q9) dL_acts_187
        · skip
          refine wy_fin (vx_runSW (As := [.ref (z.1 0), .int (-1)]) (rest := []) ⟨hx, hb, hml, hown, hts⟩ (d_L_node_f l hls Γ z w h (by omega)) (kcwSW 2 hts kw_L_node mw_436 (rm_le hR (Nat.le_of_ble_eq_true rfl) (Nat.le_of_ble_eq_true rfl))) (kPy_S hK hP hD hXS hXN hS) rfl rfl hl.1 rfl (lv_room (Nat.le_of_ble_eq_true rfl)) dL_acts_184 (by subst hR; exact ⟨Nat.le_of_ble_eq_true rfl, Nat.le_of_ble_eq_true rfl⟩)) hP hD hS (fun r w H locs hw hP hD hS => ?_)
          obtain ⟨rfl, e9⟩ := hw
          rw [← e9] at h
          refine tp_i (y := (-2000002)) (rfl) ?_
          exact hret w hP hS (Or.inl ⟨⟨Or.inr rfl, h⟩, by omega, fun q9 => absurd q9 (by omega)⟩) (fun q9 => by cases q9) dL_acts_187
      · skip
        refine lv_isub hx hb dL_acts_183 ?_
        refine tp_i (y := (nI (n - 1))) (ni_sub (by omega)) ?_
        rcases nd_cases n th (n - 1) hn0 with ⟨hn9, hv9, hb9⟩ | ⟨hn9, hv9, hb9⟩ | ⟨hn9, hv9⟩ | hv9
        · skip
          refine wy_fin (vx_runSW (As := [.ref (z.1 0), .int (nI (n - 1))]) (rest := []) ⟨hx, hb, hml, hown, hts⟩ (d_L_node_a l Γ z w h (n - 1) hn9 hv9 hb9) (kcwSW 2 hts kw_L_node mw_436 (rm_le hR (Nat.le_of_ble_eq_true rfl) (Nat.le_of_ble_eq_true rfl))) (kPy_S hK hP hD hXS hXN hS) rfl rfl hl.1 rfl (lv_room (Nat.le_of_ble_eq_true rfl)) dL_acts_184 (by subst hR; exact ⟨Nat.le_of_ble_eq_true rfl, Nat.le_of_ble_eq_true rfl⟩)) hP hD hS (fun r w H locs hw hP hD hS => ?_)
          obtain ⟨rfl, h⟩ := hw
          refine tp_i (y := (nI n)) (rfl) ?_
          refine W.widen (k := 1) (n := 6) (Nat.le_of_ble_eq_true rfl) (Nat.le_of_ble_eq_true rfl) ?_
          exact hret w hP hS (Or.inr (Or.inl ⟨by omega, rfl, hn9, _, h⟩)) (fun q9 => by cases q9) dL_acts_187
        · skip
          refine wy_fin (vx_runSW (As := [.ref (z.1 0), .int (nI (n - 1))]) (rest := []) ⟨hx, hb, hml, hown, hts⟩ (d_L_node_t l hls Γ z w h (n - 1) hn9 hv9 hb9) (kcwSW 2 hts kw_L_node mw_436 (rm_le hR (Nat.le_of_ble_eq_true rfl) (Nat.le_of_ble_eq_true rfl))) (kPy_S hK hP hD hXS hXN hS) rfl rfl hl.1 rfl (lv_room (Nat.le_of_ble_eq_true rfl)) dL_acts_184 (by subst hR; exact ⟨Nat.le_of_ble_eq_true rfl, Nat.le_of_ble_eq_true rfl⟩)) hP hD hS (fun r w H locs hw hP hD hS => ?_)
          obtain ⟨rfl, e9⟩ := hw
          rw [← e9] at h
          refine tp_i (y := (-2000002)) (rfl) ?_
          exact hret w hP hS (Or.inl ⟨⟨Or.inr rfl, h⟩, by omega, fun q9 => absurd q9 (by omega)⟩) (fun q9 => by cases q9) dL_acts_187
        · skip
          refine wy_fin (vx_runSW (As := [.ref (z.1 0), .int (nI (n - 1))]) (rest := []) ⟨hx, hb, hml, hown, hts⟩ (d_L_node_g l hls Γ z w h (n - 1) hn9 hv9) (kcwSW 2 hts kw_L_node mw_436 (rm_le hR (Nat.le_of_ble_eq_true rfl) (Nat.le_of_ble_eq_true rfl))) (kPy_S hK hP hD hXS hXN hS) rfl rfl hl.1 rfl (lv_room (Nat.le_of_ble_eq_true rfl)) dL_acts_184 (by subst hR; exact ⟨Nat.le_of_ble_eq_true rfl, Nat.le_of_ble_eq_true rfl⟩)) hP hD hS (fun r w H locs hw hP hD hS => ?_)
          obtain ⟨rfl, e9⟩ := hw
          rw [← e9] at h
          refine tp_i (y := (-2000002)) (rfl) ?_
          exact hret w hP hS (Or.inl ⟨⟨Or.inr rfl, h⟩, by omega, fun q9 => absurd q9 (by omega)⟩) (fun q9 => by cases q9) dL_acts_187
        · skip
          refine wy_fin (vx_runSW (As := [.ref (z.1 0), .int (nI (n - 1))]) (rest := []) ⟨hx, hb, hml, hown, hts⟩ (d_L_node_x l hls Γ z w h (nI (n - 1)) (nI_m1 (by omega)) (isN_no hn0 hv9 (by omega))) (kcwSW 2 hts kw_L_node mw_436 (rm_le hR (Nat.le_of_ble_eq_true rfl) (Nat.le_of_ble_eq_true rfl))) (kPy_S hK hP hD hXS hXN hS) rfl rfl hl.1 rfl (lv_room (Nat.le_of_ble_eq_true rfl)) dL_acts_184 (by subst hR; exact ⟨Nat.le_of_ble_eq_true rfl, Nat.le_of_ble_eq_true rfl⟩)) hP hD hS (fun r w H locs hw hP hD hS => ?_)
          obtain ⟨rfl, e9⟩ := hw
          rw [← e9] at h
          refine tp_i (y := (-2000001)) (rfl) ?_
          exact hret w hP hS (Or.inl ⟨⟨Or.inl rfl, h⟩, by omega, fun q9 => absurd q9 (by omega)⟩) (fun q9 => by cases q9) dL_acts_187
    · skip
      refine lv_iconst (v := (-1)) hx hb dL_acts_173 (by decide) ?_
      refine lv_goto (tgt := 184) hx hb dL_acts_174 (by decide) ?_
      by_cases hn9 : n < 14
      · skip
        refine wy_fin (vx_runSW (As := [.ref (z.1 0), .int (-1)]) (rest := []) ⟨hx, hb, hml, hown, hts⟩ (d_L_node_e l Γ z w h hn9) (kcwSW 2 hts kw_L_node mw_436 (rm_le hR (Nat.le_of_ble_eq_true rfl) (Nat.le_of_ble_eq_true rfl))) (kPy_S hK hP hD hXS hXN hS) rfl rfl hl.1 rfl (lv_room (Nat.le_of_ble_eq_true rfl)) dL_acts_184 (by subst hR; exact ⟨Nat.le_of_ble_eq_true rfl, Nat.le_of_ble_eq_true rfl⟩)) hP hD hS (fun r w H locs hw hP hD hS => ?_)
        obtain ⟨rfl, h⟩ := hw
        refine tp_i (y := (nI n)) (rfl) ?_
        refine W.widen (k := 1) (n := 6) (Nat.le_of_ble_eq_true rfl) (Nat.le_of_ble_eq_true rfl) ?_
        exact hret w hP hS (Or.inr (Or.inl ⟨by omega, rfl, hn9, _, h⟩)) (fun q9 => by cases q9) dL_acts_187
      · skip
        refine wy_fin (vx_runSW (As := [.ref (z.1 0), .int (-1)]) (rest := []) ⟨hx, hb, hml, hown, hts⟩ (d_L_node_f l hls Γ z w h (by omega)) (kcwSW 2 hts kw_L_node mw_436 (rm_le hR (Nat.le_of_ble_eq_true rfl) (Nat.le_of_ble_eq_true rfl))) (kPy_S hK hP hD hXS hXN hS) rfl rfl hl.1 rfl (lv_room (Nat.le_of_ble_eq_true rfl)) dL_acts_184 (by subst hR; exact ⟨Nat.le_of_ble_eq_true rfl, Nat.le_of_ble_eq_true rfl⟩)) hP hD hS (fun r w H locs hw hP hD hS => ?_)
        obtain ⟨rfl, e9⟩ := hw
        rw [← e9] at h
        refine tp_i (y := (-2000002)) (rfl) ?_
        exact hret w hP hS (Or.inl ⟨⟨Or.inr rfl, h⟩, by omega, fun q9 => absurd q9 (by omega)⟩) (fun q9 => by cases q9) dL_acts_187
  · skip
    refine tp_i (y := nI 15) (congrArg nI hk9) ?_
    refine lv_tableOut (tgt := 166) hx hb dL_acts_9 (by decide) (by decide) ?_
    refine lv_aload_n hx hb dL_acts_166 rfl (lv_at hl 1 rfl) ?_
    refine lv_iload_n hx hb dL_acts_167 rfl (lv_at hl 0 rfl) ?_
    refine lv_iconst (v := (nI 4)) hx hb dL_acts_168 (by decide) ?_
    refine lv_irem hx hb dL_acts_169 (nI_ne0 (by omega) (by omega)) ?_
    refine tp_i (y := (nI ((y / 16) % 4))) (pk_rem (by omega) (by omega) (by omega)) ?_
    refine nb_if_ne (tgt := 177) hx hb (by omega) dL_acts_170 (by decide) (fun c_170 => ?_) (fun c_170 => ?_)
    · skip
      refine lv_aload_n hx hb dL_acts_177 rfl (lv_at hl 1 rfl) ?_
      refine lv_iconst (v := (nI 0)) hx hb dL_acts_178 (by decide) ?_
      refine wy_fin (vx_runSW (As := [.ref (z.1 0), .int (nI 0)]) (rest := [.ref (z.1 0)]) ⟨hx, hb, hml, hown, hts⟩ (d_L_count_a l Γ z w h 0 (by decide)) (kcwSW 2 hts kw_L_count mw_454 (rm_le hR (Nat.le_of_ble_eq_true rfl) (Nat.le_of_ble_eq_true rfl))) (kPy_S hK hP hD hXS hXN hS) rfl rfl hl.1 rfl (lv_room (Nat.le_of_ble_eq_true rfl)) dL_acts_179 (by subst hR; exact ⟨Nat.le_of_ble_eq_true rfl, Nat.le_of_ble_eq_true rfl⟩)) hP hD hS (fun r w H locs hw hP hD hS => ?_)
      obtain ⟨rfl, h⟩ := hw
      refine tp_i (y := (nI n)) (rfl) ?_
      refine lv_iconst (v := (nI 1)) hx hb dL_acts_182 (by decide) ?_
      by_cases hz9 : n = 0
      · skip
        refine lv_isub hx hb dL_acts_183 ?_
        refine tp_i (y := (-1)) (by rw [hz9]; decide) ?_
        by_cases hn9 : n < 14
        · skip
          refine wy_fin (vx_runSW (As := [.ref (z.1 0), .int (-1)]) (rest := []) ⟨hx, hb, hml, hown, hts⟩ (d_L_node_e l Γ z w h hn9) (kcwSW 2 hts kw_L_node mw_436 (rm_le hR (Nat.le_of_ble_eq_true rfl) (Nat.le_of_ble_eq_true rfl))) (kPy_S hK hP hD hXS hXN hS) rfl rfl hl.1 rfl (lv_room (Nat.le_of_ble_eq_true rfl)) dL_acts_184 (by subst hR; exact ⟨Nat.le_of_ble_eq_true rfl, Nat.le_of_ble_eq_true rfl⟩)) hP hD hS (fun r w H locs hw hP hD hS => ?_)
          obtain ⟨rfl, h⟩ := hw
          refine tp_i (y := (nI n)) (rfl) ?_
          refine W.widen (k := 1) (n := 6) (Nat.le_of_ble_eq_true rfl) (Nat.le_of_ble_eq_true rfl) ?_
          exact hret w hP hS (Or.inr (Or.inl ⟨by omega, rfl, hn9, _, h⟩)) (fun q9 => by cases q9) dL_acts_187
        · skip
          refine wy_fin (vx_runSW (As := [.ref (z.1 0), .int (-1)]) (rest := []) ⟨hx, hb, hml, hown, hts⟩ (d_L_node_f l hls Γ z w h (by omega)) (kcwSW 2 hts kw_L_node mw_436 (rm_le hR (Nat.le_of_ble_eq_true rfl) (Nat.le_of_ble_eq_true rfl))) (kPy_S hK hP hD hXS hXN hS) rfl rfl hl.1 rfl (lv_room (Nat.le_of_ble_eq_true rfl)) dL_acts_184 (by subst hR; exact ⟨Nat.le_of_ble_eq_true rfl, Nat.le_of_ble_eq_true rfl⟩)) hP hD hS (fun r w H locs hw hP hD hS => ?_)
          obtain ⟨rfl, e9⟩ := hw
          rw [← e9] at h
          refine tp_i (y := (-2000002)) (rfl) ?_
          exact hret w hP hS (Or.inl ⟨⟨Or.inr rfl, h⟩, by omega, fun q9 => absurd q9 (by omega)⟩) (fun q9 => by cases q9) dL_acts_187
      · skip
        refine lv_isub hx hb dL_acts_183 ?_
        refine tp_i (y := (nI (n - 1))) (ni_sub (by omega)) ?_
        rcases nd_cases n th (n - 1) hn0 with ⟨hn9, hv9, hb9⟩ | ⟨hn9, hv9, hb9⟩ | ⟨hn9, hv9⟩ | hv9
        · skip
          refine wy_fin (vx_runSW (As := [.ref (z.1 0), .int (nI (n - 1))]) (rest := []) ⟨hx, hb, hml, hown, hts⟩ (d_L_node_a l Γ z w h (n - 1) hn9 hv9 hb9) (kcwSW 2 hts kw_L_node mw_436 (rm_le hR (Nat.le_of_ble_eq_true rfl) (Nat.le_of_ble_eq_true rfl))) (kPy_S hK hP hD hXS hXN hS) rfl rfl hl.1 rfl (lv_room (Nat.le_of_ble_eq_true rfl)) dL_acts_184 (by subst hR; exact ⟨Nat.le_of_ble_eq_true rfl, Nat.le_of_ble_eq_true rfl⟩)) hP hD hS (fun r w H locs hw hP hD hS => ?_)
          obtain ⟨rfl, h⟩ := hw
          refine tp_i (y := (nI n)) (rfl) ?_
          refine W.widen (k := 1) (n := 6) (Nat.le_of_ble_eq_true rfl) (Nat.le_of_ble_eq_true rfl) ?_
          exact hret w hP hS (Or.inr (Or.inl ⟨by omega, rfl, hn9, _, h⟩)) (fun q9 => by cases q9) dL_acts_187
        · skip
          refine wy_fin (vx_runSW (As := [.ref (z.1 0), .int (nI (n - 1))]) (rest := []) ⟨hx, hb, hml, hown, hts⟩ (d_L_node_t l hls Γ z w h (n - 1) hn9 hv9 hb9) (kcwSW 2 hts kw_L_node mw_436 (rm_le hR (Nat.le_of_ble_eq_true rfl) (Nat.le_of_ble_eq_true rfl))) (kPy_S hK hP hD hXS hXN hS) rfl rfl hl.1 rfl (lv_room (Nat.le_of_ble_eq_true rfl)) dL_acts_184 (by subst hR; exact ⟨Nat.le_of_ble_eq_true rfl, Nat.le_of_ble_eq_true rfl⟩)) hP hD hS (fun r w H locs hw hP hD hS => ?_)
          obtain ⟨rfl, e9⟩ := hw
          rw [← e9] at h
          refine tp_i (y := (-2000002)) (rfl) ?_
          exact hret w hP hS (Or.inl ⟨⟨Or.inr rfl, h⟩, by omega, fun q9 => absurd q9 (by omega)⟩) (fun q9 => by cases q9) dL_acts_187
        · skip
          refine wy_fin (vx_runSW (As := [.ref (z.1 0), .int (nI (n - 1))]) (rest := []) ⟨hx, hb, hml, hown, hts⟩ (d_L_node_g l hls Γ z w h (n - 1) hn9 hv9) (kcwSW 2 hts kw_L_node mw_436 (rm_le hR (Nat.le_of_ble_eq_true rfl) (Nat.le_of_ble_eq_true rfl))) (kPy_S hK hP hD hXS hXN hS) rfl rfl hl.1 rfl (lv_room (Nat.le_of_ble_eq_true rfl)) dL_acts_184 (by subst hR; exact ⟨Nat.le_of_ble_eq_true rfl, Nat.le_of_ble_eq_true rfl⟩)) hP hD hS (fun r w H locs hw hP hD hS => ?_)
          obtain ⟨rfl, e9⟩ := hw
          rw [← e9] at h
          refine tp_i (y := (-2000002)) (rfl) ?_
          exact hret w hP hS (Or.inl ⟨⟨Or.inr rfl, h⟩, by omega, fun q9 => absurd q9 (by omega)⟩) (fun q9 => by cases q9) dL_acts_187
        · skip
          refine wy_fin (vx_runSW (As := [.ref (z.1 0), .int (nI (n - 1))]) (rest := []) ⟨hx, hb, hml, hown, hts⟩ (d_L_node_x l hls Γ z w h (nI (n - 1)) (nI_m1 (by omega)) (isN_no hn0 hv9 (by omega))) (kcwSW 2 hts kw_L_node mw_436 (rm_le hR (Nat.le_of_ble_eq_true rfl) (Nat.le_of_ble_eq_true rfl))) (kPy_S hK hP hD hXS hXN hS) rfl rfl hl.1 rfl (lv_room (Nat.le_of_ble_eq_true rfl)) dL_acts_184 (by subst hR; exact ⟨Nat.le_of_ble_eq_true rfl, Nat.le_of_ble_eq_true rfl⟩)) hP hD hS (fun r w H locs hw hP hD hS => ?_)
          obtain ⟨rfl, e9⟩ := hw
          rw [← e9] at h
          refine tp_i (y := (-2000001)) (rfl) ?_
          exact hret w hP hS (Or.inl ⟨⟨Or.inl rfl, h⟩, by omega, fun q9 => absurd q9 (by omega)⟩) (fun q9 => by cases q9) dL_acts_187
    · skip
      refine lv_iconst (v := (-1)) hx hb dL_acts_173 (by decide) ?_
      refine lv_goto (tgt := 184) hx hb dL_acts_174 (by decide) ?_
      by_cases hn9 : n < 14
      · skip
        refine wy_fin (vx_runSW (As := [.ref (z.1 0), .int (-1)]) (rest := []) ⟨hx, hb, hml, hown, hts⟩ (d_L_node_e l Γ z w h hn9) (kcwSW 2 hts kw_L_node mw_436 (rm_le hR (Nat.le_of_ble_eq_true rfl) (Nat.le_of_ble_eq_true rfl))) (kPy_S hK hP hD hXS hXN hS) rfl rfl hl.1 rfl (lv_room (Nat.le_of_ble_eq_true rfl)) dL_acts_184 (by subst hR; exact ⟨Nat.le_of_ble_eq_true rfl, Nat.le_of_ble_eq_true rfl⟩)) hP hD hS (fun r w H locs hw hP hD hS => ?_)
        obtain ⟨rfl, h⟩ := hw
        refine tp_i (y := (nI n)) (rfl) ?_
        refine W.widen (k := 1) (n := 6) (Nat.le_of_ble_eq_true rfl) (Nat.le_of_ble_eq_true rfl) ?_
        exact hret w hP hS (Or.inr (Or.inl ⟨by omega, rfl, hn9, _, h⟩)) (fun q9 => by cases q9) dL_acts_187
      · skip
        refine wy_fin (vx_runSW (As := [.ref (z.1 0), .int (-1)]) (rest := []) ⟨hx, hb, hml, hown, hts⟩ (d_L_node_f l hls Γ z w h (by omega)) (kcwSW 2 hts kw_L_node mw_436 (rm_le hR (Nat.le_of_ble_eq_true rfl) (Nat.le_of_ble_eq_true rfl))) (kPy_S hK hP hD hXS hXN hS) rfl rfl hl.1 rfl (lv_room (Nat.le_of_ble_eq_true rfl)) dL_acts_184 (by subst hR; exact ⟨Nat.le_of_ble_eq_true rfl, Nat.le_of_ble_eq_true rfl⟩)) hP hD hS (fun r w H locs hw hP hD hS => ?_)
        obtain ⟨rfl, e9⟩ := hw
        rw [← e9] at h
        refine tp_i (y := (-2000002)) (rfl) ?_
        exact hret w hP hS (Or.inl ⟨⟨Or.inr rfl, h⟩, by omega, fun q9 => absurd q9 (by omega)⟩) (fun q9 => by cases q9) dL_acts_187
