set_option maxHeartbeats 4000000 in
set_option maxRecDepth 100000 in
theorem d_L_count_a (l : Launch) (Γ : kG) (z : tAD) (w : tST) {n th mv : Nat} {g : Nat → Nat} {k : Nat} (h : OKW n th mv g k w) (w0 : Nat) (hw0 : w0 < 12) : WY l yL_count (wsw yL_count cL_count 3 (some .int) [(0, 5, 6, 38)]) (rmL 39) Γ z [.ref (z.1 0), .int (nI w0)] w 0 0 (fun r w' => r = (cnT g th n mv k w0) ∧ OKW n th mv g k w') := by
  obtain ⟨cu, ⟨ho0, hs0, fn, ft, fm, fg⟩, ⟨sz0, tx⟩, ⟨sn, sh, sm9, sG, kp⟩, ⟨og, ff, cf, pg, pf, jg⟩⟩ := w
  obtain ⟨e1, e2, hC, hho, hhs, hT, hSl, hKa⟩ := h
  obtain rfl : cu = (n, th, mv, g) := e1
  obtain rfl : hs0 = k := e2
  exact wri_up (c_L_count_a l Γ (z.1 0) (z.1 4) (z.1 5) (z.1 6) (z.1 8) (z.1 10) (z.1 12) (z.1 16) (z.1 20) (z.1 1) n th mv (z.1 2) (z.1 3) g (z.1 13) (z.1 14) (z.1 15) og ff (z.1 11) cf (z.1 7) ho0 hs0 w0 (hC.1) (hC.2.1) (hC.2.2.1) (hKa.1.2) (hKa.1.1) (hw0)) [0, 1, 2, 3, 28, 29, 30, 31, 26, 27, 4] rfl rfl (fun _ => rfl) (fun u => ((n, th, mv, g), (ho0, hs0, fn, ft, fm, fg), (sz0, tx), (sn, sh, sm9, sG, kp), (u.1, u.2.1, u.2.2, pg, pf, jg))) (fun u => by simp only [kU, LW, List.set]) (fun r u hp => ⟨hp.1, ⟨rfl, rfl, hC, hho, hhs, hT, hSl, ⟨⟨hp.2.1, hp.2.2⟩, hKa.2⟩⟩⟩)
set_option maxHeartbeats 4000000 in
set_option maxRecDepth 100000 in
theorem d_L_tree_a (l : Launch) (Γ : kG) (z : tAD) (w : tST) {n th mv : Nat} {g : Nat → Nat} {k : Nat} (h : OKW n th mv g k w) (t0 : Nat) (w0 : Nat) (ht0 : t0 < trC g th) (hw0 : w0 < 6) : WY l yL_treeOf (wsw yL_treeOf cL_treeOf 4 (some .int) [(0, 6, 7, 15), (0, 6, 11, 38)]) (rmL 38) Γ z [.ref (z.1 0), .int (nI t0), .int (nI w0)] w 0 0 (fun r w' => r = (tvT g th t0 w0) ∧ OKW n th mv g k w') := by
  obtain ⟨cu, ⟨ho0, hs0, fn, ft, fm, fg⟩, ⟨sz0, tx⟩, ⟨sn, sh, sm9, sG, kp⟩, ⟨og, ff, cf, pg, pf, jg⟩⟩ := w
  obtain ⟨e1, e2, hC, hho, hhs, hT, hSl, hKa⟩ := h
  obtain rfl : cu = (n, th, mv, g) := e1
  obtain rfl : hs0 = k := e2
  exact wri_up (c_L_tree_a l Γ (z.1 0) (z.1 4) (z.1 5) (z.1 6) (z.1 8) (z.1 10) (z.1 12) (z.1 16) (z.1 20) (z.1 1) n th mv (z.1 2) (z.1 3) g (z.1 13) (z.1 14) (z.1 15) og ff (z.1 11) cf t0 w0 (hC.1) (hC.2.1) (hC.2.2.1) (hKa.1.2) (hKa.1.1) (ht0) (hw0)) [0, 1, 2, 3, 28, 29, 30, 31, 26, 27] rfl rfl (fun _ => rfl) (fun u => ((n, th, mv, g), (ho0, hs0, fn, ft, fm, fg), (sz0, tx), (sn, sh, sm9, sG, kp), (u.1, u.2.1, u.2.2, pg, pf, jg))) (fun u => by simp only [kU, LW, List.set]) (fun r u hp => ⟨hp.1, ⟨rfl, rfl, hC, hho, hhs, hT, hSl, ⟨⟨hp.2.1, hp.2.2⟩, hKa.2⟩⟩⟩)
set_option maxHeartbeats 4000000 in
set_option maxRecDepth 100000 in
theorem d_L_nodeOf_a (l : Launch) (Γ : kG) (z : tAD) (w : tST) {n th mv : Nat} {g : Nat → Nat} {k : Nat} (h : OKW n th mv g k w) (v0 : Nat) (w0 : Nat) (hv0 : v0 < n) (hw0 : w0 < 6) : WY l yL_nodeOf (wsw yL_nodeOf cL_nodeOf 4 (some .int) [(0, 6, 7, 15), (0, 6, 11, 38)]) (rmL 38) Γ z [.ref (z.1 0), .int (nI v0), .int (nI w0)] w 0 0 (fun r w' => r = (ndT g th v0 w0) ∧ OKW n th mv g k w') := by
  obtain ⟨cu, ⟨ho0, hs0, fn, ft, fm, fg⟩, ⟨sz0, tx⟩, ⟨sn, sh, sm9, sG, kp⟩, ⟨og, ff, cf, pg, pf, jg⟩⟩ := w
  obtain ⟨e1, e2, hC, hho, hhs, hT, hSl, hKa⟩ := h
  obtain rfl : cu = (n, th, mv, g) := e1
  obtain rfl : hs0 = k := e2
  exact wri_up (c_L_nodeOf_a l Γ (z.1 0) (z.1 4) (z.1 5) (z.1 6) (z.1 8) (z.1 10) (z.1 12) (z.1 16) (z.1 20) (z.1 1) n th mv (z.1 2) (z.1 3) g (z.1 13) (z.1 14) (z.1 15) og ff v0 w0 (hC.1) (hC.2.1) (hC.2.2.1) (hKa.1.2) (hKa.1.1) (hv0) (hw0)) [0, 1, 2, 3, 28, 29, 30, 31] rfl rfl (fun _ => rfl) (fun u => ((n, th, mv, g), (ho0, hs0, fn, ft, fm, fg), (sz0, tx), (sn, sh, sm9, sG, kp), (u.1, u.2, cf, pg, pf, jg))) (fun u => by simp only [kU, LW, List.set]) (fun r u hp => ⟨hp.1, ⟨rfl, rfl, hC, hho, hhs, hT, hSl, ⟨⟨hp.2.1, hp.2.2⟩, hKa.2⟩⟩⟩)
set_option maxHeartbeats 4000000 in
set_option maxRecDepth 100000 in
theorem d_L_mirror_a (l : Launch) (Γ : kG) (z : tAD) (w : tST) {n th mv : Nat} {g : Nat → Nat} {k : Nat} (h : OKW n th mv g k w) (R0 : Int32) (hx0 : ¬ R0 < 0) : WY l yL_mirror (wsw yL_mirror cL_mirror 3 (some .int) [(0, 5, 6, 38)]) (rmL 22) Γ z [.ref (z.1 0), .int R0] w 0 0 (fun r w' => r = (mrC g th n R0) ∧ OKW n th mv g k w') := by
  obtain ⟨cu, ⟨ho0, hs0, fn, ft, fm, fg⟩, ⟨sz0, tx⟩, ⟨sn, sh, sm9, sG, kp⟩, ⟨og, ff, cf, pg, pf, jg⟩⟩ := w
  obtain ⟨e1, e2, hC, hho, hhs, hT, hSl, hKa⟩ := h
  obtain rfl : cu = (n, th, mv, g) := e1
  obtain rfl : hs0 = k := e2
  exact wri_up (c_L_mirror_a l Γ (z.1 0) (z.1 4) (z.1 5) (z.1 6) (z.1 8) (z.1 10) (z.1 12) (z.1 16) (z.1 20) (z.1 1) n th mv (z.1 2) (z.1 3) g (z.1 11) cf R0 (hC.1) (hC.2.1) (hC.2.2.1) (hx0)) [0, 1, 2, 3, 26, 27] rfl rfl (fun _ => rfl) (fun u => ((n, th, mv, g), (ho0, hs0, fn, ft, fm, fg), (sz0, tx), (sn, sh, sm9, sG, kp), (og, ff, u, pg, pf, jg))) (fun u => by simp only [kU, LW, List.set]) (fun r u hp => ⟨hp, ⟨rfl, rfl, hC, hho, hhs, hT, hSl, hKa⟩⟩)
set_option maxHeartbeats 4000000 in
set_option maxRecDepth 100000 in
theorem d_L_ifJoined_n (l : Launch) (Γ : kG) (z : tAD) (w : tST) {n th mv : Nat} {g : Nat → Nat} {k : Nat} (h : OKW n th mv g k w) (i0 : Nat) (j0 : Nat) (hi0 : i0 < n) (hj0 : j0 < n) (hc : cjB g th n i0 j0 = false) : WY l yL_ifJoined (wsw yL_ifJoined cL_ifJoined 4 (some .int) [(0, 6, 7, 15)]) (rmL 7) Γ z [.ref (z.1 0), .int (nI i0), .int (nI j0)] w 0 0 (fun r w' => r = (-1) ∧ OKW n th mv g k w') := by
  obtain ⟨cu, ⟨ho0, hs0, fn, ft, fm, fg⟩, ⟨sz0, tx⟩, ⟨sn, sh, sm9, sG, kp⟩, ⟨og, ff, cf, pg, pf, jg⟩⟩ := w
  obtain ⟨e1, e2, hC, hho, hhs, hT, hSl, hKa⟩ := h
  obtain rfl : cu = (n, th, mv, g) := e1
  obtain rfl : hs0 = k := e2
  exact wri_up (c_L_ifJoined_n l Γ (z.1 0) (z.1 4) (z.1 5) (z.1 6) (z.1 8) (z.1 10) (z.1 12) (z.1 16) (z.1 20) (z.1 1) n th mv (z.1 2) (z.1 3) g i0 j0 (hC.1) (hC.2.1) (hC.2.2.1) (hi0) (hj0) (hc)) [0, 1, 2, 3] rfl rfl (fun _ => rfl) (fun u => ((n, th, mv, g), (ho0, hs0, fn, ft, fm, fg), (sz0, tx), (sn, sh, sm9, sG, kp), (og, ff, cf, pg, pf, jg))) (fun u => by simp only [kU, LW, List.set]) (fun r u hp => ⟨hp, ⟨rfl, rfl, hC, hho, hhs, hT, hSl, hKa⟩⟩)
set_option maxHeartbeats 4000000 in
set_option maxRecDepth 100000 in
theorem d_L_ifJoined_a (l : Launch) (Γ : kG) (z : tAD) (w : tST) {n th mv : Nat} {g : Nat → Nat} {k : Nat} (h : OKW n th mv g k w) (i0 : Nat) (j0 : Nat) (hi0 : i0 < n) (hj0 : j0 < n) (hc : cjB g th n i0 j0 = true) : WY l yL_ifJoined (wsw yL_ifJoined cL_ifJoined 4 (some .int) [(0, 6, 7, 15)]) (rmL 37) Γ z [.ref (z.1 0), .int (nI i0), .int (nI j0)] w 0 0 (fun r w' => r = (nI (V (lk2 g i0 j0 true) th)) ∧ OKW n th mv g k w') := by
  obtain ⟨cu, ⟨ho0, hs0, fn, ft, fm, fg⟩, ⟨sz0, tx⟩, ⟨sn, sh, sm9, sG, kp⟩, ⟨og, ff, cf, pg, pf, jg⟩⟩ := w
  obtain ⟨e1, e2, hC, hho, hhs, hT, hSl, hKa⟩ := h
  obtain rfl : cu = (n, th, mv, g) := e1
  obtain rfl : hs0 = k := e2
  exact wri_up (c_L_ifJoined_a l Γ (z.1 0) (z.1 4) (z.1 5) (z.1 6) (z.1 8) (z.1 10) (z.1 12) (z.1 16) (z.1 20) (z.1 1) n th mv (z.1 2) (z.1 3) g (z.1 17) (z.1 18) (z.1 19) (z.1 21) pg pf jg i0 j0 (hC.1) (hC.2.1) (hC.2.2.1) (hKa.2.2) (hKa.2.1) (hi0) (hj0) (hc)) [0, 1, 2, 3, 32, 33, 34, 35, 36, 37] rfl rfl (fun _ => rfl) (fun u => ((n, th, mv, g), (ho0, hs0, fn, ft, fm, fg), (sz0, tx), (sn, sh, sm9, sG, kp), (og, ff, cf, u.1, u.2.1, u.2.2))) (fun u => by simp only [kU, LW, List.set]) (fun r u hp => ⟨hp.1, ⟨rfl, rfl, hC, hho, hhs, hT, hSl, ⟨hKa.1, hp.2.1, hp.2.2⟩⟩⟩)
set_option maxHeartbeats 4000000 in
set_option maxRecDepth 100000 in
theorem d_L_value_a (l : Launch) (Γ : kG) (z : tAD) (w : tST) {n th mv : Nat} {g : Nat → Nat} {k : Nat} (h : OKW n th mv g k w) (m0 : Nat) (hm0 : sd m0 th = 0) (hm9 : m0 < 16384) : WY l yL_value (wsw yL_value cL_value 3 (some .int) [(0, 5, 6, 38)]) (rmL 38) Γ z [.ref (z.1 0), .int (nI m0)] w 0 0 (fun r w' => r = (nI (V g m0)) ∧ OKW n th mv g k w') := by
  obtain ⟨cu, ⟨ho0, hs0, fn, ft, fm, fg⟩, ⟨sz0, tx⟩, ⟨sn, sh, sm9, sG, kp⟩, ⟨og, ff, cf, pg, pf, jg⟩⟩ := w
  obtain ⟨e1, e2, hC, hho, hhs, hT, hSl, hKa⟩ := h
  obtain rfl : cu = (n, th, mv, g) := e1
  obtain rfl : hs0 = k := e2
  exact wri_up (c_L_value_a l Γ (z.1 0) (z.1 4) (z.1 5) (z.1 6) (z.1 8) (z.1 10) (z.1 12) (z.1 16) (z.1 20) (z.1 1) n th mv (z.1 2) (z.1 3) g (z.1 13) (z.1 14) (z.1 15) og ff m0 (hC.1) (hC.2.1) (hC.2.2.1) (hKa.1.2) (hKa.1.1) (hm0) (hm9)) [0, 1, 2, 3, 28, 29, 30, 31] rfl rfl (fun _ => rfl) (fun u => ((n, th, mv, g), (ho0, hs0, fn, ft, fm, fg), (sz0, tx), (sn, sh, sm9, sG, kp), (u.1, u.2, cf, pg, pf, jg))) (fun u => by simp only [kU, LW, List.set]) (fun r u hp => ⟨hp.1, ⟨rfl, rfl, hC, hho, hhs, hT, hSl, ⟨⟨hp.2.1, hp.2.2⟩, hKa.2⟩⟩⟩)
set_option maxHeartbeats 4000000 in
set_option maxRecDepth 100000 in
theorem d_X6_best (l : Launch) (Γ : kG) (z : tAD) (w : tST) {n th mv : Nat} {g : Nat → Nat} {k : Nat} (h : OKW n th mv g k w)   : WY l yX6_best (wsq yX6_best cX6_best 1 (some .int)) (rmL 38) Γ z [.ref (z.1 0)] w 0 0 (fun r w' => r = (bst (wnP g th) n) ∧ OKW n th mv g k w') := by
  obtain ⟨cu, ⟨ho0, hs0, fn, ft, fm, fg⟩, ⟨sz0, tx⟩, ⟨sn, sh, sm9, sG, kp⟩, ⟨og, ff, cf, pg, pf, jg⟩⟩ := w
  obtain ⟨e1, e2, hC, hho, hhs, hT, hSl, hKa⟩ := h
  obtain rfl : cu = (n, th, mv, g) := e1
  obtain rfl : hs0 = k := e2
  exact wri_up (c_X6_best l Γ (z.1 0) (z.1 4) (z.1 5) (z.1 6) (z.1 8) (z.1 10) (z.1 12) (z.1 16) (z.1 20) (z.1 1) n th mv (z.1 2) (z.1 3) g (z.1 13) (z.1 14) (z.1 15) og ff (hC.1) (hC.2.1) (hC.2.2.1) (hKa.1.2) (hKa.1.1)) [0, 1, 2, 3, 28, 29, 30, 31] rfl rfl (fun _ => rfl) (fun u => ((n, th, mv, g), (ho0, hs0, fn, ft, fm, fg), (sz0, tx), (sn, sh, sm9, sG, kp), (u.1, u.2, cf, pg, pf, jg))) (fun u => by simp only [kU, LW, List.set]) (fun r u hp => ⟨hp.1, ⟨rfl, rfl, hC, hho, hhs, hT, hSl, ⟨⟨hp.2.1, hp.2.2⟩, hKa.2⟩⟩⟩)
set_option maxHeartbeats 4000000 in
set_option maxRecDepth 100000 in
theorem d_X6_length (l : Launch) (Γ : kG) (z : tAD) (w : tST) {n th mv : Nat} {g : Nat → Nat} {k : Nat} (h : OKW n th mv g k w) (b1 : Bool)  : WY l yX6_length (wsq yX6_length cX6_length 2 (some .int)) (rmL 37) Γ z [.ref (z.1 0), .int (bI b1)] w 0 0 (fun r w' => r = (nI (laS b1 g th)) ∧ OKW n th mv g k w') := by
  obtain ⟨cu, ⟨ho0, hs0, fn, ft, fm, fg⟩, ⟨sz0, tx⟩, ⟨sn, sh, sm9, sG, kp⟩, ⟨og, ff, cf, pg, pf, jg⟩⟩ := w
  obtain ⟨e1, e2, hC, hho, hhs, hT, hSl, hKa⟩ := h
  obtain rfl : cu = (n, th, mv, g) := e1
  obtain rfl : hs0 = k := e2
  exact wri_up (c_X6_length l Γ (z.1 0) (z.1 4) (z.1 5) (z.1 6) (z.1 8) (z.1 10) (z.1 12) (z.1 16) (z.1 20) (z.1 1) n th mv (z.1 2) (z.1 3) g (z.1 13) (z.1 14) (z.1 15) og ff b1 (hC.1) (hC.2.1) (hC.2.2.1) (hKa.1.2) (hKa.1.1)) [0, 1, 2, 3, 28, 29, 30, 31] rfl rfl (fun _ => rfl) (fun u => ((n, th, mv, g), (ho0, hs0, fn, ft, fm, fg), (sz0, tx), (sn, sh, sm9, sG, kp), (u.1, u.2, cf, pg, pf, jg))) (fun u => by simp only [kU, LW, List.set]) (fun r u hp => ⟨hp.1, ⟨rfl, rfl, hC, hho, hhs, hT, hSl, ⟨⟨hp.2.1, hp.2.2⟩, hKa.2⟩⟩⟩)
set_option maxHeartbeats 4000000 in
set_option maxRecDepth 100000 in
theorem d_L_node_e (l : Launch) (Γ : kG) (z : tAD) (w : tST) {n th mv : Nat} {g : Nat → Nat} {k : Nat} (h : OKW n th mv g k w)  (hn1 : n < 14) : WY l yL_node (wsw yL_node cL_node 3 (some .int) [(0, 5, 6, 15), (0, 5, 10, 18)]) (rmL 7) Γ z [.ref (z.1 0), .int (-1)] w 0 0 (fun r w' => r = (nI n) ∧ OKW (n + 1) (th ||| 2 ^ n) mv g (svS k + 1) w') := by
  obtain ⟨cu, ⟨ho0, hs0, fn, ft, fm, fg⟩, ⟨sz0, tx⟩, ⟨sn, sh, sm9, sG, kp⟩, ⟨og, ff, cf, pg, pf, jg⟩⟩ := w
  obtain ⟨e1, e2, hC, hho, hhs, hT, hSl, hKa⟩ := h
  obtain rfl : cu = (n, th, mv, g) := e1
  obtain rfl : hs0 = k := e2
  exact wri_up (c_L_node_e l Γ (z.1 0) (z.1 4) (z.1 5) (z.1 6) (z.1 8) (z.1 10) (z.1 12) (z.1 16) (z.1 20) (z.1 1) n th mv (z.1 2) (z.1 3) g (z.1 7) z.2.1 z.2.2.1 z.2.2.2.1 ho0 hs0 fn ft fm fg (hC.1) (hC.2.1) (hC.2.2.1) (hho) (hhs) (hn1)) [0, 1, 2, 3, 4, 5, 6, 7, 8, 9, 10, 11, 12, 13, 14, 15, 16, 17, 18, 19, 20, 21, 22, 23] rfl rfl (fun _ => rfl) (fun u => ((n + 1, th ||| 2 ^ n, mv, g), (svO ho0 hs0, svS hs0 + 1, upG fn ((svO ho0 hs0 + svS hs0) % 6) n, upG ft ((svO ho0 hs0 + svS hs0) % 6) th, upG fm ((svO ho0 hs0 + svS hs0) % 6) mv, upG fg ((svO ho0 hs0 + svS hs0) % 6) g), (sz0, tx), (sn, sh, sm9, sG, kp), (og, ff, cf, pg, pf, jg))) (fun u => by simp only [kU, LW, List.set]) (fun r u hp => ⟨hp, ⟨rfl, rfl, okC_e hC hn1, svO_lt _ hho, svS_6 _, hT, hSl, hKa⟩⟩)
set_option maxHeartbeats 4000000 in
set_option maxRecDepth 100000 in
theorem d_L_node_a (l : Launch) (Γ : kG) (z : tAD) (w : tST) {n th mv : Nat} {g : Nat → Nat} {k : Nat} (h : OKW n th mv g k w) (v0 : Nat) (hn1 : n < 14) (hv0 : v0 < n) (hb0 : th.testBit v0 = true) : WY l yL_node (wsw yL_node cL_node 3 (some .int) [(0, 5, 6, 15), (0, 5, 10, 18)]) (rmL 7) Γ z [.ref (z.1 0), .int (nI v0)] w 0 0 (fun r w' => r = (nI n) ∧ OKW (n + 1) (th ||| 2 ^ n) mv (lk2 g n v0 true) (svS k + 1) w') := by
  obtain ⟨cu, ⟨ho0, hs0, fn, ft, fm, fg⟩, ⟨sz0, tx⟩, ⟨sn, sh, sm9, sG, kp⟩, ⟨og, ff, cf, pg, pf, jg⟩⟩ := w
  obtain ⟨e1, e2, hC, hho, hhs, hT, hSl, hKa⟩ := h
  obtain rfl : cu = (n, th, mv, g) := e1
  obtain rfl : hs0 = k := e2
  exact wri_up (c_L_node_a l Γ (z.1 0) (z.1 4) (z.1 5) (z.1 6) (z.1 8) (z.1 10) (z.1 12) (z.1 16) (z.1 20) (z.1 1) n th mv (z.1 2) (z.1 3) g (z.1 7) z.2.1 z.2.2.1 z.2.2.2.1 ho0 hs0 fn ft fm fg v0 (hC.1) (hC.2.1) (hC.2.2.1) (hho) (hhs) (hn1) (hv0) (hb0)) [0, 1, 2, 3, 4, 5, 6, 7, 8, 9, 10, 11, 12, 13, 14, 15, 16, 17, 18, 19, 20, 21, 22, 23] rfl rfl (fun _ => rfl) (fun u => ((n + 1, th ||| 2 ^ n, mv, lk2 g n v0 true), (svO ho0 hs0, svS hs0 + 1, upG fn ((svO ho0 hs0 + svS hs0) % 6) n, upG ft ((svO ho0 hs0 + svS hs0) % 6) th, upG fm ((svO ho0 hs0 + svS hs0) % 6) mv, upG fg ((svO ho0 hs0 + svS hs0) % 6) g), (sz0, tx), (sn, sh, sm9, sG, kp), (og, ff, cf, pg, pf, jg))) (fun u => by simp only [kU, LW, List.set]) (fun r u hp => ⟨hp, ⟨rfl, rfl, okC_a hC hn1 hv0, svO_lt _ hho, svS_6 _, hT, hSl, hKa⟩⟩)
set_option maxHeartbeats 4000000 in
set_option maxRecDepth 100000 in
theorem d_L_join_a (l : Launch) (Γ : kG) (z : tAD) (w : tST) {n th mv : Nat} {g : Nat → Nat} {k : Nat} (h : OKW n th mv g k w) (i0 : Nat) (j0 : Nat) (hi0 : i0 < n) (hj0 : j0 < n) (hc : cjB g th n i0 j0 = true) : WY l yL_join (wsw yL_join cL_join 4 (some .int) [(0, 6, 7, 15), (0, 6, 11, 18)]) (rmL 7) Γ z [.ref (z.1 0), .int (nI i0), .int (nI j0)] w 0 0 (fun r w' => r = (nI (trC (lk2 g i0 j0 true) th)) ∧ OKW n th mv (lk2 g i0 j0 true) (svS k + 1) w') := by
  obtain ⟨cu, ⟨ho0, hs0, fn, ft, fm, fg⟩, ⟨sz0, tx⟩, ⟨sn, sh, sm9, sG, kp⟩, ⟨og, ff, cf, pg, pf, jg⟩⟩ := w
  obtain ⟨e1, e2, hC, hho, hhs, hT, hSl, hKa⟩ := h
  obtain rfl : cu = (n, th, mv, g) := e1
  obtain rfl : hs0 = k := e2
  exact wri_up (c_L_join_a l Γ (z.1 0) (z.1 4) (z.1 5) (z.1 6) (z.1 8) (z.1 10) (z.1 12) (z.1 16) (z.1 20) (z.1 1) n th mv (z.1 2) (z.1 3) g (z.1 7) z.2.1 z.2.2.1 z.2.2.2.1 ho0 hs0 fn ft fm fg i0 j0 (hC.1) (hC.2.1) (hC.2.2.1) (hho) (hhs) (hi0) (hj0) (hc)) [0, 1, 2, 3, 4, 5, 6, 7, 8, 9, 10, 11, 12, 13, 14, 15, 16, 17, 18, 19, 20, 21, 22, 23] rfl rfl (fun _ => rfl) (fun u => ((n, th, mv, lk2 g i0 j0 true), (svO ho0 hs0, svS hs0 + 1, upG fn ((svO ho0 hs0 + svS hs0) % 6) n, upG ft ((svO ho0 hs0 + svS hs0) % 6) th, upG fm ((svO ho0 hs0 + svS hs0) % 6) mv, upG fg ((svO ho0 hs0 + svS hs0) % 6) g), (sz0, tx), (sn, sh, sm9, sG, kp), (og, ff, cf, pg, pf, jg))) (fun u => by simp only [kU, LW, List.set]) (fun r u hp => ⟨hp, ⟨rfl, rfl, okC_j hC hi0 hj0 hc, svO_lt _ hho, svS_6 _, hT, hSl, hKa⟩⟩)
set_option maxHeartbeats 4000000 in
set_option maxRecDepth 100000 in
theorem d_L_cut_a (l : Launch) (Γ : kG) (z : tAD) (w : tST) {n th mv : Nat} {g : Nat → Nat} {k : Nat} (h : OKW n th mv g k w) (i0 : Nat) (j0 : Nat) (hi0 : i0 < n) (hj0 : j0 < n) (hc : edB g th i0 j0 = true) : WY l yL_cut (wsw yL_cut cL_cut 4 (some .int) [(0, 6, 7, 15), (0, 6, 11, 18)]) (rmL 22) Γ z [.ref (z.1 0), .int (nI i0), .int (nI j0)] w 0 0 (fun r w' => r = (bI (mrB g th 14 i0 j0)) ∧ OKW n th mv (lk2 g i0 j0 false) (svS k + 1) w') := by
  obtain ⟨cu, ⟨ho0, hs0, fn, ft, fm, fg⟩, ⟨sz0, tx⟩, ⟨sn, sh, sm9, sG, kp⟩, ⟨og, ff, cf, pg, pf, jg⟩⟩ := w
  obtain ⟨e1, e2, hC, hho, hhs, hT, hSl, hKa⟩ := h
  obtain rfl : cu = (n, th, mv, g) := e1
  obtain rfl : hs0 = k := e2
  exact wri_up (c_L_cut_a l Γ (z.1 0) (z.1 4) (z.1 5) (z.1 6) (z.1 8) (z.1 10) (z.1 12) (z.1 16) (z.1 20) (z.1 1) n th mv (z.1 2) (z.1 3) g (z.1 7) z.2.1 z.2.2.1 z.2.2.2.1 ho0 hs0 fn ft fm fg (z.1 11) cf i0 j0 (hC.1) (hC.2.1) (hC.2.2.1) (hho) (hhs) (hi0) (hj0) (hc)) [0, 1, 2, 3, 4, 5, 6, 7, 8, 9, 10, 11, 12, 13, 14, 15, 16, 17, 18, 19, 20, 21, 22, 23, 26, 27] rfl rfl (fun _ => rfl) (fun u => ((n, th, mv, lk2 g i0 j0 false), (svO ho0 hs0, svS hs0 + 1, upG fn ((svO ho0 hs0 + svS hs0) % 6) n, upG ft ((svO ho0 hs0 + svS hs0) % 6) th, upG fm ((svO ho0 hs0 + svS hs0) % 6) mv, upG fg ((svO ho0 hs0 + svS hs0) % 6) g), (sz0, tx), (sn, sh, sm9, sG, kp), (og, ff, u, pg, pf, jg))) (fun u => by simp only [kU, LW, List.set]) (fun r u hp => ⟨hp, ⟨rfl, rfl, okC_c hC hi0 hj0 hc, svO_lt _ hho, svS_6 _, hT, hSl, hKa⟩⟩)
set_option maxHeartbeats 4000000 in
set_option maxRecDepth 100000 in
theorem d_L_take_a (l : Launch) (Γ : kG) (z : tAD) (w : tST) {n th mv : Nat} {g : Nat → Nat} {k : Nat} (h : OKW n th mv g k w) (v0 : Nat) (hv0 : v0 < n) (hb0 : th.testBit v0 = true) : WY l yL_take (wsw yL_take cL_take 3 (some .int) [(0, 5, 6, 15), (0, 5, 10, 18)]) (rmL 7) Γ z [.ref (z.1 0), .int (nI v0)] w 0 0 (fun r w' => r = (nI (pc th - pc (lft g th v0))) ∧ OKW n (lft g th v0) (mv + 1) g (svS k + 1) w') := by
  obtain ⟨cu, ⟨ho0, hs0, fn, ft, fm, fg⟩, ⟨sz0, tx⟩, ⟨sn, sh, sm9, sG, kp⟩, ⟨og, ff, cf, pg, pf, jg⟩⟩ := w
  obtain ⟨e1, e2, hC, hho, hhs, hT, hSl, hKa⟩ := h
  obtain rfl : cu = (n, th, mv, g) := e1
  obtain rfl : hs0 = k := e2
  exact wri_up (c_L_take_a l Γ (z.1 0) (z.1 4) (z.1 5) (z.1 6) (z.1 8) (z.1 10) (z.1 12) (z.1 16) (z.1 20) (z.1 1) n th mv (z.1 2) (z.1 3) g (z.1 7) z.2.1 z.2.2.1 z.2.2.2.1 ho0 hs0 fn ft fm fg v0 (hC.1) (hC.2.1) (hC.2.2.1) (hho) (hhs) (hv0) (hb0)) [0, 1, 2, 3, 4, 5, 6, 7, 8, 9, 10, 11, 12, 13, 14, 15, 16, 17, 18, 19, 20, 21, 22, 23] rfl rfl (fun _ => rfl) (fun u => ((n, lft g th v0, mv + 1, g), (svO ho0 hs0, svS hs0 + 1, upG fn ((svO ho0 hs0 + svS hs0) % 6) n, upG ft ((svO ho0 hs0 + svS hs0) % 6) th, upG fm ((svO ho0 hs0 + svS hs0) % 6) mv, upG fg ((svO ho0 hs0 + svS hs0) % 6) g), (sz0, tx), (sn, sh, sm9, sG, kp), (og, ff, cf, pg, pf, jg))) (fun u => by simp only [kU, LW, List.set]) (fun r u hp => ⟨hp, ⟨rfl, rfl, okC_t hC v0, svO_lt _ hho, svS_6 _, hT, hSl, hKa⟩⟩)
set_option maxHeartbeats 4000000 in
set_option maxRecDepth 100000 in
theorem d_L_reply_a (l : Launch) (Γ : kG) (z : tAD) (w : tST) {n th mv : Nat} {g : Nat → Nat} {k : Nat} (h : OKW n th mv g k w)  (hz : th ≠ 0) : WY l yL_reply (wsw yL_reply cL_reply 2 (some .int) [(0, 4, 5, 18)]) (rmL 39) Γ z [.ref (z.1 0)] w 0 0 (fun r w' => r = (nI (rpN g th n)) ∧ OKW n (lft g th (rpN g th n)) (mv + 1) g (svS k + 1) w') := by
  obtain ⟨cu, ⟨ho0, hs0, fn, ft, fm, fg⟩, ⟨sz0, tx⟩, ⟨sn, sh, sm9, sG, kp⟩, ⟨og, ff, cf, pg, pf, jg⟩⟩ := w
  obtain ⟨e1, e2, hC, hho, hhs, hT, hSl, hKa⟩ := h
  obtain rfl : cu = (n, th, mv, g) := e1
  obtain rfl : hs0 = k := e2
  exact wri_up (c_L_reply_a l Γ (z.1 0) (z.1 4) (z.1 5) (z.1 6) (z.1 8) (z.1 10) (z.1 12) (z.1 16) (z.1 20) (z.1 1) n th mv (z.1 2) (z.1 3) g (z.1 7) z.2.1 z.2.2.1 z.2.2.2.1 ho0 hs0 fn ft fm fg (z.1 13) (z.1 14) (z.1 15) og ff (hC.1) (hC.2.1) (hC.2.2.1) (hho) (hhs) (hKa.1.2) (hKa.1.1) (hz)) [0, 1, 2, 3, 4, 5, 6, 7, 8, 9, 10, 11, 12, 13, 14, 15, 16, 17, 18, 19, 20, 21, 22, 23, 28, 29, 30, 31] rfl rfl (fun _ => rfl) (fun u => ((n, lft g th (rpN g th n), mv + 1, g), (svO ho0 hs0, svS hs0 + 1, upG fn ((svO ho0 hs0 + svS hs0) % 6) n, upG ft ((svO ho0 hs0 + svS hs0) % 6) th, upG fm ((svO ho0 hs0 + svS hs0) % 6) mv, upG fg ((svO ho0 hs0 + svS hs0) % 6) g), (sz0, tx), (sn, sh, sm9, sG, kp), (u.1, u.2, cf, pg, pf, jg))) (fun u => by simp only [kU, LW, List.set]) (fun r u hp => ⟨hp.1, ⟨rfl, rfl, okC_t hC _, svO_lt _ hho, svS_6 _, hT, hSl, ⟨⟨hp.2.1, hp.2.2⟩, hKa.2⟩⟩⟩)
set_option maxHeartbeats 4000000 in
set_option maxRecDepth 100000 in
theorem d_X6_again (l : Launch) (Γ : kG) (z : tAD) (w : tST) {n th mv : Nat} {g : Nat → Nat} {k : Nat} (h : OKW n th mv g k w)   : WY l yX6_again (wsq yX6_again cX6_again 2 (some .int)) (rmL 6) Γ z [.ref (z.1 0)] w 0 0 (fun r w' => r = (nI (n - pc th)) ∧ OKW n (2 ^ n - 1) 0 g (svS k + 1) w') := by
  obtain ⟨cu, ⟨ho0, hs0, fn, ft, fm, fg⟩, ⟨sz0, tx⟩, ⟨sn, sh, sm9, sG, kp⟩, ⟨og, ff, cf, pg, pf, jg⟩⟩ := w
  obtain ⟨e1, e2, hC, hho, hhs, hT, hSl, hKa⟩ := h
  obtain rfl : cu = (n, th, mv, g) := e1
  obtain rfl : hs0 = k := e2
  exact wri_up (c_X6_again l Γ (z.1 0) (z.1 4) (z.1 5) (z.1 6) (z.1 8) (z.1 10) (z.1 12) (z.1 16) (z.1 20) (z.1 1) n th mv (z.1 2) (z.1 3) g (z.1 7) z.2.1 z.2.2.1 z.2.2.2.1 ho0 hs0 fn ft fm fg (hC.1) (hC.2.1) (hC.2.2.1) (hho) (hhs)) [0, 1, 2, 3, 4, 5, 6, 7, 8, 9, 10, 11, 12, 13, 14, 15, 16, 17, 18, 19, 20, 21, 22, 23] rfl rfl (fun _ => rfl) (fun u => ((n, 2 ^ n - 1, 0, g), (svO ho0 hs0, svS hs0 + 1, upG fn ((svO ho0 hs0 + svS hs0) % 6) n, upG ft ((svO ho0 hs0 + svS hs0) % 6) th, upG fm ((svO ho0 hs0 + svS hs0) % 6) mv, upG fg ((svO ho0 hs0 + svS hs0) % 6) g), (sz0, tx), (sn, sh, sm9, sG, kp), (og, ff, cf, pg, pf, jg))) (fun u => by simp only [kU, LW, List.set]) (fun r u hp => ⟨hp, ⟨rfl, rfl, okC_g hC, svO_lt _ hho, svS_6 _, hT, hSl, hKa⟩⟩)
set_option maxHeartbeats 4000000 in
set_option maxRecDepth 100000 in
theorem d_L_keep_a (l : Launch) (Γ : kG) (z : tAD) (w : tST) {n th mv : Nat} {g : Nat → Nat} {k : Nat} (h : OKW n th mv g k w) (s0 : Nat) (hsq : s0 < 2) : WY l yL_keep (wsw yL_keep cL_keep 3 (some .int) [(0, 5, 6, 38)]) (rmL 5) Γ z [.ref (z.1 0), .int (nI s0)] w 0 0 (fun r w' => r = (nI (pc th)) ∧ OKW n th mv g k w') := by
  obtain ⟨cu, ⟨ho0, hs0, fn, ft, fm, fg⟩, ⟨sz0, tx⟩, ⟨sn, sh, sm9, sG, kp⟩, ⟨og, ff, cf, pg, pf, jg⟩⟩ := w
  obtain ⟨e1, e2, hC, hho, hhs, hT, hSl, hKa⟩ := h
  obtain rfl : cu = (n, th, mv, g) := e1
  obtain rfl : hs0 = k := e2
  exact wri_up (c_L_keep_a l Γ (z.1 0) (z.1 4) (z.1 5) (z.1 6) (z.1 8) (z.1 10) (z.1 12) (z.1 16) (z.1 20) (z.1 1) n th mv (z.1 2) (z.1 3) g z.2.2.2.2.1 z.2.2.2.2.2.1 z.2.2.2.2.2.2 sn sh sm9 sG kp s0 (hC.1) (hC.2.1) (hC.2.2.1) (hsq)) [0, 1, 2, 3, 38, 39, 40, 41, 42, 43, 44, 45] rfl rfl (fun _ => rfl) (fun u => ((n, th, mv, g), (ho0, hs0, fn, ft, fm, fg), (sz0, tx), (upG sn s0 n, upG sh s0 th, upG sm9 s0 mv, upG sG s0 g, upN kp s0 1), (og, ff, cf, pg, pf, jg))) (fun u => by simp only [kU, LW, List.set]) (fun r u hp => ⟨hp, ⟨rfl, rfl, hC, hho, hhs, hT, okS_k hSl hC, hKa⟩⟩)
set_option maxHeartbeats 4000000 in
set_option maxRecDepth 100000 in
theorem d_L_goBack_a (l : Launch) (Γ : kG) (z : tAD) (w : tST) {n th mv : Nat} {g : Nat → Nat} {k : Nat} (h : OKW n th mv g k w) (s0 : Nat) (hsl : s0 < 2) (hkp : w.2.2.2.1.2.2.2.2 s0 = 1) : WY l yL_goBack (wsw yL_goBack cL_goBack 3 (some .int) [(0, 5, 6, 38), (0, 5, 10, 18)]) (rmL 7) Γ z [.ref (z.1 0), .int (nI s0)] w 0 0 (fun r w' => ∃ n2 th2 mv2 g2, r = nI (pc th2) ∧ OKW n2 th2 mv2 g2 (svS k + 1) w') := by
  obtain ⟨cu, ⟨ho0, hs0, fn, ft, fm, fg⟩, ⟨sz0, tx⟩, ⟨sn, sh, sm9, sG, kp⟩, ⟨og, ff, cf, pg, pf, jg⟩⟩ := w
  obtain ⟨e1, e2, hC, hho, hhs, hT, hSl, hKa⟩ := h
  obtain rfl : cu = (n, th, mv, g) := e1
  obtain rfl : hs0 = k := e2
  have hC2 : okC (sn s0) (sh s0) (sG s0) := by
    rcases hSl s0 hsl with q | q
    · exact absurd (q.symm.trans hkp) (by decide)
    · exact q.2
  exact wri_up (c_L_goBack_a l Γ (z.1 0) (z.1 4) (z.1 5) (z.1 6) (z.1 8) (z.1 10) (z.1 12) (z.1 16) (z.1 20) (z.1 1) n th mv (z.1 2) (z.1 3) g (z.1 7) z.2.1 z.2.2.1 z.2.2.2.1 ho0 hs0 fn ft fm fg z.2.2.2.2.1 z.2.2.2.2.2.1 z.2.2.2.2.2.2 sn sh sm9 sG kp s0 (hC.1) (hC.2.1) (hC.2.2.1) (hho) (hhs) (hsl) (hkp) (okC_w hC2)) [0, 1, 2, 3, 4, 5, 6, 7, 8, 9, 10, 11, 12, 13, 14, 15, 16, 17, 18, 19, 20, 21, 22, 23, 38, 39, 40, 41, 42, 43, 44, 45] rfl rfl (fun _ => rfl) (fun u => ((sn s0, sh s0, sm9 s0, sG s0), (svO ho0 hs0, svS hs0 + 1, upG fn ((svO ho0 hs0 + svS hs0) % 6) n, upG ft ((svO ho0 hs0 + svS hs0) % 6) th, upG fm ((svO ho0 hs0 + svS hs0) % 6) mv, upG fg ((svO ho0 hs0 + svS hs0) % 6) g), (sz0, tx), (sn, sh, sm9, sG, kp), (og, ff, cf, pg, pf, jg))) (fun u => by simp only [kU, LW, List.set]) (fun r u hp => ⟨_, _, _, _, hp, ⟨rfl, rfl, hC2, svO_lt _ hho, svS_6 _, hT, hSl, hKa⟩⟩)
set_option maxHeartbeats 4000000 in
set_option maxRecDepth 100000 in
theorem d_L_load0 (l : Launch) (Γ : kG) (z : tAD) (w : tST) {n th mv : Nat} {g : Nat → Nat} {k : Nat} (h : OKW n th mv g k w)  (hz : w.2.2.1.1 = 0) : WY l yL_load (wsw yL_load cL_load 2 (some .int) [(0, 4, 5, 38)]) (rmL 7) Γ z [.ref (z.1 0)] w 0 0 (fun r w' => r = nI 0 ∧ OKW 0 0 0 (fun _ => 0) (svS k + 1) w' ∧ w'.2.1.2.2.1 ((w'.2.1.1 + (svS k + 1 - 1)) % 6) = n ∧ w'.2.1.2.2.2.1 ((w'.2.1.1 + (svS k + 1 - 1)) % 6) = th ∧ w'.2.1.2.2.2.2.1 ((w'.2.1.1 + (svS k + 1 - 1)) % 6) = mv ∧ w'.2.1.2.2.2.2.2 ((w'.2.1.1 + (svS k + 1 - 1)) % 6) = g) := by
  obtain ⟨cu, ⟨ho0, hs0, fn, ft, fm, fg⟩, ⟨sz0, tx⟩, ⟨sn, sh, sm9, sG, kp⟩, ⟨og, ff, cf, pg, pf, jg⟩⟩ := w
  obtain ⟨e1, e2, hC, hho, hhs, hT, hSl, hKa⟩ := h
  obtain rfl : cu = (n, th, mv, g) := e1
  obtain rfl : hs0 = k := e2
  obtain rfl : sz0 = 0 := hz
  exact wri_up (c_L_load_a l Γ (z.1 0) (z.1 4) (z.1 5) (z.1 6) (z.1 8) (z.1 10) (z.1 12) (z.1 16) (z.1 20) (z.1 1) n th mv (z.1 2) (z.1 3) g (z.1 7) z.2.1 z.2.2.1 z.2.2.2.1 ho0 hs0 fn ft fm fg (z.1 9) 0 tx (hC.1) (hC.2.1) (hC.2.2.1) (hho) (hhs) (hT.2) (hT.1) (Nat.not_lt_zero _)) [0, 1, 2, 3, 4, 5, 6, 7, 8, 9, 10, 11, 12, 13, 14, 15, 16, 17, 18, 19, 20, 21, 22, 23, 24, 25] rfl rfl (fun _ => rfl) (fun u => ((0, 2 ^ 0 - 1, 0, ldG tx 0), (svO ho0 hs0, svS hs0 + 1, upG fn ((svO ho0 hs0 + svS hs0) % 6) n, upG ft ((svO ho0 hs0 + svS hs0) % 6) th, upG fm ((svO ho0 hs0 + svS hs0) % 6) mv, upG fg ((svO ho0 hs0 + svS hs0) % 6) g), (0, tx), (sn, sh, sm9, sG, kp), (og, ff, cf, pg, pf, jg))) (fun u => by simp only [kU, LW, List.set]) (fun r u hp => ⟨hp, ⟨rfl, rfl, okC_0, svO_lt _ hho, svS_6 _, ⟨Nat.zero_le _, hT.2⟩, hSl, hKa⟩, upG_s _ _ _ rfl, upG_s _ _ _ rfl, upG_s _ _ _ rfl, upG_s _ _ _ rfl⟩)
set_option maxHeartbeats 4000000 in
set_option maxRecDepth 100000 in
theorem d_L_undo1 (l : Launch) (Γ : kG) (z : tAD) (w : tST) {n th mv n2 th2 mv2 : Nat} {g g2 : Nat → Nat} {k : Nat} (h : OKW n th mv g k w)  (hpos : 0 < k) (h1 : w.2.1.2.2.1 ((w.2.1.1 + (k - 1)) % 6) = n2) (h2 : w.2.1.2.2.2.1 ((w.2.1.1 + (k - 1)) % 6) = th2) (h3 : w.2.1.2.2.2.2.1 ((w.2.1.1 + (k - 1)) % 6) = mv2) (h4 : w.2.1.2.2.2.2.2 ((w.2.1.1 + (k - 1)) % 6) = g2) (hC2 : okC n2 th2 g2) : WY l yL_undo (wsw yL_undo cL_undo 2 (some .int) [(0, 4, 5, 18)]) (rmL 7) Γ z [.ref (z.1 0)] w 0 0 (fun r w' => r = nI (k - 1) ∧ OKW n2 th2 mv2 g2 (k - 1) w') := by
  obtain ⟨cu, ⟨ho0, hs0, fn, ft, fm, fg⟩, ⟨sz0, tx⟩, ⟨sn, sh, sm9, sG, kp⟩, ⟨og, ff, cf, pg, pf, jg⟩⟩ := w
  obtain ⟨e1, e2, hC, hho, hhs, hT, hSl, hKa⟩ := h
  obtain rfl : cu = (n, th, mv, g) := e1
  obtain rfl : hs0 = k := e2
  have h1 : fn ((ho0 + (hs0 - 1)) % 6) = n2 := h1
  have h2 : ft ((ho0 + (hs0 - 1)) % 6) = th2 := h2
  have h3 : fm ((ho0 + (hs0 - 1)) % 6) = mv2 := h3
  have h4 : fg ((ho0 + (hs0 - 1)) % 6) = g2 := h4
  exact wri_up (c_L_undo_a l Γ (z.1 0) (z.1 4) (z.1 5) (z.1 6) (z.1 8) (z.1 10) (z.1 12) (z.1 16) (z.1 20) (z.1 1) n th mv (z.1 2) (z.1 3) g (z.1 7) z.2.1 z.2.2.1 z.2.2.2.1 ho0 hs0 fn ft fm fg (hho) (hhs) (hpos)) [0, 1, 2, 3, 4, 5, 6, 7, 8, 9, 10, 11, 12, 13, 14, 15, 16, 17, 18, 19, 20, 21, 22, 23] rfl rfl (fun _ => rfl) (fun u => ((fn ((ho0 + (hs0 - 1)) % 6), ft ((ho0 + (hs0 - 1)) % 6), fm ((ho0 + (hs0 - 1)) % 6), fg ((ho0 + (hs0 - 1)) % 6)), (ho0, hs0 - 1, fn, ft, fm, fg), (sz0, tx), (sn, sh, sm9, sG, kp), (og, ff, cf, pg, pf, jg))) (fun u => by simp only [kU, LW, List.set]) (fun r u hp => ⟨hp, by show (fn ((ho0 + (hs0 - 1)) % 6), ft ((ho0 + (hs0 - 1)) % 6), fm ((ho0 + (hs0 - 1)) % 6), fg ((ho0 + (hs0 - 1)) % 6)) = _; rw [h1, h2, h3, h4], rfl, hC2, hho, by show hs0 - 1 ≤ 6; omega, hT, hSl, hKa⟩)
set_option maxHeartbeats 4000000 in
set_option maxRecDepth 100000 in
theorem d_X6_write0 (l : Launch) (Γ : kG) (z : tAD) (w : tST) {n th mv : Nat} {g : Nat → Nat} {k : Nat} (h : OKW n th mv g k w)  (hz : n = 0) : WY l yX6_write (wsq yX6_write cX6_write 2 (some .int)) (rmL 5) Γ z [.ref (z.1 0)] w 0 0 (fun r w' => r = nI 0 ∧ OKW n th mv g k w' ∧ w'.2.2.1.1 = 0) := by
  obtain ⟨cu, ⟨ho0, hs0, fn, ft, fm, fg⟩, ⟨sz0, tx⟩, ⟨sn, sh, sm9, sG, kp⟩, ⟨og, ff, cf, pg, pf, jg⟩⟩ := w
  obtain ⟨e1, e2, hC, hho, hhs, hT, hSl, hKa⟩ := h
  obtain rfl : cu = (n, th, mv, g) := e1
  obtain rfl : hs0 = k := e2
  subst hz
  exact wri_up (c_X6_write_a l Γ (z.1 0) (z.1 4) (z.1 5) (z.1 6) (z.1 8) (z.1 10) (z.1 12) (z.1 16) (z.1 20) (z.1 1) 0 th mv (z.1 2) (z.1 3) g (z.1 9) sz0 tx (hC.1) (hC.2.1) (hC.2.2.1) (rfl)) [0, 1, 2, 3, 24, 25] rfl rfl (fun _ => rfl) (fun u => ((0, th, mv, g), (ho0, hs0, fn, ft, fm, fg), (0, wrS g tx 0), (sn, sh, sm9, sG, kp), (og, ff, cf, pg, pf, jg))) (fun u => by simp only [kU, LW, List.set]) (fun r u hp => ⟨hp, ⟨rfl, rfl, hC, hho, hhs, ⟨Nat.zero_le _, hT.2⟩, hSl, hKa⟩, rfl⟩)
set_option maxHeartbeats 4000000 in
set_option maxRecDepth 100000 in
theorem d_L_node_x (l : Launch) (hls : l.stackTraces = false) (Γ : kG) (z : tAD) (w : tST) {n th mv : Nat} {g : Nat → Nat} {k : Nat} (h : OKW n th mv g k w) (x0 : Int32) (hne : x0 ≠ -1) (hx0 : isN n x0 = false) : WY l yL_node (wsw yL_node cL_node 3 (some .int) [(0, 5, 6, 15), (0, 5, 10, 18)]) (rmX 9 1 6) Γ z [.ref (z.1 0), .int x0] w 1 6 (fun r w' => r = (-2000001) ∧ w' = w) := by
  obtain ⟨cu, ⟨ho0, hs0, fn, ft, fm, fg⟩, ⟨sz0, tx⟩, ⟨sn, sh, sm9, sG, kp⟩, ⟨og, ff, cf, pg, pf, jg⟩⟩ := w
  obtain ⟨e1, e2, hC, hho, hhs, hT, hSl, hKa⟩ := h
  obtain rfl : cu = (n, th, mv, g) := e1
  obtain rfl : hs0 = k := e2
  exact wt_up (c_L_node_x l hls Γ (z.1 0) (z.1 4) (z.1 5) (z.1 6) (z.1 8) (z.1 10) (z.1 12) (z.1 16) (z.1 20) (z.1 1) n th mv (z.1 2) (z.1 3) g x0 (hC.2.1) (hne) (hx0)) [0, 1, 2, 3] rfl rfl (by simp only [kU, LW, List.set]) ⟨rfl, rfl⟩
set_option maxHeartbeats 4000000 in
set_option maxRecDepth 100000 in
theorem d_L_node_f (l : Launch) (hls : l.stackTraces = false) (Γ : kG) (z : tAD) (w : tST) {n th mv : Nat} {g : Nat → Nat} {k : Nat} (h : OKW n th mv g k w)  (hn1 : n = 14) : WY l yL_node (wsw yL_node cL_node 3 (some .int) [(0, 5, 6, 15), (0, 5, 10, 18)]) (rmX 9 1 6) Γ z [.ref (z.1 0), .int (-1)] w 1 6 (fun r w' => r = (-2000002) ∧ w' = w) := by
  obtain ⟨cu, ⟨ho0, hs0, fn, ft, fm, fg⟩, ⟨sz0, tx⟩, ⟨sn, sh, sm9, sG, kp⟩, ⟨og, ff, cf, pg, pf, jg⟩⟩ := w
  obtain ⟨e1, e2, hC, hho, hhs, hT, hSl, hKa⟩ := h
  obtain rfl : cu = (n, th, mv, g) := e1
  obtain rfl : hs0 = k := e2
  exact wt_up (c_L_node_f l hls Γ (z.1 0) (z.1 4) (z.1 5) (z.1 6) (z.1 8) (z.1 10) (z.1 12) (z.1 16) (z.1 20) (z.1 1) n th mv (z.1 2) (z.1 3) g (hn1)) [0, 1, 2, 3] rfl rfl (by simp only [kU, LW, List.set]) ⟨rfl, rfl⟩
set_option maxHeartbeats 4000000 in
set_option maxRecDepth 100000 in
theorem d_L_node_g (l : Launch) (hls : l.stackTraces = false) (Γ : kG) (z : tAD) (w : tST) {n th mv : Nat} {g : Nat → Nat} {k : Nat} (h : OKW n th mv g k w) (v0 : Nat) (hn1 : n = 14) (hv0 : v0 < n) : WY l yL_node (wsw yL_node cL_node 3 (some .int) [(0, 5, 6, 15), (0, 5, 10, 18)]) (rmX 9 1 6) Γ z [.ref (z.1 0), .int (nI v0)] w 1 6 (fun r w' => r = (-2000002) ∧ w' = w) := by
  obtain ⟨cu, ⟨ho0, hs0, fn, ft, fm, fg⟩, ⟨sz0, tx⟩, ⟨sn, sh, sm9, sG, kp⟩, ⟨og, ff, cf, pg, pf, jg⟩⟩ := w
  obtain ⟨e1, e2, hC, hho, hhs, hT, hSl, hKa⟩ := h
  obtain rfl : cu = (n, th, mv, g) := e1
  obtain rfl : hs0 = k := e2
  exact wt_up (c_L_node_g l hls Γ (z.1 0) (z.1 4) (z.1 5) (z.1 6) (z.1 8) (z.1 10) (z.1 12) (z.1 16) (z.1 20) (z.1 1) n th mv (z.1 2) (z.1 3) g v0 (hn1) (hv0)) [0, 1, 2, 3] rfl rfl (by simp only [kU, LW, List.set]) ⟨rfl, rfl⟩
set_option maxHeartbeats 4000000 in
set_option maxRecDepth 100000 in
theorem d_L_node_t (l : Launch) (hls : l.stackTraces = false) (Γ : kG) (z : tAD) (w : tST) {n th mv : Nat} {g : Nat → Nat} {k : Nat} (h : OKW n th mv g k w) (v0 : Nat) (hn1 : n < 14) (hv0 : v0 < n) (hb0 : th.testBit v0 = false) : WY l yL_node (wsw yL_node cL_node 3 (some .int) [(0, 5, 6, 15), (0, 5, 10, 18)]) (rmX 9 1 6) Γ z [.ref (z.1 0), .int (nI v0)] w 1 6 (fun r w' => r = (-2000002) ∧ w' = w) := by
  obtain ⟨cu, ⟨ho0, hs0, fn, ft, fm, fg⟩, ⟨sz0, tx⟩, ⟨sn, sh, sm9, sG, kp⟩, ⟨og, ff, cf, pg, pf, jg⟩⟩ := w
  obtain ⟨e1, e2, hC, hho, hhs, hT, hSl, hKa⟩ := h
  obtain rfl : cu = (n, th, mv, g) := e1
  obtain rfl : hs0 = k := e2
  exact wt_up (c_L_node_t l hls Γ (z.1 0) (z.1 4) (z.1 5) (z.1 6) (z.1 8) (z.1 10) (z.1 12) (z.1 16) (z.1 20) (z.1 1) n th mv (z.1 2) (z.1 3) g v0 (hC.2.1) (hC.2.2.1) (hn1) (hv0) (hb0)) [0, 1, 2, 3] rfl rfl (by simp only [kU, LW, List.set]) ⟨rfl, rfl⟩
set_option maxHeartbeats 4000000 in
set_option maxRecDepth 100000 in
theorem d_L_join_x (l : Launch) (hls : l.stackTraces = false) (Γ : kG) (z : tAD) (w : tST) {n th mv : Nat} {g : Nat → Nat} {k : Nat} (h : OKW n th mv g k w) (x0 : Int32) (y0 : Int32) (hx0 : isN n x0 = false) : WY l yL_join (wsw yL_join cL_join 4 (some .int) [(0, 6, 7, 15), (0, 6, 11, 18)]) (rmX 9 1 6) Γ z [.ref (z.1 0), .int x0, .int y0] w 1 6 (fun r w' => r = (-2000001) ∧ w' = w) := by
  obtain ⟨cu, ⟨ho0, hs0, fn, ft, fm, fg⟩, ⟨sz0, tx⟩, ⟨sn, sh, sm9, sG, kp⟩, ⟨og, ff, cf, pg, pf, jg⟩⟩ := w
  obtain ⟨e1, e2, hC, hho, hhs, hT, hSl, hKa⟩ := h
  obtain rfl : cu = (n, th, mv, g) := e1
  obtain rfl : hs0 = k := e2
  exact wt_up (c_L_join_x l hls Γ (z.1 0) (z.1 4) (z.1 5) (z.1 6) (z.1 8) (z.1 10) (z.1 12) (z.1 16) (z.1 20) (z.1 1) n th mv (z.1 2) (z.1 3) g x0 y0 (hC.2.1) (hx0)) [0, 1, 2, 3] rfl rfl (by simp only [kU, LW, List.set]) ⟨rfl, rfl⟩
set_option maxHeartbeats 4000000 in
set_option maxRecDepth 100000 in
theorem d_L_join_y (l : Launch) (hls : l.stackTraces = false) (Γ : kG) (z : tAD) (w : tST) {n th mv : Nat} {g : Nat → Nat} {k : Nat} (h : OKW n th mv g k w) (i0 : Nat) (y0 : Int32) (hi0 : i0 < n) (hy0 : isN n y0 = false) : WY l yL_join (wsw yL_join cL_join 4 (some .int) [(0, 6, 7, 15), (0, 6, 11, 18)]) (rmX 9 1 6) Γ z [.ref (z.1 0), .int (nI i0), .int y0] w 1 6 (fun r w' => r = (-2000001) ∧ w' = w) := by
  obtain ⟨cu, ⟨ho0, hs0, fn, ft, fm, fg⟩, ⟨sz0, tx⟩, ⟨sn, sh, sm9, sG, kp⟩, ⟨og, ff, cf, pg, pf, jg⟩⟩ := w
  obtain ⟨e1, e2, hC, hho, hhs, hT, hSl, hKa⟩ := h
  obtain rfl : cu = (n, th, mv, g) := e1
  obtain rfl : hs0 = k := e2
  exact wt_up (c_L_join_y l hls Γ (z.1 0) (z.1 4) (z.1 5) (z.1 6) (z.1 8) (z.1 10) (z.1 12) (z.1 16) (z.1 20) (z.1 1) n th mv (z.1 2) (z.1 3) g i0 y0 (hC.2.1) (hi0) (hy0)) [0, 1, 2, 3] rfl rfl (by simp only [kU, LW, List.set]) ⟨rfl, rfl⟩
set_option maxHeartbeats 4000000 in
set_option maxRecDepth 100000 in
theorem d_L_join_n (l : Launch) (hls : l.stackTraces = false) (Γ : kG) (z : tAD) (w : tST) {n th mv : Nat} {g : Nat → Nat} {k : Nat} (h : OKW n th mv g k w) (i0 : Nat) (j0 : Nat) (hi0 : i0 < n) (hj0 : j0 < n) (hc : cjB g th n i0 j0 = false) : WY l yL_join (wsw yL_join cL_join 4 (some .int) [(0, 6, 7, 15), (0, 6, 11, 18)]) (rmX 9 1 6) Γ z [.ref (z.1 0), .int (nI i0), .int (nI j0)] w 1 6 (fun r w' => r = (-2000002) ∧ w' = w) := by
  obtain ⟨cu, ⟨ho0, hs0, fn, ft, fm, fg⟩, ⟨sz0, tx⟩, ⟨sn, sh, sm9, sG, kp⟩, ⟨og, ff, cf, pg, pf, jg⟩⟩ := w
  obtain ⟨e1, e2, hC, hho, hhs, hT, hSl, hKa⟩ := h
  obtain rfl : cu = (n, th, mv, g) := e1
  obtain rfl : hs0 = k := e2
  exact wt_up (c_L_join_n l hls Γ (z.1 0) (z.1 4) (z.1 5) (z.1 6) (z.1 8) (z.1 10) (z.1 12) (z.1 16) (z.1 20) (z.1 1) n th mv (z.1 2) (z.1 3) g i0 j0 (hC.1) (hC.2.1) (hC.2.2.1) (hi0) (hj0) (hc)) [0, 1, 2, 3] rfl rfl (by simp only [kU, LW, List.set]) ⟨rfl, rfl⟩
set_option maxHeartbeats 4000000 in
set_option maxRecDepth 100000 in
theorem d_L_cut_x (l : Launch) (hls : l.stackTraces = false) (Γ : kG) (z : tAD) (w : tST) {n th mv : Nat} {g : Nat → Nat} {k : Nat} (h : OKW n th mv g k w) (x0 : Int32) (y0 : Int32) (hx0 : isN n x0 = false) : WY l yL_cut (wsw yL_cut cL_cut 4 (some .int) [(0, 6, 7, 15), (0, 6, 11, 18)]) (rmX 9 1 6) Γ z [.ref (z.1 0), .int x0, .int y0] w 1 6 (fun r w' => r = (-2000001) ∧ w' = w) := by
  obtain ⟨cu, ⟨ho0, hs0, fn, ft, fm, fg⟩, ⟨sz0, tx⟩, ⟨sn, sh, sm9, sG, kp⟩, ⟨og, ff, cf, pg, pf, jg⟩⟩ := w
  obtain ⟨e1, e2, hC, hho, hhs, hT, hSl, hKa⟩ := h
  obtain rfl : cu = (n, th, mv, g) := e1
  obtain rfl : hs0 = k := e2
  exact wt_up (c_L_cut_x l hls Γ (z.1 0) (z.1 4) (z.1 5) (z.1 6) (z.1 8) (z.1 10) (z.1 12) (z.1 16) (z.1 20) (z.1 1) n th mv (z.1 2) (z.1 3) g x0 y0 (hC.2.1) (hx0)) [0, 1, 2, 3] rfl rfl (by simp only [kU, LW, List.set]) ⟨rfl, rfl⟩
set_option maxHeartbeats 4000000 in
set_option maxRecDepth 100000 in
theorem d_L_cut_y (l : Launch) (hls : l.stackTraces = false) (Γ : kG) (z : tAD) (w : tST) {n th mv : Nat} {g : Nat → Nat} {k : Nat} (h : OKW n th mv g k w) (i0 : Nat) (y0 : Int32) (hi0 : i0 < n) (hy0 : isN n y0 = false) : WY l yL_cut (wsw yL_cut cL_cut 4 (some .int) [(0, 6, 7, 15), (0, 6, 11, 18)]) (rmX 9 1 6) Γ z [.ref (z.1 0), .int (nI i0), .int y0] w 1 6 (fun r w' => r = (-2000001) ∧ w' = w) := by
  obtain ⟨cu, ⟨ho0, hs0, fn, ft, fm, fg⟩, ⟨sz0, tx⟩, ⟨sn, sh, sm9, sG, kp⟩, ⟨og, ff, cf, pg, pf, jg⟩⟩ := w
  obtain ⟨e1, e2, hC, hho, hhs, hT, hSl, hKa⟩ := h
  obtain rfl : cu = (n, th, mv, g) := e1
  obtain rfl : hs0 = k := e2
  exact wt_up (c_L_cut_y l hls Γ (z.1 0) (z.1 4) (z.1 5) (z.1 6) (z.1 8) (z.1 10) (z.1 12) (z.1 16) (z.1 20) (z.1 1) n th mv (z.1 2) (z.1 3) g i0 y0 (hC.2.1) (hi0) (hy0)) [0, 1, 2, 3] rfl rfl (by simp only [kU, LW, List.set]) ⟨rfl, rfl⟩
set_option maxHeartbeats 4000000 in
set_option maxRecDepth 100000 in
theorem d_L_cut_n (l : Launch) (hls : l.stackTraces = false) (Γ : kG) (z : tAD) (w : tST) {n th mv : Nat} {g : Nat → Nat} {k : Nat} (h : OKW n th mv g k w) (i0 : Nat) (j0 : Nat) (hi0 : i0 < n) (hj0 : j0 < n) (hc : edB g th i0 j0 = false) : WY l yL_cut (wsw yL_cut cL_cut 4 (some .int) [(0, 6, 7, 15), (0, 6, 11, 18)]) (rmX 9 1 6) Γ z [.ref (z.1 0), .int (nI i0), .int (nI j0)] w 1 6 (fun r w' => r = (-2000002) ∧ w' = w) := by
  obtain ⟨cu, ⟨ho0, hs0, fn, ft, fm, fg⟩, ⟨sz0, tx⟩, ⟨sn, sh, sm9, sG, kp⟩, ⟨og, ff, cf, pg, pf, jg⟩⟩ := w
  obtain ⟨e1, e2, hC, hho, hhs, hT, hSl, hKa⟩ := h
  obtain rfl : cu = (n, th, mv, g) := e1
  obtain rfl : hs0 = k := e2
  exact wt_up (c_L_cut_n l hls Γ (z.1 0) (z.1 4) (z.1 5) (z.1 6) (z.1 8) (z.1 10) (z.1 12) (z.1 16) (z.1 20) (z.1 1) n th mv (z.1 2) (z.1 3) g i0 j0 (hC.1) (hC.2.1) (hC.2.2.1) (hi0) (hj0) (hc)) [0, 1, 2, 3] rfl rfl (by simp only [kU, LW, List.set]) ⟨rfl, rfl⟩
set_option maxHeartbeats 4000000 in
set_option maxRecDepth 100000 in
theorem d_L_take_x (l : Launch) (hls : l.stackTraces = false) (Γ : kG) (z : tAD) (w : tST) {n th mv : Nat} {g : Nat → Nat} {k : Nat} (h : OKW n th mv g k w) (x0 : Int32) (hx0 : isN n x0 = false) : WY l yL_take (wsw yL_take cL_take 3 (some .int) [(0, 5, 6, 15), (0, 5, 10, 18)]) (rmX 9 1 6) Γ z [.ref (z.1 0), .int x0] w 1 6 (fun r w' => r = (-2000001) ∧ w' = w) := by
  obtain ⟨cu, ⟨ho0, hs0, fn, ft, fm, fg⟩, ⟨sz0, tx⟩, ⟨sn, sh, sm9, sG, kp⟩, ⟨og, ff, cf, pg, pf, jg⟩⟩ := w
  obtain ⟨e1, e2, hC, hho, hhs, hT, hSl, hKa⟩ := h
  obtain rfl : cu = (n, th, mv, g) := e1
  obtain rfl : hs0 = k := e2
  exact wt_up (c_L_take_x l hls Γ (z.1 0) (z.1 4) (z.1 5) (z.1 6) (z.1 8) (z.1 10) (z.1 12) (z.1 16) (z.1 20) (z.1 1) n th mv (z.1 2) (z.1 3) g x0 (hC.2.1) (hx0)) [0, 1, 2, 3] rfl rfl (by simp only [kU, LW, List.set]) ⟨rfl, rfl⟩
set_option maxHeartbeats 4000000 in
set_option maxRecDepth 100000 in
theorem d_L_take_t (l : Launch) (hls : l.stackTraces = false) (Γ : kG) (z : tAD) (w : tST) {n th mv : Nat} {g : Nat → Nat} {k : Nat} (h : OKW n th mv g k w) (v0 : Nat) (hv0 : v0 < n) (hb0 : th.testBit v0 = false) : WY l yL_take (wsw yL_take cL_take 3 (some .int) [(0, 5, 6, 15), (0, 5, 10, 18)]) (rmX 9 1 6) Γ z [.ref (z.1 0), .int (nI v0)] w 1 6 (fun r w' => r = (-2000002) ∧ w' = w) := by
  obtain ⟨cu, ⟨ho0, hs0, fn, ft, fm, fg⟩, ⟨sz0, tx⟩, ⟨sn, sh, sm9, sG, kp⟩, ⟨og, ff, cf, pg, pf, jg⟩⟩ := w
  obtain ⟨e1, e2, hC, hho, hhs, hT, hSl, hKa⟩ := h
  obtain rfl : cu = (n, th, mv, g) := e1
  obtain rfl : hs0 = k := e2
  exact wt_up (c_L_take_t l hls Γ (z.1 0) (z.1 4) (z.1 5) (z.1 6) (z.1 8) (z.1 10) (z.1 12) (z.1 16) (z.1 20) (z.1 1) n th mv (z.1 2) (z.1 3) g v0 (hC.2.1) (hC.2.2.1) (hv0) (hb0)) [0, 1, 2, 3] rfl rfl (by simp only [kU, LW, List.set]) ⟨rfl, rfl⟩
set_option maxHeartbeats 4000000 in
set_option maxRecDepth 100000 in
theorem d_L_reply_x (l : Launch) (hls : l.stackTraces = false) (Γ : kG) (z : tAD) (w : tST) {n th mv : Nat} {g : Nat → Nat} {k : Nat} (h : OKW n th mv g k w)  (hz : th = 0) : WY l yL_reply (wsw yL_reply cL_reply 2 (some .int) [(0, 4, 5, 18)]) (rmX 9 1 6) Γ z [.ref (z.1 0)] w 1 6 (fun r w' => r = (-2000001) ∧ w' = w) := by
  obtain ⟨cu, ⟨ho0, hs0, fn, ft, fm, fg⟩, ⟨sz0, tx⟩, ⟨sn, sh, sm9, sG, kp⟩, ⟨og, ff, cf, pg, pf, jg⟩⟩ := w
  obtain ⟨e1, e2, hC, hho, hhs, hT, hSl, hKa⟩ := h
  obtain rfl : cu = (n, th, mv, g) := e1
  obtain rfl : hs0 = k := e2
  exact wt_up (c_L_reply_x l hls Γ (z.1 0) (z.1 4) (z.1 5) (z.1 6) (z.1 8) (z.1 10) (z.1 12) (z.1 16) (z.1 20) (z.1 1) n th mv (z.1 2) (z.1 3) g (hz)) [0, 1, 2, 3] rfl rfl (by simp only [kU, LW, List.set]) ⟨rfl, rfl⟩
set_option maxHeartbeats 4000000 in
set_option maxRecDepth 100000 in
theorem d_L_append_x (l : Launch) (hls : l.stackTraces = false) (Γ : kG) (z : tAD) (w : tST) {n th mv : Nat} {g : Nat → Nat} {k : Nat} (h : OKW n th mv g k w) (x0 : Int32) (hx0 : ¬ (nI 33 ≤ x0 ∧ x0 ≤ nI 126)) : WY l yL_append (wsw yL_append cL_append 3 (some .int) [(0, 5, 6, 38), (0, 5, 10, 18)]) (rmX 9 1 6) Γ z [.ref (z.1 0), .int x0] w 1 6 (fun r w' => r = (-2000001) ∧ w' = w) := by
  obtain ⟨cu, ⟨ho0, hs0, fn, ft, fm, fg⟩, ⟨sz0, tx⟩, ⟨sn, sh, sm9, sG, kp⟩, ⟨og, ff, cf, pg, pf, jg⟩⟩ := w
  obtain ⟨e1, e2, hC, hho, hhs, hT, hSl, hKa⟩ := h
  obtain rfl : cu = (n, th, mv, g) := e1
  obtain rfl : hs0 = k := e2
  exact wt_up (c_L_append_x l hls Γ (z.1 0) (z.1 4) (z.1 5) (z.1 6) (z.1 8) (z.1 10) (z.1 12) (z.1 16) (z.1 20) (z.1 1) (z.1 9) sz0 tx x0 (hx0)) [0, 24, 25] rfl rfl (by simp only [kU, LW, List.set]) ⟨rfl, rfl⟩
set_option maxHeartbeats 4000000 in
set_option maxRecDepth 100000 in
theorem d_L_keep_x (l : Launch) (hls : l.stackTraces = false) (Γ : kG) (z : tAD) (w : tST) {n th mv : Nat} {g : Nat → Nat} {k : Nat} (h : OKW n th mv g k w) (x0 : Int32) (hx0 : ¬ (nI 0 ≤ x0 ∧ x0 ≤ nI 1)) : WY l yL_keep (wsw yL_keep cL_keep 3 (some .int) [(0, 5, 6, 38)]) (rmX 9 1 6) Γ z [.ref (z.1 0), .int x0] w 1 6 (fun r w' => r = (-2000001) ∧ w' = w) := by
  obtain ⟨cu, ⟨ho0, hs0, fn, ft, fm, fg⟩, ⟨sz0, tx⟩, ⟨sn, sh, sm9, sG, kp⟩, ⟨og, ff, cf, pg, pf, jg⟩⟩ := w
  obtain ⟨e1, e2, hC, hho, hhs, hT, hSl, hKa⟩ := h
  obtain rfl : cu = (n, th, mv, g) := e1
  obtain rfl : hs0 = k := e2
  exact wt_up (c_L_keep_x l hls Γ (z.1 0) (z.1 4) (z.1 5) (z.1 6) (z.1 8) (z.1 10) (z.1 12) (z.1 16) (z.1 20) (z.1 1) x0 (hx0)) [0] rfl rfl (by simp only [kU, LW, List.set]) ⟨rfl, rfl⟩
set_option maxHeartbeats 4000000 in
set_option maxRecDepth 100000 in
theorem d_L_goBack_f (l : Launch) (hls : l.stackTraces = false) (Γ : kG) (z : tAD) (w : tST) {n th mv : Nat} {g : Nat → Nat} {k : Nat} (h : OKW n th mv g k w) (s0 : Nat) (hsl : s0 < 2) (hkp : w.2.2.2.1.2.2.2.2 s0 = 0) : WY l yL_goBack (wsw yL_goBack cL_goBack 3 (some .int) [(0, 5, 6, 38), (0, 5, 10, 18)]) (rmX 9 1 6) Γ z [.ref (z.1 0), .int (nI s0)] w 1 6 (fun r w' => r = (-2000002) ∧ w' = w) := by
  obtain ⟨cu, ⟨ho0, hs0, fn, ft, fm, fg⟩, ⟨sz0, tx⟩, ⟨sn, sh, sm9, sG, kp⟩, ⟨og, ff, cf, pg, pf, jg⟩⟩ := w
  obtain ⟨e1, e2, hC, hho, hhs, hT, hSl, hKa⟩ := h
  obtain rfl : cu = (n, th, mv, g) := e1
  obtain rfl : hs0 = k := e2
  exact wt_up (c_L_goBack_f l hls Γ (z.1 0) (z.1 4) (z.1 5) (z.1 6) (z.1 8) (z.1 10) (z.1 12) (z.1 16) (z.1 20) (z.1 1) z.2.2.2.2.1 z.2.2.2.2.2.1 z.2.2.2.2.2.2 sn sh sm9 sG kp s0 (hsl) (hkp)) [0, 38, 39, 40, 41, 42, 43, 44, 45] rfl rfl (by simp only [kU, LW, List.set]) ⟨rfl, rfl⟩
set_option maxHeartbeats 4000000 in
set_option maxRecDepth 100000 in
theorem d_L_undo_x (l : Launch) (hls : l.stackTraces = false) (Γ : kG) (z : tAD) (w : tST) {n th mv : Nat} {g : Nat → Nat} {k : Nat} (h : OKW n th mv g k w)  (hz : k = 0) : WY l yL_undo (wsw yL_undo cL_undo 2 (some .int) [(0, 4, 5, 18)]) (rmX 9 1 6) Γ z [.ref (z.1 0)] w 1 6 (fun r w' => r = (-2000001) ∧ w' = w) := by
  obtain ⟨cu, ⟨ho0, hs0, fn, ft, fm, fg⟩, ⟨sz0, tx⟩, ⟨sn, sh, sm9, sG, kp⟩, ⟨og, ff, cf, pg, pf, jg⟩⟩ := w
  obtain ⟨e1, e2, hC, hho, hhs, hT, hSl, hKa⟩ := h
  obtain rfl : cu = (n, th, mv, g) := e1
  obtain rfl : hs0 = k := e2
  exact wt_up (c_L_undo_x l hls Γ (z.1 0) (z.1 4) (z.1 5) (z.1 6) (z.1 8) (z.1 10) (z.1 12) (z.1 16) (z.1 20) (z.1 1) (z.1 7) ho0 hs0 (hz)) [0, 4] rfl rfl (by simp only [kU, LW, List.set]) ⟨rfl, rfl⟩
set_option maxHeartbeats 4000000 in
set_option maxRecDepth 100000 in
theorem d_L_nodeOf_x (l : Launch) (hls : l.stackTraces = false) (Γ : kG) (z : tAD) (w : tST) {n th mv : Nat} {g : Nat → Nat} {k : Nat} (h : OKW n th mv g k w) (x0 : Int32) (y0 : Int32) (hx0 : isN n x0 = false) : WY l yL_nodeOf (wsw yL_nodeOf cL_nodeOf 4 (some .int) [(0, 6, 7, 15), (0, 6, 11, 38)]) (rmX 9 1 6) Γ z [.ref (z.1 0), .int x0, .int y0] w 1 6 (fun r w' => r = (-2000001) ∧ w' = w) := by
  obtain ⟨cu, ⟨ho0, hs0, fn, ft, fm, fg⟩, ⟨sz0, tx⟩, ⟨sn, sh, sm9, sG, kp⟩, ⟨og, ff, cf, pg, pf, jg⟩⟩ := w
  obtain ⟨e1, e2, hC, hho, hhs, hT, hSl, hKa⟩ := h
  obtain rfl : cu = (n, th, mv, g) := e1
  obtain rfl : hs0 = k := e2
  exact wt_up (c_L_nodeOf_x l hls Γ (z.1 0) (z.1 4) (z.1 5) (z.1 6) (z.1 8) (z.1 10) (z.1 12) (z.1 16) (z.1 20) (z.1 1) n th mv (z.1 2) (z.1 3) g x0 y0 (hC.2.1) (hx0)) [0, 1, 2, 3] rfl rfl (by simp only [kU, LW, List.set]) ⟨rfl, rfl⟩
set_option maxHeartbeats 4000000 in
set_option maxRecDepth 100000 in
theorem d_L_tree_x (l : Launch) (hls : l.stackTraces = false) (Γ : kG) (z : tAD) (w : tST) {n th mv : Nat} {g : Nat → Nat} {k : Nat} (h : OKW n th mv g k w) (k0 : Nat) (y0 : Int32) (hk0 : k0 < 2147483648) (hk1 : trC g th ≤ k0) : WY l yL_treeOf (wsw yL_treeOf cL_treeOf 4 (some .int) [(0, 6, 7, 15), (0, 6, 11, 38)]) (rmX 9 1 6) Γ z [.ref (z.1 0), .int (nI k0), .int y0] w 1 6 (fun r w' => r = (-2000001) ∧ w' = w) := by
  obtain ⟨cu, ⟨ho0, hs0, fn, ft, fm, fg⟩, ⟨sz0, tx⟩, ⟨sn, sh, sm9, sG, kp⟩, ⟨og, ff, cf, pg, pf, jg⟩⟩ := w
  obtain ⟨e1, e2, hC, hho, hhs, hT, hSl, hKa⟩ := h
  obtain rfl : cu = (n, th, mv, g) := e1
  obtain rfl : hs0 = k := e2
  exact wt_up (c_L_tree_x l hls Γ (z.1 0) (z.1 4) (z.1 5) (z.1 6) (z.1 8) (z.1 10) (z.1 12) (z.1 16) (z.1 20) (z.1 1) n th mv (z.1 2) (z.1 3) g k0 y0 (hC.1) (hC.2.1) (hC.2.2.1) (hk0) (hk1)) [0, 1, 2, 3] rfl rfl (by simp only [kU, LW, List.set]) ⟨rfl, rfl⟩
set_option maxHeartbeats 4000000 in
set_option maxRecDepth 100000 in
theorem d_L_count_x (l : Launch) (hls : l.stackTraces = false) (Γ : kG) (z : tAD) (w : tST) {n th mv : Nat} {g : Nat → Nat} {k : Nat} (h : OKW n th mv g k w) (x0 : Int32) (hx0 : ¬ (nI 0 ≤ x0 ∧ x0 ≤ nI 11)) : WY l yL_count (wsw yL_count cL_count 3 (some .int) [(0, 5, 6, 38)]) (rmX 9 1 6) Γ z [.ref (z.1 0), .int x0] w 1 6 (fun r w' => r = (-2000001) ∧ w' = w) := by
  obtain ⟨cu, ⟨ho0, hs0, fn, ft, fm, fg⟩, ⟨sz0, tx⟩, ⟨sn, sh, sm9, sG, kp⟩, ⟨og, ff, cf, pg, pf, jg⟩⟩ := w
  obtain ⟨e1, e2, hC, hho, hhs, hT, hSl, hKa⟩ := h
  obtain rfl : cu = (n, th, mv, g) := e1
  obtain rfl : hs0 = k := e2
  exact wt_up (c_L_count_x l hls Γ (z.1 0) (z.1 4) (z.1 5) (z.1 6) (z.1 8) (z.1 10) (z.1 12) (z.1 16) (z.1 20) (z.1 1) x0 (hx0)) [0] rfl rfl (by simp only [kU, LW, List.set]) ⟨rfl, rfl⟩
set_option maxHeartbeats 4000000 in
set_option maxRecDepth 100000 in
theorem d_L_mirror_x (l : Launch) (hls : l.stackTraces = false) (Γ : kG) (z : tAD) (w : tST) {n th mv : Nat} {g : Nat → Nat} {k : Nat} (h : OKW n th mv g k w) (x0 : Int32) (hx0 : x0 < 0) : WY l yL_mirror (wsw yL_mirror cL_mirror 3 (some .int) [(0, 5, 6, 38)]) (rmX 9 1 6) Γ z [.ref (z.1 0), .int x0] w 1 6 (fun r w' => r = (-2000001) ∧ w' = w) := by
  obtain ⟨cu, ⟨ho0, hs0, fn, ft, fm, fg⟩, ⟨sz0, tx⟩, ⟨sn, sh, sm9, sG, kp⟩, ⟨og, ff, cf, pg, pf, jg⟩⟩ := w
  obtain ⟨e1, e2, hC, hho, hhs, hT, hSl, hKa⟩ := h
  obtain rfl : cu = (n, th, mv, g) := e1
  obtain rfl : hs0 = k := e2
  exact wt_up (c_L_mirror_x l hls Γ (z.1 0) (z.1 4) (z.1 5) (z.1 6) (z.1 8) (z.1 10) (z.1 12) (z.1 16) (z.1 20) (z.1 1) x0 (hx0)) [0] rfl rfl (by simp only [kU, LW, List.set]) ⟨rfl, rfl⟩
set_option maxHeartbeats 4000000 in
set_option maxRecDepth 100000 in
theorem d_L_ifJoined_x (l : Launch) (hls : l.stackTraces = false) (Γ : kG) (z : tAD) (w : tST) {n th mv : Nat} {g : Nat → Nat} {k : Nat} (h : OKW n th mv g k w) (x0 : Int32) (y0 : Int32) (hx0 : isN n x0 = false) : WY l yL_ifJoined (wsw yL_ifJoined cL_ifJoined 4 (some .int) [(0, 6, 7, 15)]) (rmX 9 1 6) Γ z [.ref (z.1 0), .int x0, .int y0] w 1 6 (fun r w' => r = (-2000001) ∧ w' = w) := by
  obtain ⟨cu, ⟨ho0, hs0, fn, ft, fm, fg⟩, ⟨sz0, tx⟩, ⟨sn, sh, sm9, sG, kp⟩, ⟨og, ff, cf, pg, pf, jg⟩⟩ := w
  obtain ⟨e1, e2, hC, hho, hhs, hT, hSl, hKa⟩ := h
  obtain rfl : cu = (n, th, mv, g) := e1
  obtain rfl : hs0 = k := e2
  exact wt_up (c_L_ifJoined_x l hls Γ (z.1 0) (z.1 4) (z.1 5) (z.1 6) (z.1 8) (z.1 10) (z.1 12) (z.1 16) (z.1 20) (z.1 1) n th mv (z.1 2) (z.1 3) g x0 y0 (hC.2.1) (hx0)) [0, 1, 2, 3] rfl rfl (by simp only [kU, LW, List.set]) ⟨rfl, rfl⟩
set_option maxHeartbeats 4000000 in
set_option maxRecDepth 100000 in
theorem d_L_ifJoined_y (l : Launch) (hls : l.stackTraces = false) (Γ : kG) (z : tAD) (w : tST) {n th mv : Nat} {g : Nat → Nat} {k : Nat} (h : OKW n th mv g k w) (i0 : Nat) (y0 : Int32) (hi0 : i0 < n) (hy0 : isN n y0 = false) : WY l yL_ifJoined (wsw yL_ifJoined cL_ifJoined 4 (some .int) [(0, 6, 7, 15)]) (rmX 9 1 6) Γ z [.ref (z.1 0), .int (nI i0), .int y0] w 1 6 (fun r w' => r = (-2000001) ∧ w' = w) := by
  obtain ⟨cu, ⟨ho0, hs0, fn, ft, fm, fg⟩, ⟨sz0, tx⟩, ⟨sn, sh, sm9, sG, kp⟩, ⟨og, ff, cf, pg, pf, jg⟩⟩ := w
  obtain ⟨e1, e2, hC, hho, hhs, hT, hSl, hKa⟩ := h
  obtain rfl : cu = (n, th, mv, g) := e1
  obtain rfl : hs0 = k := e2
  exact wt_up (c_L_ifJoined_y l hls Γ (z.1 0) (z.1 4) (z.1 5) (z.1 6) (z.1 8) (z.1 10) (z.1 12) (z.1 16) (z.1 20) (z.1 1) n th mv (z.1 2) (z.1 3) g i0 y0 (hC.2.1) (hi0) (hy0)) [0, 1, 2, 3] rfl rfl (by simp only [kU, LW, List.set]) ⟨rfl, rfl⟩
set_option maxHeartbeats 4000000 in
set_option maxRecDepth 100000 in
theorem d_L_value_x (l : Launch) (hls : l.stackTraces = false) (Γ : kG) (z : tAD) (w : tST) {n th mv : Nat} {g : Nat → Nat} {k : Nat} (h : OKW n th mv g k w) (x0 : Int32) (hx0 : x0 &&& (nI th ^^^ (-1)) ≠ 0) : WY l yL_value (wsw yL_value cL_value 3 (some .int) [(0, 5, 6, 38)]) (rmX 9 1 6) Γ z [.ref (z.1 0), .int x0] w 1 6 (fun r w' => r = (-2000001) ∧ w' = w) := by
  obtain ⟨cu, ⟨ho0, hs0, fn, ft, fm, fg⟩, ⟨sz0, tx⟩, ⟨sn, sh, sm9, sG, kp⟩, ⟨og, ff, cf, pg, pf, jg⟩⟩ := w
  obtain ⟨e1, e2, hC, hho, hhs, hT, hSl, hKa⟩ := h
  obtain rfl : cu = (n, th, mv, g) := e1
  obtain rfl : hs0 = k := e2
  exact wt_up (c_L_value_x l hls Γ (z.1 0) (z.1 4) (z.1 5) (z.1 6) (z.1 8) (z.1 10) (z.1 12) (z.1 16) (z.1 20) (z.1 1) n th mv (z.1 2) (z.1 3) g x0 (hx0)) [0, 1, 2, 3] rfl rfl (by simp only [kU, LW, List.set]) ⟨rfl, rfl⟩
