section
variable {p : Program} {l : Launch} {ev : Env} {st : State} {mi : MethodId} {args : Array Value} {below : List Frame} {meth : Method} {cd : Code} {H : Heap} {locs : List Loc} {Q : State → Prop} {A : Nat → Prop} {ls : Array Slot} {Γ : kG} {zb zl ix cn sl : Nat} {zs : Nat → Int32}
variable {xa : Nat} {xs : Nat} {xk : Nat} {ha : Nat} {ta : Nat} {sa : Nat} {oa : Nat} {pa : Nat} {ja : Nat} {fa : Nat} {a : Nat} {e : Nat} {hro : Nat} {tc : Nat} {sc : Nat} {oz : Nat} {oe : Nat} {oq : Nat} {pz : Nat} {pe : Nat} {pq : Nat} {je : Nat} {rf : Nat → Nat} {rg : Nat → Nat} {re : Nat → Nat} {sf : Nat → Nat} {sg : Nat → Nat} {se : Nat → Nat} {ma : Nat} {ms : Nat} {mk : Nat} {mt : Nat} {mb : Nat} {me : Nat} {mr : Nat} {mq : Nat} {mp : Nat} {mw : Nat} {mc : Nat} {ou : Nat}
variable {n0 : Nat} {th0 : Nat} {mv0 : Nat} {g : Nat → Nat} {ho0 : Nat} {hs0 : Nat} {fn : Nat → Nat} {ft : Nat → Nat} {fm : Nat → Nat} {fg : Nat → Nat → Nat} {sz0 : Nat} {tx : Nat → Nat} {cf : Nat → Nat} {og : Nat → Nat} {ff : Nat → Nat} {pg : Nat → Nat} {pf : Nat → Nat} {jg : Nat → Nat} {sn : Nat → Nat} {sh : Nat → Nat} {sm9 : Nat → Nat} {sG : Nat → Nat → Nat} {kp : Nat → Nat} {sn0 : Nat} {tw0 : Nat} {ty0 : Nat} {il0 : Bool} {my0 : Nat} {ss : Nat → Nat} {ty : Nat → Nat} {tb : Nat → Nat} {ed : Nat → Nat} {tr : Nat → Nat} {qu : Nat → Nat} {pj : Nat → Int32} {wj : Nat → Int32} {cj : Nat → Int64} {ov : Nat → Int64}
set_option maxHeartbeats 4000000 in
theorem OP_node (C0 : kLX p l st mi args meth cd Γ zb zl zs A) (hls : l.stackTraces = false) (hiL : ix + 3 ≤ zl) (hcs : cn + 1 ≤ 601024 ∧ sl + 6 ≤ 7293034) (hI : LI n0 th0 mv0 g ho0 hs0 fn ft fm fg sz0 tx og ff pg pf sn sh sm9 sG kp sn0 ty0 il0 ss ty tb) (hP : va_P Γ.1 vwCl (LWD Γ xa xs xk ha ta sa oa pa ja fa a e hro tc sc oz oe oq pz pe pq je rf rg re sf sg se ma ms mk mt mb me mr mq mp mw mc ou n0 th0 mv0 g ho0 hs0 fn ft fm fg sz0 tx cf og ff pg pf jg sn sh sm9 sG kp sn0 tw0 ty0 il0 my0 ss ty tb ed tr qu pj wj cj ov) H) (hD : va_D A (LWD Γ xa xs xk ha ta sa oa pa ja fa a e hro tc sc oz oe oq pz pe pq je rf rg re sf sg se ma ms mk mt mb me mr mq mp mw mc ou n0 th0 mv0 g ho0 hs0 fn ft fm fg sz0 tx cf og ff pg pf jg sn sh sm9 sG kp sn0 tw0 ty0 il0 my0 ss ty tb ed tr qu pj wj cj ov)) (hS : va_S A st.heap H locs) (hl : lv_has ls 9 [(4, .int (nI ix)), (3, .ref ou), (2, .ref ma), (1, .ref xa), (0, .ref zb)]) (hGO : KGO p l ev st mi args below meth cd Q A Γ zb ix xa xs xk ha ta sa oa pa ja fa a e hro tc sc oz oe oq pz pe pq je rf rg re sf sg se ma ms mk mt mb me mr mq mp mw mc ou (cn + 1) (sl + 6) 1229) : W p l ev room_1 st mi args below meth cd H locs cn sl Q (F0 mi 148 ls []) := by
  obtain ⟨hR, e1, hho, hhs, hRR, e2, hsz, e3, htx, ⟨hok, hog⟩, ⟨hpok, hpg⟩, htb, hil, hkp⟩ := hI
  subst e1
  subst e2
  subst e3
  obtain ⟨⟨f1, f2, f3, hpl, hge⟩, hfg, hn0, hth, hnb⟩ := RX_0 hR
  subst f1
  subst f2
  subst f3
  have hw14 := w14 hth hn0
  have hfgS := FG_g hge hfg
  by_cases hm : (zs (nI (ix + 1)).toNatClampNeg) = -1
  · by_cases hn1 : ss 0 < 14
    · exact K_node_e C0 hiL hcs hfg hn0 hth hho hhs hn1 hn1 hhs hm rfl hP hD hS hl (fun  H locs ls  hP hD hS hl => hGO H locs ls hP hD hS hl (LI_mk (NX_node_e hhs hR hn1) (svN_eq hhs) (svO_lt _ hho) svS_6 (RR_c (RR_sv hho hhs hR hRR) (fun i9 h9 => by rw [upN_n _ _ (by omega), upN_n _ _ (by omega), upN_n _ _ (by omega)])) rfl hsz rfl htx ⟨hok, hog⟩ ⟨hpok, hpg⟩ htb (fun q9 => by cases q9) hkp))
    · have hn1 : ss 0 = 14 := by omega
      exact K_node_f C0 hiL hcs hls hn1 hn1 (Or.inl rfl) hm hP hD hS hl (fun  H locs ls  hP hD hS hl => hGO H locs ls hP hD hS hl (LI_mk hR rfl hho hhs hRR rfl hsz rfl htx ⟨hok, hog⟩ ⟨hpok, hpg⟩ htb hil hkp))
  · cases hx : isN (ss 0) (zs (nI (ix + 1)).toNatClampNeg) with
    | false => exact K_node_x C0 hiL hcs hls hn0 hm hx hn0 hm hx rfl hP hD hS hl (fun  H locs ls  hP hD hS hl => hGO H locs ls hP hD hS hl (LI_mk hR rfl hho hhs hRR rfl hsz rfl htx ⟨hok, hog⟩ ⟨hpok, hpg⟩ htb hil hkp))
    | true =>
      obtain ⟨v0, hv0, hx1⟩ := (isN_iff hn0).mp hx
      by_cases hn1 : ss 0 < 14
      · cases hb0 : (ss 1).testBit v0 with
        | false => exact K_node_t C0 hiL hcs hls hn0 hth hn1 hv0 hb0 hn1 hw14 hv0 hb0 hx1 hP hD hS hl (fun  H locs ls  hP hD hS hl => hGO H locs ls hP hD hS hl (LI_mk hR rfl hho hhs hRR rfl hsz rfl htx ⟨hok, hog⟩ ⟨hpok, hpg⟩ htb hil hkp))
        | true => exact K_node_a C0 hiL hcs hfg hn0 hth hho hhs hn1 hv0 hb0 hn1 hw14 hv0 hb0 hhs hx1 rfl hP hD hS hl (fun  H locs ls  hP hD hS hl => hGO H locs ls hP hD hS hl (LI_mk (NX_node_a hhs hR hn1 hv0) (svN_eq hhs) (svO_lt _ hho) svS_6 (RR_c (RR_sv hho hhs hR hRR) (fun i9 h9 => by rw [lkS_hi (by omega) (by omega) h9, upN_n _ _ (by omega), upN_n _ _ (by omega), upN_n _ _ (by omega)])) rfl hsz rfl htx ⟨hok, hog⟩ ⟨hpok, hpg⟩ htb (fun q9 => by cases q9) hkp))
      · have hn1 : ss 0 = 14 := by omega
        exact K_node_g C0 hiL hcs hls hn1 hv0 hn1 (Or.inr (isN_t hn0 hv0)) hx1 hP hD hS hl (fun  H locs ls  hP hD hS hl => hGO H locs ls hP hD hS hl (LI_mk hR rfl hho hhs hRR rfl hsz rfl htx ⟨hok, hog⟩ ⟨hpok, hpg⟩ htb hil hkp))
set_option maxHeartbeats 4000000 in
theorem OP_join (C0 : kLX p l st mi args meth cd Γ zb zl zs A) (hls : l.stackTraces = false) (hiL : ix + 3 ≤ zl) (hcs : cn + 1 ≤ 601024 ∧ sl + 6 ≤ 7293034) (hI : LI n0 th0 mv0 g ho0 hs0 fn ft fm fg sz0 tx og ff pg pf sn sh sm9 sG kp sn0 ty0 il0 ss ty tb) (hP : va_P Γ.1 vwCl (LWD Γ xa xs xk ha ta sa oa pa ja fa a e hro tc sc oz oe oq pz pe pq je rf rg re sf sg se ma ms mk mt mb me mr mq mp mw mc ou n0 th0 mv0 g ho0 hs0 fn ft fm fg sz0 tx cf og ff pg pf jg sn sh sm9 sG kp sn0 tw0 ty0 il0 my0 ss ty tb ed tr qu pj wj cj ov) H) (hD : va_D A (LWD Γ xa xs xk ha ta sa oa pa ja fa a e hro tc sc oz oe oq pz pe pq je rf rg re sf sg se ma ms mk mt mb me mr mq mp mw mc ou n0 th0 mv0 g ho0 hs0 fn ft fm fg sz0 tx cf og ff pg pf jg sn sh sm9 sG kp sn0 tw0 ty0 il0 my0 ss ty tb ed tr qu pj wj cj ov)) (hS : va_S A st.heap H locs) (hl : lv_has ls 9 [(4, .int (nI ix)), (3, .ref ou), (2, .ref ma), (1, .ref xa), (0, .ref zb)]) (hGO : KGO p l ev st mi args below meth cd Q A Γ zb ix xa xs xk ha ta sa oa pa ja fa a e hro tc sc oz oe oq pz pe pq je rf rg re sf sg se ma ms mk mt mb me mr mq mp mw mc ou (cn + 1) (sl + 6) 1229) : W p l ev room_1 st mi args below meth cd H locs cn sl Q (F0 mi 204 ls []) := by
  obtain ⟨hR, e1, hho, hhs, hRR, e2, hsz, e3, htx, ⟨hok, hog⟩, ⟨hpok, hpg⟩, htb, hil, hkp⟩ := hI
  subst e1
  subst e2
  subst e3
  obtain ⟨⟨f1, f2, f3, hpl, hge⟩, hfg, hn0, hth, hnb⟩ := RX_0 hR
  subst f1
  subst f2
  subst f3
  have hw14 := w14 hth hn0
  have hfgS := FG_g hge hfg
  cases hx : isN (ss 0) (zs (nI (ix + 1)).toNatClampNeg) with
  | false => exact K_join_x C0 hiL hcs hls hn0 hx hn0 (Or.inl hx) rfl rfl hP hD hS hl (fun  H locs ls  hP hD hS hl => hGO H locs ls hP hD hS hl (LI_mk hR rfl hho hhs hRR rfl hsz rfl htx ⟨hok, hog⟩ ⟨hpok, hpg⟩ htb hil hkp))
  | true =>
    obtain ⟨i0, hi0, hx1⟩ := (isN_iff hn0).mp hx
    cases hy : isN (ss 0) (zs (nI (ix + 2)).toNatClampNeg) with
    | false => exact K_join_y C0 hiL hcs hls hn0 hi0 hy hn0 (Or.inr hy) hx1 rfl hP hD hS hl (fun  H locs ls  hP hD hS hl => hGO H locs ls hP hD hS hl (LI_mk hR rfl hho hhs hRR rfl hsz rfl htx ⟨hok, hog⟩ ⟨hpok, hpg⟩ htb hil hkp))
    | true =>
      obtain ⟨j0, hj0, hx2⟩ := (isN_iff hn0).mp hy
      cases hc : cjB g (ss 1) (ss 0) i0 j0 with
      | false => exact K_join_n C0 hiL hcs hls hfg hn0 hth hi0 hj0 hc hn0 hw14 hi0 hj0 (by rw [← cjB_c hge hn0 (by omega)]; exact hc) hx1 hx2 hP hD hS hl (fun  H locs ls  hP hD hS hl => hGO H locs ls hP hD hS hl (LI_mk hR rfl hho hhs hRR rfl hsz rfl htx ⟨hok, hog⟩ ⟨hpok, hpg⟩ htb hil hkp))
      | true =>
        exact K_join_a C0 hiL hcs hfg hn0 hth hho hhs hi0 hj0 hc hn0 hth hi0 hj0 (by rw [← cjB_c hge hn0 (by omega)]; exact hc) hhs hx1 hx2 (by rw [lkS_lo (by omega), svM_lo hhs (by omega), gS_lk]; exact congrArg nI (trC_g (lk2_e (GSV hhs hge) (by omega) (by omega) true) hw14)) hP hD hS hl (fun  H locs ls  hP hD hS hl => hGO H locs ls hP hD hS hl (LI_mk (NX_join hhs hR hi0 hj0 hc) (svN_eq hhs) (svO_lt _ hho) svS_6 (RR_c (RR_sv hho hhs hR hRR) (fun i9 h9 => lkS_hi (by omega) (by omega) h9)) rfl hsz rfl htx ⟨hok, hog⟩ ⟨hpok, hpg⟩ htb (fun q9 => by cases q9) hkp))
set_option maxHeartbeats 4000000 in
theorem OP_cut (C0 : kLX p l st mi args meth cd Γ zb zl zs A) (hls : l.stackTraces = false) (hiL : ix + 3 ≤ zl) (hcs : cn + 1 ≤ 601024 ∧ sl + 6 ≤ 7293034) (hI : LI n0 th0 mv0 g ho0 hs0 fn ft fm fg sz0 tx og ff pg pf sn sh sm9 sG kp sn0 ty0 il0 ss ty tb) (hP : va_P Γ.1 vwCl (LWD Γ xa xs xk ha ta sa oa pa ja fa a e hro tc sc oz oe oq pz pe pq je rf rg re sf sg se ma ms mk mt mb me mr mq mp mw mc ou n0 th0 mv0 g ho0 hs0 fn ft fm fg sz0 tx cf og ff pg pf jg sn sh sm9 sG kp sn0 tw0 ty0 il0 my0 ss ty tb ed tr qu pj wj cj ov) H) (hD : va_D A (LWD Γ xa xs xk ha ta sa oa pa ja fa a e hro tc sc oz oe oq pz pe pq je rf rg re sf sg se ma ms mk mt mb me mr mq mp mw mc ou n0 th0 mv0 g ho0 hs0 fn ft fm fg sz0 tx cf og ff pg pf jg sn sh sm9 sG kp sn0 tw0 ty0 il0 my0 ss ty tb ed tr qu pj wj cj ov)) (hS : va_S A st.heap H locs) (hl : lv_has ls 9 [(4, .int (nI ix)), (3, .ref ou), (2, .ref ma), (1, .ref xa), (0, .ref zb)]) (hGO : KGO p l ev st mi args below meth cd Q A Γ zb ix xa xs xk ha ta sa oa pa ja fa a e hro tc sc oz oe oq pz pe pq je rf rg re sf sg se ma ms mk mt mb me mr mq mp mw mc ou (cn + 1) (sl + 6) 1229) : W p l ev room_1 st mi args below meth cd H locs cn sl Q (F0 mi 272 ls []) := by
  obtain ⟨hR, e1, hho, hhs, hRR, e2, hsz, e3, htx, ⟨hok, hog⟩, ⟨hpok, hpg⟩, htb, hil, hkp⟩ := hI
  subst e1
  subst e2
  subst e3
  obtain ⟨⟨f1, f2, f3, hpl, hge⟩, hfg, hn0, hth, hnb⟩ := RX_0 hR
  subst f1
  subst f2
  subst f3
  have hw14 := w14 hth hn0
  have hfgS := FG_g hge hfg
  cases hx : isN (ss 0) (zs (nI (ix + 1)).toNatClampNeg) with
  | false => exact K_cut_x C0 hiL hcs hls hn0 hx hn0 (Or.inl hx) rfl rfl hP hD hS hl (fun  H locs ls  hP hD hS hl => hGO H locs ls hP hD hS hl (LI_mk hR rfl hho hhs hRR rfl hsz rfl htx ⟨hok, hog⟩ ⟨hpok, hpg⟩ htb hil hkp))
  | true =>
    obtain ⟨i0, hi0, hx1⟩ := (isN_iff hn0).mp hx
    cases hy : isN (ss 0) (zs (nI (ix + 2)).toNatClampNeg) with
    | false => exact K_cut_y C0 hiL hcs hls hn0 hi0 hy hn0 (Or.inr hy) hx1 rfl hP hD hS hl (fun  H locs ls  hP hD hS hl => hGO H locs ls hP hD hS hl (LI_mk hR rfl hho hhs hRR rfl hsz rfl htx ⟨hok, hog⟩ ⟨hpok, hpg⟩ htb hil hkp))
    | true =>
      obtain ⟨j0, hj0, hx2⟩ := (isN_iff hn0).mp hy
      cases hc : edB g (ss 1) i0 j0 with
      | false => exact K_cut_n C0 hiL hcs hls hfg hn0 hth hi0 hj0 hc hn0 hw14 hfgS hi0 hj0 (by rw [← edB_g hge (by omega)]; exact hc) hx1 hx2 hP hD hS hl (fun  H locs ls  hP hD hS hl => hGO H locs ls hP hD hS hl (LI_mk hR rfl hho hhs hRR rfl hsz rfl htx ⟨hok, hog⟩ ⟨hpok, hpg⟩ htb hil hkp))
      | true =>
        have hed := hc
        rw [edB, Bool.and_eq_true, Bool.and_eq_true] at hed
        exact K_cut_a C0 hiL hcs hfg hn0 hth hho hhs hi0 hj0 hc hn0 hth hfgS hi0 hj0 (by rw [← edB_g hge (by omega)]; exact hc) hhs hx1 hx2 (congrArg bI (mrB_c hge hth hn0 (by omega) (by omega) hed.1.1 hed.1.2)) hP hD hS hl (fun z0_ y0_ y1_ y2_ y3_ H locs ls  hP hD hS hl => hGO H locs ls hP hD hS hl (LI_mk (NX_cut hhs hR hi0 hj0 hc) (svN_eq hhs) (svO_lt _ hho) svS_6 (RR_c (RR_sv hho hhs hR hRR) (fun i9 h9 => lkS_hi (by omega) (by omega) h9)) rfl hsz rfl htx ⟨hok, hog⟩ ⟨hpok, hpg⟩ htb (fun q9 => by cases q9) hkp))
set_option maxHeartbeats 4000000 in
theorem OP_ifJoined (C0 : kLX p l st mi args meth cd Γ zb zl zs A) (hls : l.stackTraces = false) (hiL : ix + 3 ≤ zl) (hcs : cn + 1 ≤ 601024 ∧ sl + 6 ≤ 7293034) (hI : LI n0 th0 mv0 g ho0 hs0 fn ft fm fg sz0 tx og ff pg pf sn sh sm9 sG kp sn0 ty0 il0 ss ty tb) (hP : va_P Γ.1 vwCl (LWD Γ xa xs xk ha ta sa oa pa ja fa a e hro tc sc oz oe oq pz pe pq je rf rg re sf sg se ma ms mk mt mb me mr mq mp mw mc ou n0 th0 mv0 g ho0 hs0 fn ft fm fg sz0 tx cf og ff pg pf jg sn sh sm9 sG kp sn0 tw0 ty0 il0 my0 ss ty tb ed tr qu pj wj cj ov) H) (hD : va_D A (LWD Γ xa xs xk ha ta sa oa pa ja fa a e hro tc sc oz oe oq pz pe pq je rf rg re sf sg se ma ms mk mt mb me mr mq mp mw mc ou n0 th0 mv0 g ho0 hs0 fn ft fm fg sz0 tx cf og ff pg pf jg sn sh sm9 sG kp sn0 tw0 ty0 il0 my0 ss ty tb ed tr qu pj wj cj ov)) (hS : va_S A st.heap H locs) (hl : lv_has ls 9 [(4, .int (nI ix)), (3, .ref ou), (2, .ref ma), (1, .ref xa), (0, .ref zb)]) (hGO : KGO p l ev st mi args below meth cd Q A Γ zb ix xa xs xk ha ta sa oa pa ja fa a e hro tc sc oz oe oq pz pe pq je rf rg re sf sg se ma ms mk mt mb me mr mq mp mw mc ou (cn + 1) (sl + 6) 1229) : W p l ev room_1 st mi args below meth cd H locs cn sl Q (F0 mi 1050 ls []) := by
  obtain ⟨hR, e1, hho, hhs, hRR, e2, hsz, e3, htx, ⟨hok, hog⟩, ⟨hpok, hpg⟩, htb, hil, hkp⟩ := hI
  subst e1
  subst e2
  subst e3
  obtain ⟨⟨f1, f2, f3, hpl, hge⟩, hfg, hn0, hth, hnb⟩ := RX_0 hR
  subst f1
  subst f2
  subst f3
  have hw14 := w14 hth hn0
  have hfgS := FG_g hge hfg
  cases hx : isN (ss 0) (zs (nI (ix + 1)).toNatClampNeg) with
  | false => exact K_ifJoined_x C0 hiL hcs hls hn0 hx hn0 (Or.inl hx) rfl rfl hP hD hS hl (fun  H locs ls  hP hD hS hl => hGO H locs ls hP hD hS hl (LI_mk hR rfl hho hhs hRR rfl hsz rfl htx ⟨hok, hog⟩ ⟨hpok, hpg⟩ htb hil hkp))
  | true =>
    obtain ⟨i0, hi0, hx1⟩ := (isN_iff hn0).mp hx
    cases hy : isN (ss 0) (zs (nI (ix + 2)).toNatClampNeg) with
    | false => exact K_ifJoined_y C0 hiL hcs hls hn0 hi0 hy hn0 (Or.inr hy) hx1 rfl hP hD hS hl (fun  H locs ls  hP hD hS hl => hGO H locs ls hP hD hS hl (LI_mk hR rfl hho hhs hRR rfl hsz rfl htx ⟨hok, hog⟩ ⟨hpok, hpg⟩ htb hil hkp))
    | true =>
      obtain ⟨j0, hj0, hx2⟩ := (isN_iff hn0).mp hy
      cases hc : cjB g (ss 1) (ss 0) i0 j0 with
      | false => exact K_ifJoined_n C0 hiL hcs hfg hn0 hth hi0 hj0 hc hn0 hw14 hi0 hj0 (by rw [← cjB_c hge hn0 (by omega)]; exact hc) hx1 hx2 hP hD hS hl (fun  H locs ls  hP hD hS hl => hGO H locs ls hP hD hS hl (LI_mk hR rfl hho hhs hRR rfl hsz rfl htx ⟨hok, hog⟩ ⟨hpok, hpg⟩ htb hil hkp))
      | true =>
        exact K_ifJoined_a C0 hiL hcs hfg hn0 hth hpg hpok hi0 hj0 hc hn0 hth htb hil hi0 hj0 hfgS.2.1 (by rw [← cjB_c hge hn0 (by omega)]; exact hc) hx1 hx2 (by rw [gS_lk]; exact congrArg nI (V_g (lk2_e hge (by omega) (by omega) true) _)) hP hD hS hl (fun z0_ z1_ z2_ y0_ y1_ H locs ls ph0 ph1 qh0 hP hD hS hl => hGO H locs ls hP hD hS hl (LI_mk hR rfl hho hhs hRR rfl hsz rfl htx ⟨hok, hog⟩ ⟨ph0, ph1⟩ qh0 (fun q9 => by cases q9) hkp))
set_option maxHeartbeats 4000000 in
theorem OP_take (C0 : kLX p l st mi args meth cd Γ zb zl zs A) (hls : l.stackTraces = false) (hiL : ix + 3 ≤ zl) (hcs : cn + 1 ≤ 601024 ∧ sl + 6 ≤ 7293034) (hI : LI n0 th0 mv0 g ho0 hs0 fn ft fm fg sz0 tx og ff pg pf sn sh sm9 sG kp sn0 ty0 il0 ss ty tb) (hP : va_P Γ.1 vwCl (LWD Γ xa xs xk ha ta sa oa pa ja fa a e hro tc sc oz oe oq pz pe pq je rf rg re sf sg se ma ms mk mt mb me mr mq mp mw mc ou n0 th0 mv0 g ho0 hs0 fn ft fm fg sz0 tx cf og ff pg pf jg sn sh sm9 sG kp sn0 tw0 ty0 il0 my0 ss ty tb ed tr qu pj wj cj ov) H) (hD : va_D A (LWD Γ xa xs xk ha ta sa oa pa ja fa a e hro tc sc oz oe oq pz pe pq je rf rg re sf sg se ma ms mk mt mb me mr mq mp mw mc ou n0 th0 mv0 g ho0 hs0 fn ft fm fg sz0 tx cf og ff pg pf jg sn sh sm9 sG kp sn0 tw0 ty0 il0 my0 ss ty tb ed tr qu pj wj cj ov)) (hS : va_S A st.heap H locs) (hl : lv_has ls 9 [(4, .int (nI ix)), (3, .ref ou), (2, .ref ma), (1, .ref xa), (0, .ref zb)]) (hGO : KGO p l ev st mi args below meth cd Q A Γ zb ix xa xs xk ha ta sa oa pa ja fa a e hro tc sc oz oe oq pz pe pq je rf rg re sf sg se ma ms mk mt mb me mr mq mp mw mc ou (cn + 1) (sl + 6) 1229) : W p l ev room_1 st mi args below meth cd H locs cn sl Q (F0 mi 340 ls []) := by
  obtain ⟨hR, e1, hho, hhs, hRR, e2, hsz, e3, htx, ⟨hok, hog⟩, ⟨hpok, hpg⟩, htb, hil, hkp⟩ := hI
  subst e1
  subst e2
  subst e3
  obtain ⟨⟨f1, f2, f3, hpl, hge⟩, hfg, hn0, hth, hnb⟩ := RX_0 hR
  subst f1
  subst f2
  subst f3
  have hw14 := w14 hth hn0
  have hfgS := FG_g hge hfg
  cases hx : isN (ss 0) (zs (nI (ix + 1)).toNatClampNeg) with
  | false => exact K_take_x C0 hiL hcs hls hn0 hx hn0 hx rfl hP hD hS hl (fun  H locs ls  hP hD hS hl => hGO H locs ls hP hD hS hl (LI_mk hR rfl hho hhs hRR rfl hsz rfl htx ⟨hok, hog⟩ ⟨hpok, hpg⟩ htb hil hkp))
  | true =>
    obtain ⟨v0, hv0, hx1⟩ := (isN_iff hn0).mp hx
    cases hb0 : (ss 1).testBit v0 with
    | false => exact K_take_t C0 hiL hcs hls hn0 hth hv0 hb0 hn0 hw14 hv0 hb0 hx1 hP hD hS hl (fun  H locs ls  hP hD hS hl => hGO H locs ls hP hD hS hl (LI_mk hR rfl hho hhs hRR rfl hsz rfl htx ⟨hok, hog⟩ ⟨hpok, hpg⟩ htb hil hkp))
    | true => exact K_take_a C0 hiL hcs hfg hn0 hth hho hhs hv0 hb0 hn0 hw14 hv0 hb0 hhs (by omega) hx1 (congrArg nI (tk_pc hge (by omega))) hP hD hS hl (fun  H locs ls  hP hD hS hl => hGO H locs ls hP hD hS hl (LI_mk (NX_take hhs hR (by omega)) (svN_eq hhs) (svO_lt _ hho) svS_6 (RR_c (RR_sv hho hhs hR hRR) (fun i9 h9 => tkS_hi (by omega))) rfl hsz rfl htx ⟨hok, hog⟩ ⟨hpok, hpg⟩ htb (IL_c hil (TK_e hhs) (TK_0 hhs)) hkp))
set_option maxHeartbeats 4000000 in
theorem OP_reply (C0 : kLX p l st mi args meth cd Γ zb zl zs A) (hls : l.stackTraces = false) (hiL : ix + 3 ≤ zl) (hcs : cn + 1 ≤ 601024 ∧ sl + 6 ≤ 7293034) (hI : LI n0 th0 mv0 g ho0 hs0 fn ft fm fg sz0 tx og ff pg pf sn sh sm9 sG kp sn0 ty0 il0 ss ty tb) (hP : va_P Γ.1 vwCl (LWD Γ xa xs xk ha ta sa oa pa ja fa a e hro tc sc oz oe oq pz pe pq je rf rg re sf sg se ma ms mk mt mb me mr mq mp mw mc ou n0 th0 mv0 g ho0 hs0 fn ft fm fg sz0 tx cf og ff pg pf jg sn sh sm9 sG kp sn0 tw0 ty0 il0 my0 ss ty tb ed tr qu pj wj cj ov) H) (hD : va_D A (LWD Γ xa xs xk ha ta sa oa pa ja fa a e hro tc sc oz oe oq pz pe pq je rf rg re sf sg se ma ms mk mt mb me mr mq mp mw mc ou n0 th0 mv0 g ho0 hs0 fn ft fm fg sz0 tx cf og ff pg pf jg sn sh sm9 sG kp sn0 tw0 ty0 il0 my0 ss ty tb ed tr qu pj wj cj ov)) (hS : va_S A st.heap H locs) (hl : lv_has ls 9 [(4, .int (nI ix)), (3, .ref ou), (2, .ref ma), (1, .ref xa), (0, .ref zb)]) (hGO : KGO p l ev st mi args below meth cd Q A Γ zb ix xa xs xk ha ta sa oa pa ja fa a e hro tc sc oz oe oq pz pe pq je rf rg re sf sg se ma ms mk mt mb me mr mq mp mw mc ou (cn + 1) (sl + 6) 1229) : W p l ev room_1 st mi args below meth cd H locs cn sl Q (F0 mi 396 ls []) := by
  obtain ⟨hR, e1, hho, hhs, hRR, e2, hsz, e3, htx, ⟨hok, hog⟩, ⟨hpok, hpg⟩, htb, hil, hkp⟩ := hI
  subst e1
  subst e2
  subst e3
  obtain ⟨⟨f1, f2, f3, hpl, hge⟩, hfg, hn0, hth, hnb⟩ := RX_0 hR
  subst f1
  subst f2
  subst f3
  have hw14 := w14 hth hn0
  have hfgS := FG_g hge hfg
  by_cases hz : ss 1 = 0
  · exact K_reply_x C0 hiL hcs hls hz hz hP hD hS hl (fun  H locs ls  hP hD hS hl => hGO H locs ls hP hD hS hl (LI_mk hR rfl hho hhs hRR rfl hsz rfl htx ⟨hok, hog⟩ ⟨hpok, hpg⟩ htb hil hkp))
  · have he := rpN_g (W := ss 1) hge hn0
    have hr1 := (rpN_in (g := g) hn0 hw14 hz).1
    exact K_reply_a C0 hiL hcs hfg hn0 hth hho hhs hog hok hz hn0 hth htb hil hz hhs (by omega) (congrArg nI he) hP hD hS hl (fun z0_ z1_ y0_ y1_ y2_ H locs ls ph0 ph1 qh0 qh1 hP hD hS hl => hGO H locs ls hP hD hS hl (LI_mk (by rw [← he]; exact NX_take hhs hR hr1) (svN_eq hhs) (svO_lt _ hho) svS_6 (RR_c (RR_sv hho hhs hR hRR) (fun i9 h9 => tkS_hi (by omega))) rfl hsz rfl htx ⟨ph0, ph1⟩ ⟨hpok, hpg⟩ qh0 (IL_c qh1 (TK_e hhs) (TK_0 hhs)) hkp))
set_option maxHeartbeats 4000000 in
theorem OP_again (C0 : kLX p l st mi args meth cd Γ zb zl zs A) (hls : l.stackTraces = false) (hiL : ix + 3 ≤ zl) (hcs : cn + 1 ≤ 601024 ∧ sl + 6 ≤ 7293034) (hI : LI n0 th0 mv0 g ho0 hs0 fn ft fm fg sz0 tx og ff pg pf sn sh sm9 sG kp sn0 ty0 il0 ss ty tb) (hP : va_P Γ.1 vwCl (LWD Γ xa xs xk ha ta sa oa pa ja fa a e hro tc sc oz oe oq pz pe pq je rf rg re sf sg se ma ms mk mt mb me mr mq mp mw mc ou n0 th0 mv0 g ho0 hs0 fn ft fm fg sz0 tx cf og ff pg pf jg sn sh sm9 sG kp sn0 tw0 ty0 il0 my0 ss ty tb ed tr qu pj wj cj ov) H) (hD : va_D A (LWD Γ xa xs xk ha ta sa oa pa ja fa a e hro tc sc oz oe oq pz pe pq je rf rg re sf sg se ma ms mk mt mb me mr mq mp mw mc ou n0 th0 mv0 g ho0 hs0 fn ft fm fg sz0 tx cf og ff pg pf jg sn sh sm9 sG kp sn0 tw0 ty0 il0 my0 ss ty tb ed tr qu pj wj cj ov)) (hS : va_S A st.heap H locs) (hl : lv_has ls 9 [(4, .int (nI ix)), (3, .ref ou), (2, .ref ma), (1, .ref xa), (0, .ref zb)]) (hGO : KGO p l ev st mi args below meth cd Q A Γ zb ix xa xs xk ha ta sa oa pa ja fa a e hro tc sc oz oe oq pz pe pq je rf rg re sf sg se ma ms mk mt mb me mr mq mp mw mc ou (cn + 1) (sl + 6) 1229) : W p l ev room_1 st mi args below meth cd H locs cn sl Q (F0 mi 440 ls []) := by
  obtain ⟨hR, e1, hho, hhs, hRR, e2, hsz, e3, htx, ⟨hok, hog⟩, ⟨hpok, hpg⟩, htb, hil, hkp⟩ := hI
  subst e1
  subst e2
  subst e3
  obtain ⟨⟨f1, f2, f3, hpl, hge⟩, hfg, hn0, hth, hnb⟩ := RX_0 hR
  subst f1
  subst f2
  subst f3
  have hw14 := w14 hth hn0
  have hfgS := FG_g hge hfg
  exact K_again C0 hiL hcs hfg hn0 hth hho hhs hhs hn0 hth rfl hP hD hS hl (fun  H locs ls  hP hD hS hl => hGO H locs ls hP hD hS hl (LI_mk (NX_again hhs hR) (svN_eq hhs) (svO_lt _ hho) svS_6 (RR_c (RR_sv hho hhs hR hRR) (fun i9 h9 => bgS_hi (by omega))) rfl hsz rfl htx ⟨hok, hog⟩ ⟨hpok, hpg⟩ htb (IL_c hil (BG_e hhs) (BG_0 hhs)) hkp))
set_option maxHeartbeats 4000000 in
theorem OP_append (C0 : kLX p l st mi args meth cd Γ zb zl zs A) (hls : l.stackTraces = false) (hiL : ix + 3 ≤ zl) (hcs : cn + 1 ≤ 601024 ∧ sl + 6 ≤ 7293034) (hI : LI n0 th0 mv0 g ho0 hs0 fn ft fm fg sz0 tx og ff pg pf sn sh sm9 sG kp sn0 ty0 il0 ss ty tb) (hP : va_P Γ.1 vwCl (LWD Γ xa xs xk ha ta sa oa pa ja fa a e hro tc sc oz oe oq pz pe pq je rf rg re sf sg se ma ms mk mt mb me mr mq mp mw mc ou n0 th0 mv0 g ho0 hs0 fn ft fm fg sz0 tx cf og ff pg pf jg sn sh sm9 sG kp sn0 tw0 ty0 il0 my0 ss ty tb ed tr qu pj wj cj ov) H) (hD : va_D A (LWD Γ xa xs xk ha ta sa oa pa ja fa a e hro tc sc oz oe oq pz pe pq je rf rg re sf sg se ma ms mk mt mb me mr mq mp mw mc ou n0 th0 mv0 g ho0 hs0 fn ft fm fg sz0 tx cf og ff pg pf jg sn sh sm9 sG kp sn0 tw0 ty0 il0 my0 ss ty tb ed tr qu pj wj cj ov)) (hS : va_S A st.heap H locs) (hl : lv_has ls 9 [(4, .int (nI ix)), (3, .ref ou), (2, .ref ma), (1, .ref xa), (0, .ref zb)]) (hGO : KGO p l ev st mi args below meth cd Q A Γ zb ix xa xs xk ha ta sa oa pa ja fa a e hro tc sc oz oe oq pz pe pq je rf rg re sf sg se ma ms mk mt mb me mr mq mp mw mc ou (cn + 1) (sl + 6) 1229) : W p l ev room_1 st mi args below meth cd H locs cn sl Q (F0 mi 453 ls []) := by
  obtain ⟨hR, e1, hho, hhs, hRR, e2, hsz, e3, htx, ⟨hok, hog⟩, ⟨hpok, hpg⟩, htb, hil, hkp⟩ := hI
  subst e1
  subst e2
  subst e3
  obtain ⟨⟨f1, f2, f3, hpl, hge⟩, hfg, hn0, hth, hnb⟩ := RX_0 hR
  subst f1
  subst f2
  subst f3
  have hw14 := w14 hth hn0
  have hfgS := FG_g hge hfg
  by_cases hr : nI 33 ≤ (zs (nI (ix + 1)).toNatClampNeg) ∧ (zs (nI (ix + 1)).toNatClampNeg) ≤ nI 126
  · obtain ⟨c0, h33, h126, hx1⟩ := rg_ex (by decide) (by decide) hr
    by_cases hq : sz0 < 14
    · exact K_append_a C0 hiL hcs h33 h126 hq h33 h126 hq hx1 rfl hP hD hS hl (fun  H locs ls  hP hD hS hl => hGO H locs ls hP hD hS hl (LI_mk hR rfl hho hhs hRR rfl hq rfl (fun i9 h9 => upN_128 htx h126 i9 h9) ⟨hok, hog⟩ ⟨hpok, hpg⟩ htb hil hkp))
    · have hq : sz0 = 14 := by omega
      exact K_append_f C0 hiL hcs hls h33 h126 hq h33 h126 hq hx1 hP hD hS hl (fun  H locs ls  hP hD hS hl => hGO H locs ls hP hD hS hl (LI_mk hR rfl hho hhs hRR rfl hsz rfl htx ⟨hok, hog⟩ ⟨hpok, hpg⟩ htb hil hkp))
  · exact K_append_x C0 hiL hcs hls hr hr hsz rfl hP hD hS hl (fun  H locs ls  hP hD hS hl => hGO H locs ls hP hD hS hl (LI_mk hR rfl hho hhs hRR rfl hsz rfl htx ⟨hok, hog⟩ ⟨hpok, hpg⟩ htb hil hkp))
set_option maxHeartbeats 4000000 in
theorem OP_clearBuffer (C0 : kLX p l st mi args meth cd Γ zb zl zs A) (hls : l.stackTraces = false) (hiL : ix + 3 ≤ zl) (hcs : cn + 1 ≤ 601024 ∧ sl + 6 ≤ 7293034) (hI : LI n0 th0 mv0 g ho0 hs0 fn ft fm fg sz0 tx og ff pg pf sn sh sm9 sG kp sn0 ty0 il0 ss ty tb) (hP : va_P Γ.1 vwCl (LWD Γ xa xs xk ha ta sa oa pa ja fa a e hro tc sc oz oe oq pz pe pq je rf rg re sf sg se ma ms mk mt mb me mr mq mp mw mc ou n0 th0 mv0 g ho0 hs0 fn ft fm fg sz0 tx cf og ff pg pf jg sn sh sm9 sG kp sn0 tw0 ty0 il0 my0 ss ty tb ed tr qu pj wj cj ov) H) (hD : va_D A (LWD Γ xa xs xk ha ta sa oa pa ja fa a e hro tc sc oz oe oq pz pe pq je rf rg re sf sg se ma ms mk mt mb me mr mq mp mw mc ou n0 th0 mv0 g ho0 hs0 fn ft fm fg sz0 tx cf og ff pg pf jg sn sh sm9 sG kp sn0 tw0 ty0 il0 my0 ss ty tb ed tr qu pj wj cj ov)) (hS : va_S A st.heap H locs) (hl : lv_has ls 9 [(4, .int (nI ix)), (3, .ref ou), (2, .ref ma), (1, .ref xa), (0, .ref zb)]) (hGO : KGO p l ev st mi args below meth cd Q A Γ zb ix xa xs xk ha ta sa oa pa ja fa a e hro tc sc oz oe oq pz pe pq je rf rg re sf sg se ma ms mk mt mb me mr mq mp mw mc ou (cn + 1) (sl + 6) 1229) : W p l ev room_1 st mi args below meth cd H locs cn sl Q (F0 mi 509 ls []) := by
  obtain ⟨hR, e1, hho, hhs, hRR, e2, hsz, e3, htx, ⟨hok, hog⟩, ⟨hpok, hpg⟩, htb, hil, hkp⟩ := hI
  subst e1
  subst e2
  subst e3
  obtain ⟨⟨f1, f2, f3, hpl, hge⟩, hfg, hn0, hth, hnb⟩ := RX_0 hR
  subst f1
  subst f2
  subst f3
  have hw14 := w14 hth hn0
  have hfgS := FG_g hge hfg
  exact K_clearBuffer C0 hiL hcs rfl hP hD hS hl (fun  H locs ls  hP hD hS hl => hGO H locs ls hP hD hS hl (LI_mk hR rfl hho hhs hRR rfl (Nat.zero_le _) rfl htx ⟨hok, hog⟩ ⟨hpok, hpg⟩ htb hil hkp))
set_option maxHeartbeats 4000000 in
theorem OP_firstError (C0 : kLX p l st mi args meth cd Γ zb zl zs A) (hls : l.stackTraces = false) (hiL : ix + 3 ≤ zl) (hcs : cn + 1 ≤ 601024 ∧ sl + 6 ≤ 7293034) (hI : LI n0 th0 mv0 g ho0 hs0 fn ft fm fg sz0 tx og ff pg pf sn sh sm9 sG kp sn0 ty0 il0 ss ty tb) (hP : va_P Γ.1 vwCl (LWD Γ xa xs xk ha ta sa oa pa ja fa a e hro tc sc oz oe oq pz pe pq je rf rg re sf sg se ma ms mk mt mb me mr mq mp mw mc ou n0 th0 mv0 g ho0 hs0 fn ft fm fg sz0 tx cf og ff pg pf jg sn sh sm9 sG kp sn0 tw0 ty0 il0 my0 ss ty tb ed tr qu pj wj cj ov) H) (hD : va_D A (LWD Γ xa xs xk ha ta sa oa pa ja fa a e hro tc sc oz oe oq pz pe pq je rf rg re sf sg se ma ms mk mt mb me mr mq mp mw mc ou n0 th0 mv0 g ho0 hs0 fn ft fm fg sz0 tx cf og ff pg pf jg sn sh sm9 sG kp sn0 tw0 ty0 il0 my0 ss ty tb ed tr qu pj wj cj ov)) (hS : va_S A st.heap H locs) (hl : lv_has ls 9 [(4, .int (nI ix)), (3, .ref ou), (2, .ref ma), (1, .ref xa), (0, .ref zb)]) (hGO : KGO p l ev st mi args below meth cd Q A Γ zb ix xa xs xk ha ta sa oa pa ja fa a e hro tc sc oz oe oq pz pe pq je rf rg re sf sg se ma ms mk mt mb me mr mq mp mw mc ou (cn + 1) (sl + 6) 1229) : W p l ev room_1 st mi args below meth cd H locs cn sl Q (F0 mi 522 ls []) := by
  obtain ⟨hR, e1, hho, hhs, hRR, e2, hsz, e3, htx, ⟨hok, hog⟩, ⟨hpok, hpg⟩, htb, hil, hkp⟩ := hI
  subst e1
  subst e2
  subst e3
  obtain ⟨⟨f1, f2, f3, hpl, hge⟩, hfg, hn0, hth, hnb⟩ := RX_0 hR
  subst f1
  subst f2
  subst f3
  have hw14 := w14 hth hn0
  have hfgS := FG_g hge hfg
  exact K_firstError C0 hiL hcs htx hsz hsz htx rfl hP hD hS hl (fun  H locs ls  hP hD hS hl => hGO H locs ls hP hD hS hl (LI_mk hR rfl hho hhs hRR rfl hsz rfl htx ⟨hok, hog⟩ ⟨hpok, hpg⟩ htb hil hkp))
set_option maxHeartbeats 4000000 in
theorem OP_load (C0 : kLX p l st mi args meth cd Γ zb zl zs A) (hls : l.stackTraces = false) (hiL : ix + 3 ≤ zl) (hcs : cn + 1 ≤ 601024 ∧ sl + 6 ≤ 7293034) (hI : LI n0 th0 mv0 g ho0 hs0 fn ft fm fg sz0 tx og ff pg pf sn sh sm9 sG kp sn0 ty0 il0 ss ty tb) (hP : va_P Γ.1 vwCl (LWD Γ xa xs xk ha ta sa oa pa ja fa a e hro tc sc oz oe oq pz pe pq je rf rg re sf sg se ma ms mk mt mb me mr mq mp mw mc ou n0 th0 mv0 g ho0 hs0 fn ft fm fg sz0 tx cf og ff pg pf jg sn sh sm9 sG kp sn0 tw0 ty0 il0 my0 ss ty tb ed tr qu pj wj cj ov) H) (hD : va_D A (LWD Γ xa xs xk ha ta sa oa pa ja fa a e hro tc sc oz oe oq pz pe pq je rf rg re sf sg se ma ms mk mt mb me mr mq mp mw mc ou n0 th0 mv0 g ho0 hs0 fn ft fm fg sz0 tx cf og ff pg pf jg sn sh sm9 sG kp sn0 tw0 ty0 il0 my0 ss ty tb ed tr qu pj wj cj ov)) (hS : va_S A st.heap H locs) (hl : lv_has ls 9 [(4, .int (nI ix)), (3, .ref ou), (2, .ref ma), (1, .ref xa), (0, .ref zb)]) (hGO : KGO p l ev st mi args below meth cd Q A Γ zb ix xa xs xk ha ta sa oa pa ja fa a e hro tc sc oz oe oq pz pe pq je rf rg re sf sg se ma ms mk mt mb me mr mq mp mw mc ou (cn + 1) (sl + 6) 1229) : W p l ev room_1 st mi args below meth cd H locs cn sl Q (F0 mi 535 ls []) := by
  obtain ⟨hR, e1, hho, hhs, hRR, e2, hsz, e3, htx, ⟨hok, hog⟩, ⟨hpok, hpg⟩, htb, hil, hkp⟩ := hI
  subst e1
  subst e2
  subst e3
  obtain ⟨⟨f1, f2, f3, hpl, hge⟩, hfg, hn0, hth, hnb⟩ := RX_0 hR
  subst f1
  subst f2
  subst f3
  have hw14 := w14 hth hn0
  have hfgS := FG_g hge hfg
  by_cases hfw : fst (wrg tx) sz0 < sz0
  · exact K_load_x C0 hiL hcs hls htx hsz hfw hsz htx hfw hP hD hS hl (fun  H locs ls  hP hD hS hl => hGO H locs ls hP hD hS hl (LI_mk hR rfl hho hhs hRR rfl hsz rfl htx ⟨hok, hog⟩ ⟨hpok, hpg⟩ htb hil hkp))
  · exact K_load_a C0 hiL hcs hfg hn0 hth hho hhs htx hsz hfw hsz htx hfw hhs rfl hP hD hS hl (fun  H locs ls  hP hD hS hl => hGO H locs ls hP hD hS hl (LI_mk (NX_load hsz hfw) (svN_eq hhs) (svO_lt _ hho) svS_6 (RR_c (RR_sv hho hhs hR hRR) (fun i9 h9 => LD_hi hsz hfw h9)) rfl (Nat.zero_le _) rfl htx ⟨hok, hog⟩ ⟨hpok, hpg⟩ htb (fun q9 => by cases q9) hkp))
set_option maxHeartbeats 4000000 in
theorem OP_write (C0 : kLX p l st mi args meth cd Γ zb zl zs A) (hls : l.stackTraces = false) (hiL : ix + 3 ≤ zl) (hcs : cn + 1 ≤ 601024 ∧ sl + 6 ≤ 7293034) (hI : LI n0 th0 mv0 g ho0 hs0 fn ft fm fg sz0 tx og ff pg pf sn sh sm9 sG kp sn0 ty0 il0 ss ty tb) (hP : va_P Γ.1 vwCl (LWD Γ xa xs xk ha ta sa oa pa ja fa a e hro tc sc oz oe oq pz pe pq je rf rg re sf sg se ma ms mk mt mb me mr mq mp mw mc ou n0 th0 mv0 g ho0 hs0 fn ft fm fg sz0 tx cf og ff pg pf jg sn sh sm9 sG kp sn0 tw0 ty0 il0 my0 ss ty tb ed tr qu pj wj cj ov) H) (hD : va_D A (LWD Γ xa xs xk ha ta sa oa pa ja fa a e hro tc sc oz oe oq pz pe pq je rf rg re sf sg se ma ms mk mt mb me mr mq mp mw mc ou n0 th0 mv0 g ho0 hs0 fn ft fm fg sz0 tx cf og ff pg pf jg sn sh sm9 sG kp sn0 tw0 ty0 il0 my0 ss ty tb ed tr qu pj wj cj ov)) (hS : va_S A st.heap H locs) (hl : lv_has ls 9 [(4, .int (nI ix)), (3, .ref ou), (2, .ref ma), (1, .ref xa), (0, .ref zb)]) (hGO : KGO p l ev st mi args below meth cd Q A Γ zb ix xa xs xk ha ta sa oa pa ja fa a e hro tc sc oz oe oq pz pe pq je rf rg re sf sg se ma ms mk mt mb me mr mq mp mw mc ou (cn + 1) (sl + 6) 1229) : W p l ev room_1 st mi args below meth cd H locs cn sl Q (F0 mi 579 ls []) := by
  obtain ⟨hR, e1, hho, hhs, hRR, e2, hsz, e3, htx, ⟨hok, hog⟩, ⟨hpok, hpg⟩, htb, hil, hkp⟩ := hI
  subst e1
  subst e2
  subst e3
  obtain ⟨⟨f1, f2, f3, hpl, hge⟩, hfg, hn0, hth, hnb⟩ := RX_0 hR
  subst f1
  subst f2
  subst f3
  have hw14 := w14 hth hn0
  have hfgS := FG_g hge hfg
  have hwe := wrt_c hge (ss 0) hn0
  cases hwr : wrt g (ss 0) with
  | false => exact K_write_n C0 hiL hcs hfg hn0 hth hwr hn0 hfgS.1 (hwe.symm.trans hwr) hP hD hS hl (fun  H locs ls  hP hD hS hl => hGO H locs ls hP hD hS hl (LI_mk hR rfl hho hhs hRR rfl hsz rfl htx ⟨hok, hog⟩ ⟨hpok, hpg⟩ htb hil hkp))
  | true => exact K_write_a C0 hiL hcs hfg hn0 hth hwr hn0 hfgS.1 (hwe.symm.trans hwr) rfl hP hD hS hl (fun  H locs ls  hP hD hS hl => hGO H locs ls hP hD hS hl (LI_mk hR rfl hho hhs hRR rfl hn0 (wrS_c hge _ hn0) (wrS_128 hfg.1 htx hn0) ⟨hok, hog⟩ ⟨hpok, hpg⟩ htb hil hkp))
set_option maxHeartbeats 4000000 in
theorem OP_keep (C0 : kLX p l st mi args meth cd Γ zb zl zs A) (hls : l.stackTraces = false) (hiL : ix + 3 ≤ zl) (hcs : cn + 1 ≤ 601024 ∧ sl + 6 ≤ 7293034) (hI : LI n0 th0 mv0 g ho0 hs0 fn ft fm fg sz0 tx og ff pg pf sn sh sm9 sG kp sn0 ty0 il0 ss ty tb) (hP : va_P Γ.1 vwCl (LWD Γ xa xs xk ha ta sa oa pa ja fa a e hro tc sc oz oe oq pz pe pq je rf rg re sf sg se ma ms mk mt mb me mr mq mp mw mc ou n0 th0 mv0 g ho0 hs0 fn ft fm fg sz0 tx cf og ff pg pf jg sn sh sm9 sG kp sn0 tw0 ty0 il0 my0 ss ty tb ed tr qu pj wj cj ov) H) (hD : va_D A (LWD Γ xa xs xk ha ta sa oa pa ja fa a e hro tc sc oz oe oq pz pe pq je rf rg re sf sg se ma ms mk mt mb me mr mq mp mw mc ou n0 th0 mv0 g ho0 hs0 fn ft fm fg sz0 tx cf og ff pg pf jg sn sh sm9 sG kp sn0 tw0 ty0 il0 my0 ss ty tb ed tr qu pj wj cj ov)) (hS : va_S A st.heap H locs) (hl : lv_has ls 9 [(4, .int (nI ix)), (3, .ref ou), (2, .ref ma), (1, .ref xa), (0, .ref zb)]) (hGO : KGO p l ev st mi args below meth cd Q A Γ zb ix xa xs xk ha ta sa oa pa ja fa a e hro tc sc oz oe oq pz pe pq je rf rg re sf sg se ma ms mk mt mb me mr mq mp mw mc ou (cn + 1) (sl + 6) 1229) : W p l ev room_1 st mi args below meth cd H locs cn sl Q (F0 mi 592 ls []) := by
  obtain ⟨hR, e1, hho, hhs, hRR, e2, hsz, e3, htx, ⟨hok, hog⟩, ⟨hpok, hpg⟩, htb, hil, hkp⟩ := hI
  subst e1
  subst e2
  subst e3
  obtain ⟨⟨f1, f2, f3, hpl, hge⟩, hfg, hn0, hth, hnb⟩ := RX_0 hR
  subst f1
  subst f2
  subst f3
  have hw14 := w14 hth hn0
  have hfgS := FG_g hge hfg
  by_cases hr : nI 0 ≤ (zs (nI (ix + 1)).toNatClampNeg) ∧ (zs (nI (ix + 1)).toNatClampNeg) ≤ nI 1
  · obtain ⟨s0, -, hs1, hx1⟩ := rg_ex (by decide) (by decide) hr
    have hs0_ : s0 < 2 := by omega
    exact K_keep_a C0 hiL hcs hfg hn0 hth hs0_ hs0_ hw14 hx1 rfl hP hD hS hl (fun  H locs ls  hP hD hS hl => hGO H locs ls hP hD hS hl (LI_mk (RR_kp hhs hs0_ hR hRR).1 rfl hho hhs (RR_kp hhs hs0_ hR hRR).2 rfl hsz rfl htx ⟨hok, hog⟩ ⟨hpok, hpg⟩ htb (fun q9 => by cases q9) (fun i9 => upN_1 hkp i9)))
  · exact K_keep_x C0 hiL hcs hls hr hr rfl hP hD hS hl (fun  H locs ls  hP hD hS hl => hGO H locs ls hP hD hS hl (LI_mk hR rfl hho hhs hRR rfl hsz rfl htx ⟨hok, hog⟩ ⟨hpok, hpg⟩ htb hil hkp))
set_option maxHeartbeats 4000000 in
theorem OP_goBack (C0 : kLX p l st mi args meth cd Γ zb zl zs A) (hls : l.stackTraces = false) (hiL : ix + 3 ≤ zl) (hcs : cn + 1 ≤ 601024 ∧ sl + 6 ≤ 7293034) (hI : LI n0 th0 mv0 g ho0 hs0 fn ft fm fg sz0 tx og ff pg pf sn sh sm9 sG kp sn0 ty0 il0 ss ty tb) (hP : va_P Γ.1 vwCl (LWD Γ xa xs xk ha ta sa oa pa ja fa a e hro tc sc oz oe oq pz pe pq je rf rg re sf sg se ma ms mk mt mb me mr mq mp mw mc ou n0 th0 mv0 g ho0 hs0 fn ft fm fg sz0 tx cf og ff pg pf jg sn sh sm9 sG kp sn0 tw0 ty0 il0 my0 ss ty tb ed tr qu pj wj cj ov) H) (hD : va_D A (LWD Γ xa xs xk ha ta sa oa pa ja fa a e hro tc sc oz oe oq pz pe pq je rf rg re sf sg se ma ms mk mt mb me mr mq mp mw mc ou n0 th0 mv0 g ho0 hs0 fn ft fm fg sz0 tx cf og ff pg pf jg sn sh sm9 sG kp sn0 tw0 ty0 il0 my0 ss ty tb ed tr qu pj wj cj ov)) (hS : va_S A st.heap H locs) (hl : lv_has ls 9 [(4, .int (nI ix)), (3, .ref ou), (2, .ref ma), (1, .ref xa), (0, .ref zb)]) (hGO : KGO p l ev st mi args below meth cd Q A Γ zb ix xa xs xk ha ta sa oa pa ja fa a e hro tc sc oz oe oq pz pe pq je rf rg re sf sg se ma ms mk mt mb me mr mq mp mw mc ou (cn + 1) (sl + 6) 1229) : W p l ev room_1 st mi args below meth cd H locs cn sl Q (F0 mi 648 ls []) := by
  obtain ⟨hR, e1, hho, hhs, hRR, e2, hsz, e3, htx, ⟨hok, hog⟩, ⟨hpok, hpg⟩, htb, hil, hkp⟩ := hI
  subst e1
  subst e2
  subst e3
  obtain ⟨⟨f1, f2, f3, hpl, hge⟩, hfg, hn0, hth, hnb⟩ := RX_0 hR
  subst f1
  subst f2
  subst f3
  have hw14 := w14 hth hn0
  have hfgS := FG_g hge hfg
  by_cases hr : nI 0 ≤ (zs (nI (ix + 1)).toNatClampNeg) ∧ (zs (nI (ix + 1)).toNatClampNeg) ≤ nI 1
  · obtain ⟨s0, -, hs1, hx1⟩ := rg_ex (by decide) (by decide) hr
    have hs0_ : s0 < 2 := by omega
    by_cases hk1 : kp s0 = 1
    · have hX := hRR.2 s0 hs0_ hk1
      have hX1 := w14 hX.2.2.2.1 hX.2.2.1
      exact K_goBack_a C0 hiL hcs hfg hn0 hth hho hhs hs0_ hk1 hX1 hs0_ hk1 hhs (hX.1.2.1 ▸ hX1) hx1 (congrArg (fun z => nI (pc z)) hX.1.2.1) hP hD hS hl (fun  H locs ls  hP hD hS hl => hGO H locs ls hP hD hS hl (LI_mk (RX_gb hhs hX) (svN_eq hhs) (svO_lt _ hho) svS_6 (RR_c (RR_sv hho hhs hR hRR) (fun i9 h9 => cpB_hi h9)) rfl hsz rfl htx ⟨hok, hog⟩ ⟨hpok, hpg⟩ htb (fun q9 => by cases q9) hkp))
    · have hk1 : kp s0 = 0 := by have := hkp s0; omega
      exact K_goBack_f C0 hiL hcs hls hs0_ hk1 hs0_ hk1 hx1 hP hD hS hl (fun  H locs ls  hP hD hS hl => hGO H locs ls hP hD hS hl (LI_mk hR rfl hho hhs hRR rfl hsz rfl htx ⟨hok, hog⟩ ⟨hpok, hpg⟩ htb hil hkp))
  · exact K_goBack_x C0 hiL hcs hls hr hr rfl hP hD hS hl (fun  H locs ls  hP hD hS hl => hGO H locs ls hP hD hS hl (LI_mk hR rfl hho hhs hRR rfl hsz rfl htx ⟨hok, hog⟩ ⟨hpok, hpg⟩ htb hil hkp))
set_option maxHeartbeats 4000000 in
theorem OP_undo (C0 : kLX p l st mi args meth cd Γ zb zl zs A) (hls : l.stackTraces = false) (hiL : ix + 3 ≤ zl) (hcs : cn + 1 ≤ 601024 ∧ sl + 6 ≤ 7293034) (hI : LI n0 th0 mv0 g ho0 hs0 fn ft fm fg sz0 tx og ff pg pf sn sh sm9 sG kp sn0 ty0 il0 ss ty tb) (hP : va_P Γ.1 vwCl (LWD Γ xa xs xk ha ta sa oa pa ja fa a e hro tc sc oz oe oq pz pe pq je rf rg re sf sg se ma ms mk mt mb me mr mq mp mw mc ou n0 th0 mv0 g ho0 hs0 fn ft fm fg sz0 tx cf og ff pg pf jg sn sh sm9 sG kp sn0 tw0 ty0 il0 my0 ss ty tb ed tr qu pj wj cj ov) H) (hD : va_D A (LWD Γ xa xs xk ha ta sa oa pa ja fa a e hro tc sc oz oe oq pz pe pq je rf rg re sf sg se ma ms mk mt mb me mr mq mp mw mc ou n0 th0 mv0 g ho0 hs0 fn ft fm fg sz0 tx cf og ff pg pf jg sn sh sm9 sG kp sn0 tw0 ty0 il0 my0 ss ty tb ed tr qu pj wj cj ov)) (hS : va_S A st.heap H locs) (hl : lv_has ls 9 [(4, .int (nI ix)), (3, .ref ou), (2, .ref ma), (1, .ref xa), (0, .ref zb)]) (hGO : KGO p l ev st mi args below meth cd Q A Γ zb ix xa xs xk ha ta sa oa pa ja fa a e hro tc sc oz oe oq pz pe pq je rf rg re sf sg se ma ms mk mt mb me mr mq mp mw mc ou (cn + 1) (sl + 6) 1229) : W p l ev room_1 st mi args below meth cd H locs cn sl Q (F0 mi 704 ls []) := by
  obtain ⟨hR, e1, hho, hhs, hRR, e2, hsz, e3, htx, ⟨hok, hog⟩, ⟨hpok, hpg⟩, htb, hil, hkp⟩ := hI
  subst e1
  subst e2
  subst e3
  obtain ⟨⟨f1, f2, f3, hpl, hge⟩, hfg, hn0, hth, hnb⟩ := RX_0 hR
  subst f1
  subst f2
  subst f3
  have hw14 := w14 hth hn0
  have hfgS := FG_g hge hfg
  by_cases hz : hs0 = 0
  · exact K_undo_x C0 hiL hcs hls hz hz hP hD hS hl (fun  H locs ls  hP hD hS hl => hGO H locs ls hP hD hS hl (LI_mk hR rfl hho hhs hRR rfl hsz rfl htx ⟨hok, hog⟩ ⟨hpok, hpg⟩ htb hil hkp))
  · have hz : 0 < hs0 := by omega
    exact K_undo_a C0 hiL hcs hho hhs hz hz hhs rfl hP hD hS hl (fun  H locs ls  hP hD hS hl => hGO H locs ls hP hD hS hl (LI_mk (RR_un hz hRR).1 rfl hho (by omega) (RR_un hz hRR).2 rfl hsz rfl htx ⟨hok, hog⟩ ⟨hpok, hpg⟩ htb (fun q9 => by cases q9) hkp))
set_option maxHeartbeats 4000000 in
theorem OP_nodeOf (C0 : kLX p l st mi args meth cd Γ zb zl zs A) (hls : l.stackTraces = false) (hiL : ix + 3 ≤ zl) (hcs : cn + 1 ≤ 601024 ∧ sl + 6 ≤ 7293034) (hI : LI n0 th0 mv0 g ho0 hs0 fn ft fm fg sz0 tx og ff pg pf sn sh sm9 sG kp sn0 ty0 il0 ss ty tb) (hP : va_P Γ.1 vwCl (LWD Γ xa xs xk ha ta sa oa pa ja fa a e hro tc sc oz oe oq pz pe pq je rf rg re sf sg se ma ms mk mt mb me mr mq mp mw mc ou n0 th0 mv0 g ho0 hs0 fn ft fm fg sz0 tx cf og ff pg pf jg sn sh sm9 sG kp sn0 tw0 ty0 il0 my0 ss ty tb ed tr qu pj wj cj ov) H) (hD : va_D A (LWD Γ xa xs xk ha ta sa oa pa ja fa a e hro tc sc oz oe oq pz pe pq je rf rg re sf sg se ma ms mk mt mb me mr mq mp mw mc ou n0 th0 mv0 g ho0 hs0 fn ft fm fg sz0 tx cf og ff pg pf jg sn sh sm9 sG kp sn0 tw0 ty0 il0 my0 ss ty tb ed tr qu pj wj cj ov)) (hS : va_S A st.heap H locs) (hl : lv_has ls 9 [(4, .int (nI ix)), (3, .ref ou), (2, .ref ma), (1, .ref xa), (0, .ref zb)]) (hGO : KGO p l ev st mi args below meth cd Q A Γ zb ix xa xs xk ha ta sa oa pa ja fa a e hro tc sc oz oe oq pz pe pq je rf rg re sf sg se ma ms mk mt mb me mr mq mp mw mc ou (cn + 1) (sl + 6) 1229) : W p l ev room_1 st mi args below meth cd H locs cn sl Q (F0 mi 748 ls []) := by
  obtain ⟨hR, e1, hho, hhs, hRR, e2, hsz, e3, htx, ⟨hok, hog⟩, ⟨hpok, hpg⟩, htb, hil, hkp⟩ := hI
  subst e1
  subst e2
  subst e3
  obtain ⟨⟨f1, f2, f3, hpl, hge⟩, hfg, hn0, hth, hnb⟩ := RX_0 hR
  subst f1
  subst f2
  subst f3
  have hw14 := w14 hth hn0
  have hfgS := FG_g hge hfg
  cases hx : isN (ss 0) (zs (nI (ix + 1)).toNatClampNeg) with
  | false => exact K_nodeOf_x C0 hiL hcs hls hn0 hx hn0 hx rfl rfl hP hD hS hl (fun  H locs ls  hP hD hS hl => hGO H locs ls hP hD hS hl (LI_mk hR rfl hho hhs hRR rfl hsz rfl htx ⟨hok, hog⟩ ⟨hpok, hpg⟩ htb hil hkp))
  | true =>
    obtain ⟨v0, hv0, hx1⟩ := (isN_iff hn0).mp hx
    by_cases hr : nI 0 ≤ (zs (nI (ix + 2)).toNatClampNeg) ∧ (zs (nI (ix + 2)).toNatClampNeg) ≤ nI 5
    · obtain ⟨w0, -, hw1, hx2⟩ := rg_ex (by decide) (by decide) hr
      have hw0 : w0 < 6 := by omega
      exact K_nodeOf_a C0 hiL hcs hfg hn0 hth hog hok hv0 hw0 hn0 hth htb hil hv0 hw0 hx1 hx2 (ndT_c hge (by omega) (fun q9 => trN_c hge hfgS.2.1 hw14 q9) hw0) hP hD hS hl (fun z0_ z1_ y0_ y1_ y2_ y3_ y4_ H locs ls ph0 ph1 qh0 qh1 hP hD hS hl => hGO H locs ls hP hD hS hl (LI_mk hR rfl hho hhs hRR rfl hsz rfl htx ⟨ph0, ph1⟩ ⟨hpok, hpg⟩ qh0 qh1 hkp))
    · exact K_nodeOf_f C0 hiL hcs hls hn0 hv0 hr hn0 (isN_t hn0 hv0) hr hx1 rfl hP hD hS hl (fun  H locs ls  hP hD hS hl => hGO H locs ls hP hD hS hl (LI_mk hR rfl hho hhs hRR rfl hsz rfl htx ⟨hok, hog⟩ ⟨hpok, hpg⟩ htb hil hkp))
set_option maxHeartbeats 4000000 in
theorem OP_tree (C0 : kLX p l st mi args meth cd Γ zb zl zs A) (hls : l.stackTraces = false) (hiL : ix + 3 ≤ zl) (hcs : cn + 1 ≤ 601024 ∧ sl + 6 ≤ 7293034) (hI : LI n0 th0 mv0 g ho0 hs0 fn ft fm fg sz0 tx og ff pg pf sn sh sm9 sG kp sn0 ty0 il0 ss ty tb) (hP : va_P Γ.1 vwCl (LWD Γ xa xs xk ha ta sa oa pa ja fa a e hro tc sc oz oe oq pz pe pq je rf rg re sf sg se ma ms mk mt mb me mr mq mp mw mc ou n0 th0 mv0 g ho0 hs0 fn ft fm fg sz0 tx cf og ff pg pf jg sn sh sm9 sG kp sn0 tw0 ty0 il0 my0 ss ty tb ed tr qu pj wj cj ov) H) (hD : va_D A (LWD Γ xa xs xk ha ta sa oa pa ja fa a e hro tc sc oz oe oq pz pe pq je rf rg re sf sg se ma ms mk mt mb me mr mq mp mw mc ou n0 th0 mv0 g ho0 hs0 fn ft fm fg sz0 tx cf og ff pg pf jg sn sh sm9 sG kp sn0 tw0 ty0 il0 my0 ss ty tb ed tr qu pj wj cj ov)) (hS : va_S A st.heap H locs) (hl : lv_has ls 9 [(4, .int (nI ix)), (3, .ref ou), (2, .ref ma), (1, .ref xa), (0, .ref zb)]) (hGO : KGO p l ev st mi args below meth cd Q A Γ zb ix xa xs xk ha ta sa oa pa ja fa a e hro tc sc oz oe oq pz pe pq je rf rg re sf sg se ma ms mk mt mb me mr mq mp mw mc ou (cn + 1) (sl + 6) 1229) : W p l ev room_1 st mi args below meth cd H locs cn sl Q (F0 mi 816 ls []) := by
  obtain ⟨hR, e1, hho, hhs, hRR, e2, hsz, e3, htx, ⟨hok, hog⟩, ⟨hpok, hpg⟩, htb, hil, hkp⟩ := hI
  subst e1
  subst e2
  subst e3
  obtain ⟨⟨f1, f2, f3, hpl, hge⟩, hfg, hn0, hth, hnb⟩ := RX_0 hR
  subst f1
  subst f2
  subst f3
  have hw14 := w14 hth hn0
  have hfgS := FG_g hge hfg
  have htc := trC_g hge hw14
  have ht14 := (trC_spec (gS ss) hw14).1
  by_cases hneg : (zs (nI (ix + 1)).toNatClampNeg) < 0
  · exact K_tree_n C0 hiL hcs hls hfg hn0 hth hneg hn0 hth (isN_neg hneg) rfl rfl hP hD hS hl (fun  H locs ls  hP hD hS hl => hGO H locs ls hP hD hS hl (LI_mk hR rfl hho hhs hRR rfl hsz rfl htx ⟨hok, hog⟩ ⟨hpok, hpg⟩ htb hil hkp))
  · obtain ⟨k0, hk0, hx1⟩ := neg_ex hneg
    by_cases hk1 : k0 < trC g (ss 1)
    · by_cases hr : nI 0 ≤ (zs (nI (ix + 2)).toNatClampNeg) ∧ (zs (nI (ix + 2)).toNatClampNeg) ≤ nI 5
      · obtain ⟨w0, -, hw1, hx2⟩ := rg_ex (by decide) (by decide) hr
        have hw0 : w0 < 6 := by omega
        exact K_tree_a C0 hiL hcs hfg hn0 hth hog hok hk1 hw0 hn0 hth htb hil hfgS (htc ▸ hk1) hw0 hx1 hx2 (tvT_c hge hth hn0 k0 hw0) hP hD hS hl (fun z0_ z1_ z2_ y0_ y1_ y2_ y3_ y4_ y5_ y6_ H locs ls ph0 ph1 qh0 qh1 hP hD hS hl => hGO H locs ls hP hD hS hl (LI_mk hR rfl hho hhs hRR rfl hsz rfl htx ⟨ph0, ph1⟩ ⟨hpok, hpg⟩ qh0 qh1 hkp))
      · exact K_tree_f C0 hiL hcs hls hfg hn0 hth hk1 hr hn0 hth (isN_t ht14 (htc ▸ hk1)) hr hx1 rfl hP hD hS hl (fun  H locs ls  hP hD hS hl => hGO H locs ls hP hD hS hl (LI_mk hR rfl hho hhs hRR rfl hsz rfl htx ⟨hok, hog⟩ ⟨hpok, hpg⟩ htb hil hkp))
    · have hk1 : trC g (ss 1) ≤ k0 := by omega
      exact K_tree_x C0 hiL hcs hls hfg hn0 hth hk0 hk1 hn0 hth (isN_ge hk0 (htc ▸ hk1)) hx1 rfl hP hD hS hl (fun  H locs ls  hP hD hS hl => hGO H locs ls hP hD hS hl (LI_mk hR rfl hho hhs hRR rfl hsz rfl htx ⟨hok, hog⟩ ⟨hpok, hpg⟩ htb hil hkp))
set_option maxHeartbeats 4000000 in
theorem OP_count (C0 : kLX p l st mi args meth cd Γ zb zl zs A) (hls : l.stackTraces = false) (hiL : ix + 3 ≤ zl) (hcs : cn + 1 ≤ 601024 ∧ sl + 6 ≤ 7293034) (hI : LI n0 th0 mv0 g ho0 hs0 fn ft fm fg sz0 tx og ff pg pf sn sh sm9 sG kp sn0 ty0 il0 ss ty tb) (hP : va_P Γ.1 vwCl (LWD Γ xa xs xk ha ta sa oa pa ja fa a e hro tc sc oz oe oq pz pe pq je rf rg re sf sg se ma ms mk mt mb me mr mq mp mw mc ou n0 th0 mv0 g ho0 hs0 fn ft fm fg sz0 tx cf og ff pg pf jg sn sh sm9 sG kp sn0 tw0 ty0 il0 my0 ss ty tb ed tr qu pj wj cj ov) H) (hD : va_D A (LWD Γ xa xs xk ha ta sa oa pa ja fa a e hro tc sc oz oe oq pz pe pq je rf rg re sf sg se ma ms mk mt mb me mr mq mp mw mc ou n0 th0 mv0 g ho0 hs0 fn ft fm fg sz0 tx cf og ff pg pf jg sn sh sm9 sG kp sn0 tw0 ty0 il0 my0 ss ty tb ed tr qu pj wj cj ov)) (hS : va_S A st.heap H locs) (hl : lv_has ls 9 [(4, .int (nI ix)), (3, .ref ou), (2, .ref ma), (1, .ref xa), (0, .ref zb)]) (hGO : KGO p l ev st mi args below meth cd Q A Γ zb ix xa xs xk ha ta sa oa pa ja fa a e hro tc sc oz oe oq pz pe pq je rf rg re sf sg se ma ms mk mt mb me mr mq mp mw mc ou (cn + 1) (sl + 6) 1229) : W p l ev room_1 st mi args below meth cd H locs cn sl Q (F0 mi 884 ls []) := by
  obtain ⟨hR, e1, hho, hhs, hRR, e2, hsz, e3, htx, ⟨hok, hog⟩, ⟨hpok, hpg⟩, htb, hil, hkp⟩ := hI
  subst e1
  subst e2
  subst e3
  obtain ⟨⟨f1, f2, f3, hpl, hge⟩, hfg, hn0, hth, hnb⟩ := RX_0 hR
  subst f1
  subst f2
  subst f3
  have hw14 := w14 hth hn0
  have hfgS := FG_g hge hfg
  by_cases hr : nI 0 ≤ (zs (nI (ix + 1)).toNatClampNeg) ∧ (zs (nI (ix + 1)).toNatClampNeg) ≤ nI 11
  · obtain ⟨w0, -, hw1, hx1⟩ := rg_ex (by decide) (by decide) hr
    have hw0 : w0 < 12 := by omega
    exact K_count_a C0 hiL hcs hfg hn0 hth hog hok hw0 hn0 hth htb hil hfgS hw0 hx1 (cnT_c hge hth hn0 hpl rfl hw0) hP hD hS hl (fun z0_ z1_ z2_ y0_ y1_ y2_ y3_ y4_ y5_ y6_ y7_ y8_ H locs ls ph0 ph1 qh0 qh1 hP hD hS hl => hGO H locs ls hP hD hS hl (LI_mk hR rfl hho hhs hRR rfl hsz rfl htx ⟨ph0, ph1⟩ ⟨hpok, hpg⟩ qh0 qh1 hkp))
  · exact K_count_x C0 hiL hcs hls hr hr rfl hP hD hS hl (fun  H locs ls  hP hD hS hl => hGO H locs ls hP hD hS hl (LI_mk hR rfl hho hhs hRR rfl hsz rfl htx ⟨hok, hog⟩ ⟨hpok, hpg⟩ htb hil hkp))
set_option maxHeartbeats 4000000 in
theorem OP_best (C0 : kLX p l st mi args meth cd Γ zb zl zs A) (hls : l.stackTraces = false) (hiL : ix + 3 ≤ zl) (hcs : cn + 1 ≤ 601024 ∧ sl + 6 ≤ 7293034) (hI : LI n0 th0 mv0 g ho0 hs0 fn ft fm fg sz0 tx og ff pg pf sn sh sm9 sG kp sn0 ty0 il0 ss ty tb) (hP : va_P Γ.1 vwCl (LWD Γ xa xs xk ha ta sa oa pa ja fa a e hro tc sc oz oe oq pz pe pq je rf rg re sf sg se ma ms mk mt mb me mr mq mp mw mc ou n0 th0 mv0 g ho0 hs0 fn ft fm fg sz0 tx cf og ff pg pf jg sn sh sm9 sG kp sn0 tw0 ty0 il0 my0 ss ty tb ed tr qu pj wj cj ov) H) (hD : va_D A (LWD Γ xa xs xk ha ta sa oa pa ja fa a e hro tc sc oz oe oq pz pe pq je rf rg re sf sg se ma ms mk mt mb me mr mq mp mw mc ou n0 th0 mv0 g ho0 hs0 fn ft fm fg sz0 tx cf og ff pg pf jg sn sh sm9 sG kp sn0 tw0 ty0 il0 my0 ss ty tb ed tr qu pj wj cj ov)) (hS : va_S A st.heap H locs) (hl : lv_has ls 9 [(4, .int (nI ix)), (3, .ref ou), (2, .ref ma), (1, .ref xa), (0, .ref zb)]) (hGO : KGO p l ev st mi args below meth cd Q A Γ zb ix xa xs xk ha ta sa oa pa ja fa a e hro tc sc oz oe oq pz pe pq je rf rg re sf sg se ma ms mk mt mb me mr mq mp mw mc ou (cn + 1) (sl + 6) 1229) : W p l ev room_1 st mi args below meth cd H locs cn sl Q (F0 mi 940 ls []) := by
  obtain ⟨hR, e1, hho, hhs, hRR, e2, hsz, e3, htx, ⟨hok, hog⟩, ⟨hpok, hpg⟩, htb, hil, hkp⟩ := hI
  subst e1
  subst e2
  subst e3
  obtain ⟨⟨f1, f2, f3, hpl, hge⟩, hfg, hn0, hth, hnb⟩ := RX_0 hR
  subst f1
  subst f2
  subst f3
  have hw14 := w14 hth hn0
  have hfgS := FG_g hge hfg
  exact K_best C0 hiL hcs hfg hn0 hth hog hok hn0 hth htb hil (bst_g hge hn0) hP hD hS hl (fun z0_ z1_ y0_ y1_ y2_ H locs ls ph0 ph1 qh0 qh1 hP hD hS hl => hGO H locs ls hP hD hS hl (LI_mk hR rfl hho hhs hRR rfl hsz rfl htx ⟨ph0, ph1⟩ ⟨hpok, hpg⟩ qh0 qh1 hkp))
set_option maxHeartbeats 4000000 in
theorem OP_length (C0 : kLX p l st mi args meth cd Γ zb zl zs A) (hls : l.stackTraces = false) (hiL : ix + 3 ≤ zl) (hcs : cn + 1 ≤ 601024 ∧ sl + 6 ≤ 7293034) (hI : LI n0 th0 mv0 g ho0 hs0 fn ft fm fg sz0 tx og ff pg pf sn sh sm9 sG kp sn0 ty0 il0 ss ty tb) (hP : va_P Γ.1 vwCl (LWD Γ xa xs xk ha ta sa oa pa ja fa a e hro tc sc oz oe oq pz pe pq je rf rg re sf sg se ma ms mk mt mb me mr mq mp mw mc ou n0 th0 mv0 g ho0 hs0 fn ft fm fg sz0 tx cf og ff pg pf jg sn sh sm9 sG kp sn0 tw0 ty0 il0 my0 ss ty tb ed tr qu pj wj cj ov) H) (hD : va_D A (LWD Γ xa xs xk ha ta sa oa pa ja fa a e hro tc sc oz oe oq pz pe pq je rf rg re sf sg se ma ms mk mt mb me mr mq mp mw mc ou n0 th0 mv0 g ho0 hs0 fn ft fm fg sz0 tx cf og ff pg pf jg sn sh sm9 sG kp sn0 tw0 ty0 il0 my0 ss ty tb ed tr qu pj wj cj ov)) (hS : va_S A st.heap H locs) (hl : lv_has ls 9 [(4, .int (nI ix)), (3, .ref ou), (2, .ref ma), (1, .ref xa), (0, .ref zb)]) (hGO : KGO p l ev st mi args below meth cd Q A Γ zb ix xa xs xk ha ta sa oa pa ja fa a e hro tc sc oz oe oq pz pe pq je rf rg re sf sg se ma ms mk mt mb me mr mq mp mw mc ou (cn + 1) (sl + 6) 1229) : W p l ev room_1 st mi args below meth cd H locs cn sl Q (F0 mi 953 ls []) := by
  obtain ⟨hR, e1, hho, hhs, hRR, e2, hsz, e3, htx, ⟨hok, hog⟩, ⟨hpok, hpg⟩, htb, hil, hkp⟩ := hI
  subst e1
  subst e2
  subst e3
  obtain ⟨⟨f1, f2, f3, hpl, hge⟩, hfg, hn0, hth, hnb⟩ := RX_0 hR
  subst f1
  subst f2
  subst f3
  have hw14 := w14 hth hn0
  have hfgS := FG_g hge hfg
  by_cases hz : (zs (nI (ix + 1)).toNatClampNeg) = 0
  · exact K_length_f C0 hiL hcs hfg hn0 hth hog hok hn0 hth htb hil hz (congrArg nI (laS_c hge false _)) hP hD hS hl (fun z0_ z1_ y0_ y1_ H locs ls ph0 ph1 qh0 qh1 hP hD hS hl => hGO H locs ls hP hD hS hl (LI_mk hR rfl hho hhs hRR rfl hsz rfl htx ⟨ph0, ph1⟩ ⟨hpok, hpg⟩ qh1 (fun _ => qh0) hkp))
  · exact K_length_t C0 hiL hcs hfg hn0 hth hog hok hn0 hth htb hil hz (congrArg nI (laS_c hge true _)) hP hD hS hl (fun z0_ z1_ y0_ y1_ H locs ls ph0 ph1 qh0 qh1 hP hD hS hl => hGO H locs ls hP hD hS hl (LI_mk hR rfl hho hhs hRR rfl hsz rfl htx ⟨ph0, ph1⟩ ⟨hpok, hpg⟩ qh1 (fun _ => qh0) hkp))
set_option maxHeartbeats 4000000 in
theorem OP_mirror (C0 : kLX p l st mi args meth cd Γ zb zl zs A) (hls : l.stackTraces = false) (hiL : ix + 3 ≤ zl) (hcs : cn + 1 ≤ 601024 ∧ sl + 6 ≤ 7293034) (hI : LI n0 th0 mv0 g ho0 hs0 fn ft fm fg sz0 tx og ff pg pf sn sh sm9 sG kp sn0 ty0 il0 ss ty tb) (hP : va_P Γ.1 vwCl (LWD Γ xa xs xk ha ta sa oa pa ja fa a e hro tc sc oz oe oq pz pe pq je rf rg re sf sg se ma ms mk mt mb me mr mq mp mw mc ou n0 th0 mv0 g ho0 hs0 fn ft fm fg sz0 tx cf og ff pg pf jg sn sh sm9 sG kp sn0 tw0 ty0 il0 my0 ss ty tb ed tr qu pj wj cj ov) H) (hD : va_D A (LWD Γ xa xs xk ha ta sa oa pa ja fa a e hro tc sc oz oe oq pz pe pq je rf rg re sf sg se ma ms mk mt mb me mr mq mp mw mc ou n0 th0 mv0 g ho0 hs0 fn ft fm fg sz0 tx cf og ff pg pf jg sn sh sm9 sG kp sn0 tw0 ty0 il0 my0 ss ty tb ed tr qu pj wj cj ov)) (hS : va_S A st.heap H locs) (hl : lv_has ls 9 [(4, .int (nI ix)), (3, .ref ou), (2, .ref ma), (1, .ref xa), (0, .ref zb)]) (hGO : KGO p l ev st mi args below meth cd Q A Γ zb ix xa xs xk ha ta sa oa pa ja fa a e hro tc sc oz oe oq pz pe pq je rf rg re sf sg se ma ms mk mt mb me mr mq mp mw mc ou (cn + 1) (sl + 6) 1229) : W p l ev room_1 st mi args below meth cd H locs cn sl Q (F0 mi 994 ls []) := by
  obtain ⟨hR, e1, hho, hhs, hRR, e2, hsz, e3, htx, ⟨hok, hog⟩, ⟨hpok, hpg⟩, htb, hil, hkp⟩ := hI
  subst e1
  subst e2
  subst e3
  obtain ⟨⟨f1, f2, f3, hpl, hge⟩, hfg, hn0, hth, hnb⟩ := RX_0 hR
  subst f1
  subst f2
  subst f3
  have hw14 := w14 hth hn0
  have hfgS := FG_g hge hfg
  by_cases hx0 : (zs (nI (ix + 1)).toNatClampNeg) < 0
  · exact K_mirror_x C0 hiL hcs hls hx0 hx0 rfl hP hD hS hl (fun  H locs ls  hP hD hS hl => hGO H locs ls hP hD hS hl (LI_mk hR rfl hho hhs hRR rfl hsz rfl htx ⟨hok, hog⟩ ⟨hpok, hpg⟩ htb hil hkp))
  · exact K_mirror_a C0 hiL hcs hfg hn0 hth hx0 hn0 hth hfgS hx0 rfl (mrC_c hge hth hn0 hx0) hP hD hS hl (fun z0_ y0_ y1_ y2_ y3_ H locs ls  hP hD hS hl => hGO H locs ls hP hD hS hl (LI_mk hR rfl hho hhs hRR rfl hsz rfl htx ⟨hok, hog⟩ ⟨hpok, hpg⟩ htb hil hkp))
set_option maxHeartbeats 4000000 in
theorem OP_value (C0 : kLX p l st mi args meth cd Γ zb zl zs A) (hls : l.stackTraces = false) (hiL : ix + 3 ≤ zl) (hcs : cn + 1 ≤ 601024 ∧ sl + 6 ≤ 7293034) (hI : LI n0 th0 mv0 g ho0 hs0 fn ft fm fg sz0 tx og ff pg pf sn sh sm9 sG kp sn0 ty0 il0 ss ty tb) (hP : va_P Γ.1 vwCl (LWD Γ xa xs xk ha ta sa oa pa ja fa a e hro tc sc oz oe oq pz pe pq je rf rg re sf sg se ma ms mk mt mb me mr mq mp mw mc ou n0 th0 mv0 g ho0 hs0 fn ft fm fg sz0 tx cf og ff pg pf jg sn sh sm9 sG kp sn0 tw0 ty0 il0 my0 ss ty tb ed tr qu pj wj cj ov) H) (hD : va_D A (LWD Γ xa xs xk ha ta sa oa pa ja fa a e hro tc sc oz oe oq pz pe pq je rf rg re sf sg se ma ms mk mt mb me mr mq mp mw mc ou n0 th0 mv0 g ho0 hs0 fn ft fm fg sz0 tx cf og ff pg pf jg sn sh sm9 sG kp sn0 tw0 ty0 il0 my0 ss ty tb ed tr qu pj wj cj ov)) (hS : va_S A st.heap H locs) (hl : lv_has ls 9 [(4, .int (nI ix)), (3, .ref ou), (2, .ref ma), (1, .ref xa), (0, .ref zb)]) (hGO : KGO p l ev st mi args below meth cd Q A Γ zb ix xa xs xk ha ta sa oa pa ja fa a e hro tc sc oz oe oq pz pe pq je rf rg re sf sg se ma ms mk mt mb me mr mq mp mw mc ou (cn + 1) (sl + 6) 1229) : W p l ev room_1 st mi args below meth cd H locs cn sl Q (F0 mi 1118 ls []) := by
  obtain ⟨hR, e1, hho, hhs, hRR, e2, hsz, e3, htx, ⟨hok, hog⟩, ⟨hpok, hpg⟩, htb, hil, hkp⟩ := hI
  subst e1
  subst e2
  subst e3
  obtain ⟨⟨f1, f2, f3, hpl, hge⟩, hfg, hn0, hth, hnb⟩ := RX_0 hR
  subst f1
  subst f2
  subst f3
  have hw14 := w14 hth hn0
  have hfgS := FG_g hge hfg
  by_cases hx0 : (zs (nI (ix + 1)).toNatClampNeg) &&& (nI (ss 1) ^^^ (-1)) = 0
  · obtain ⟨m0, hx1, hm0, hm9⟩ := msk_ex hn0 hth hx0
    exact K_value_a C0 hiL hcs hfg hn0 hth hog hok hm0 (w14 hm9 hn0) hn0 hth htb hil hm0 hm9 hx1 (congrArg nI (V_g hge _)) hP hD hS hl (fun z0_ z1_ y0_ y1_ H locs ls ph0 ph1 qh0 qh1 hP hD hS hl => hGO H locs ls hP hD hS hl (LI_mk hR rfl hho hhs hRR rfl hsz rfl htx ⟨ph0, ph1⟩ ⟨hpok, hpg⟩ qh1 (fun _ => qh0) hkp))
  · exact K_value_x C0 hiL hcs hls hx0 hx0 rfl hP hD hS hl (fun  H locs ls  hP hD hS hl => hGO H locs ls hP hD hS hl (LI_mk hR rfl hho hhs hRR rfl hsz rfl htx ⟨hok, hog⟩ ⟨hpok, hpg⟩ htb hil hkp))
set_option maxHeartbeats 4000000 in
theorem OP_openingShare (C0 : kLX p l st mi args meth cd Γ zb zl zs A) (hls : l.stackTraces = false) (hiL : ix + 3 ≤ zl) (hcs : cn + 1 ≤ 601024 ∧ sl + 6 ≤ 7293034) (hI : LI n0 th0 mv0 g ho0 hs0 fn ft fm fg sz0 tx og ff pg pf sn sh sm9 sG kp sn0 ty0 il0 ss ty tb) (hP : va_P Γ.1 vwCl (LWD Γ xa xs xk ha ta sa oa pa ja fa a e hro tc sc oz oe oq pz pe pq je rf rg re sf sg se ma ms mk mt mb me mr mq mp mw mc ou n0 th0 mv0 g ho0 hs0 fn ft fm fg sz0 tx cf og ff pg pf jg sn sh sm9 sG kp sn0 tw0 ty0 il0 my0 ss ty tb ed tr qu pj wj cj ov) H) (hD : va_D A (LWD Γ xa xs xk ha ta sa oa pa ja fa a e hro tc sc oz oe oq pz pe pq je rf rg re sf sg se ma ms mk mt mb me mr mq mp mw mc ou n0 th0 mv0 g ho0 hs0 fn ft fm fg sz0 tx cf og ff pg pf jg sn sh sm9 sG kp sn0 tw0 ty0 il0 my0 ss ty tb ed tr qu pj wj cj ov)) (hS : va_S A st.heap H locs) (hl : lv_has ls 9 [(4, .int (nI ix)), (3, .ref ou), (2, .ref ma), (1, .ref xa), (0, .ref zb)]) (hGO : KGO p l ev st mi args below meth cd Q A Γ zb ix xa xs xk ha ta sa oa pa ja fa a e hro tc sc oz oe oq pz pe pq je rf rg re sf sg se ma ms mk mt mb me mr mq mp mw mc ou (cn + 1) (sl + 6) 1229) : W p l ev room_1 st mi args below meth cd H locs cn sl Q (F0 mi 1174 ls []) := by
  obtain ⟨hR, e1, hho, hhs, hRR, e2, hsz, e3, htx, ⟨hok, hog⟩, ⟨hpok, hpg⟩, htb, hil, hkp⟩ := hI
  subst e1
  subst e2
  subst e3
  obtain ⟨⟨f1, f2, f3, hpl, hge⟩, hfg, hn0, hth, hnb⟩ := RX_0 hR
  subst f1
  subst f2
  subst f3
  have hw14 := w14 hth hn0
  have hfgS := FG_g hge hfg
  exact K_openingShare C0 hiL hcs hfg hn0 hth hog hok hn0 hth htb hil (os_c hge hn0 hth) hP hD hS hl (fun z0_ z1_ y0_ y1_ y2_ H locs ls ph0 ph1 qh0 qh1 hP hD hS hl => hGO H locs ls hP hD hS hl (LI_mk hR rfl hho hhs hRR rfl hsz rfl htx ⟨ph0, ph1⟩ ⟨hpok, hpg⟩ qh0 qh1 hkp))
set_option maxHeartbeats 4000000 in
theorem OP_digest (C0 : kLX p l st mi args meth cd Γ zb zl zs A) (hls : l.stackTraces = false) (hiL : ix + 3 ≤ zl) (hcs : cn + 1 ≤ 601024 ∧ sl + 6 ≤ 7293034) (hI : LI n0 th0 mv0 g ho0 hs0 fn ft fm fg sz0 tx og ff pg pf sn sh sm9 sG kp sn0 ty0 il0 ss ty tb) (hP : va_P Γ.1 vwCl (LWD Γ xa xs xk ha ta sa oa pa ja fa a e hro tc sc oz oe oq pz pe pq je rf rg re sf sg se ma ms mk mt mb me mr mq mp mw mc ou n0 th0 mv0 g ho0 hs0 fn ft fm fg sz0 tx cf og ff pg pf jg sn sh sm9 sG kp sn0 tw0 ty0 il0 my0 ss ty tb ed tr qu pj wj cj ov) H) (hD : va_D A (LWD Γ xa xs xk ha ta sa oa pa ja fa a e hro tc sc oz oe oq pz pe pq je rf rg re sf sg se ma ms mk mt mb me mr mq mp mw mc ou n0 th0 mv0 g ho0 hs0 fn ft fm fg sz0 tx cf og ff pg pf jg sn sh sm9 sG kp sn0 tw0 ty0 il0 my0 ss ty tb ed tr qu pj wj cj ov)) (hS : va_S A st.heap H locs) (hl : lv_has ls 9 [(4, .int (nI ix)), (3, .ref ou), (2, .ref ma), (1, .ref xa), (0, .ref zb)]) (hGO : KGO p l ev st mi args below meth cd Q A Γ zb ix xa xs xk ha ta sa oa pa ja fa a e hro tc sc oz oe oq pz pe pq je rf rg re sf sg se ma ms mk mt mb me mr mq mp mw mc ou (cn + 1) (sl + 6) 1229) : W p l ev room_1 st mi args below meth cd H locs cn sl Q (F0 mi 1215 ls []) := by
  obtain ⟨hR, e1, hho, hhs, hRR, e2, hsz, e3, htx, ⟨hok, hog⟩, ⟨hpok, hpg⟩, htb, hil, hkp⟩ := hI
  subst e1
  subst e2
  subst e3
  obtain ⟨⟨f1, f2, f3, hpl, hge⟩, hfg, hn0, hth, hnb⟩ := RX_0 hR
  subst f1
  subst f2
  subst f3
  have hw14 := w14 hth hn0
  have hfgS := FG_g hge hfg
  exact K_digest C0 hiL hcs hfg hn0 hth hog hok hpg hpok (fun i9 _ => hkp i9) htx hsz hn0 hth htb hil hfgS hkp hsz htx (dgT_c hge hfgS.2.1 hth hn0 hpl rfl) hP hD hS hl (fun z0_ z1_ z2_ z3_ z4_ z5_ y0_ y1_ y2_ y3_ y4_ y5_ y6_ y7_ y8_ H locs ls ph0 ph1 ph2 ph3 qh0 qh1 hP hD hS hl => hGO H locs ls hP hD hS hl (LI_mk hR rfl hho hhs hRR rfl hsz rfl htx ⟨ph0, ph1⟩ ⟨ph2, ph3⟩ qh0 qh1 hkp))
end
