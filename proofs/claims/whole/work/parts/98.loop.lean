theorem and31 (x : Int32) : ∃ k, k < 32 ∧ x &&& nI 31 = nI k := by
  obtain ⟨a, -, rfl⟩ := bv_ex x
  exact ⟨a &&& 31, Nat.lt_succ_of_le Nat.and_le_right, ni_and a 31⟩
theorem lt24 {k : Nat} (_ : k < 32) : k = 0 ∨ k = 1 ∨ k = 2 ∨ k = 3 ∨ k = 4 ∨ k = 5 ∨ k = 6 ∨ k = 7 ∨ k = 8 ∨ k = 9 ∨ k = 10 ∨ k = 11 ∨ k = 12 ∨ k = 13 ∨ k = 14 ∨ k = 15 ∨ k = 16 ∨ k = 17 ∨ k = 18 ∨ k = 19 ∨ k = 20 ∨ k = 21 ∨ k = 22 ∨ k = 23 ∨ 24 ≤ k := by omega
section
variable {p : Program} {l : Launch} {ev : Env} {st : State} {mi : MethodId} {args : Array Value} {below : List Frame} {meth : Method} {cd : Code} {H : Heap} {locs : List Loc} {Q : State → Prop} {A : Nat → Prop} {ls : Array Slot} {Γ : kG} {zb zl ix cn sl : Nat} {zs : Nat → Int32}
variable {xa : Nat} {xs : Nat} {xk : Nat} {ha : Nat} {ta : Nat} {sa : Nat} {oa : Nat} {pa : Nat} {ja : Nat} {fa : Nat} {a : Nat} {e : Nat} {hro : Nat} {tc : Nat} {sc : Nat} {oz : Nat} {oe : Nat} {oq : Nat} {pz : Nat} {pe : Nat} {pq : Nat} {je : Nat} {rf : Nat → Nat} {rg : Nat → Nat} {re : Nat → Nat} {sf : Nat → Nat} {sg : Nat → Nat} {se : Nat → Nat} {ma : Nat} {ms : Nat} {mk : Nat} {mt : Nat} {mb : Nat} {me : Nat} {mr : Nat} {mq : Nat} {mp : Nat} {mw : Nat} {mc : Nat} {ou : Nat}
variable {n0 : Nat} {th0 : Nat} {mv0 : Nat} {g : Nat → Nat} {ho0 : Nat} {hs0 : Nat} {fn : Nat → Nat} {ft : Nat → Nat} {fm : Nat → Nat} {fg : Nat → Nat → Nat} {sz0 : Nat} {tx : Nat → Nat} {cf : Nat → Nat} {og : Nat → Nat} {ff : Nat → Nat} {pg : Nat → Nat} {pf : Nat → Nat} {jg : Nat → Nat} {sn : Nat → Nat} {sh : Nat → Nat} {sm9 : Nat → Nat} {sG : Nat → Nat → Nat} {kp : Nat → Nat} {sn0 : Nat} {tw0 : Nat} {ty0 : Nat} {il0 : Bool} {my0 : Nat} {ss : Nat → Nat} {ty : Nat → Nat} {tb : Nat → Nat} {ed : Nat → Nat} {tr : Nat → Nat} {qu : Nat → Nat} {pj : Nat → Int32} {wj : Nat → Int32} {cj : Nat → Int64} {ov : Nat → Int64}
set_option maxHeartbeats 4000000 in
theorem LAW_head (C0 : kLX p l st mi args meth cd Γ zb zl zs A) (hix : ix ≤ 1536) (hS : va_S A st.heap H locs) (hl : lv_has ls 9 [(4, .int (nI ix)), (3, .ref ou), (2, .ref ma), (1, .ref xa), (0, .ref zb)]) (kx : ¬ ix + 3 ≤ zl → W p l ev room_1 st mi args below meth cd H locs cn sl Q (F0 mi 1235 ls [])) (kb : ix + 3 ≤ zl → W p l ev room_1 st mi args below meth cd H locs cn sl Q (F0 mi 32 ls [])) : W p l ev room_1 st mi args below meth cd H locs cn sl Q (F0 mi 23 ls []) := by
  obtain ⟨hx, hb, hml, hown, hts, hK, hXS, hXN, hX, hbl, hbA, hzl⟩ := id C0
  refine lv_iload hx hb dL_law_23 (lv_at hl 0 rfl) ?_
  refine lv_aload_n hx hb dL_law_25 rfl (lv_at hl 4 rfl) ?_
  refine va_slen hx hb hX hbl hbA hS dL_law_26 ?_
  refine tp_i (y := nI zl) rfl ?_
  refine lv_iconst (v := nI 3) hx hb dL_law_27 (by decide) ?_
  refine lv_isub hx hb dL_law_28 ?_
  refine lv_icmp_gt (tgt := 1235) hx hb dL_law_29 (by decide) (fun c9 => kx (fun q9 => ?_)) (fun c9 => kb ?_)
  · rw [Int32.lt_iff_toInt_lt, pk_sub_toInt (by omega) (by omega), nI_toInt (by omega)] at c9
    omega
  · rw [Int32.lt_iff_toInt_lt, pk_sub_toInt (by omega) (by omega), nI_toInt (by omega)] at c9
    omega
set_option maxHeartbeats 4000000 in
theorem LAW_sw (C0 : kLX p l st mi args meth cd Γ zb zl zs A) (hls : l.stackTraces = false) (hiL : ix + 3 ≤ zl) (hcs : cn + 1 ≤ 601024 ∧ sl + 6 ≤ 7293034) (hI : LI n0 th0 mv0 g ho0 hs0 fn ft fm fg sz0 tx og ff pg pf sn sh sm9 sG kp sn0 ty0 il0 ss ty tb) (hP : va_P Γ.1 vwCl (LWD Γ xa xs xk ha ta sa oa pa ja fa a e hro tc sc oz oe oq pz pe pq je rf rg re sf sg se ma ms mk mt mb me mr mq mp mw mc ou n0 th0 mv0 g ho0 hs0 fn ft fm fg sz0 tx cf og ff pg pf jg sn sh sm9 sG kp sn0 tw0 ty0 il0 my0 ss ty tb ed tr qu pj wj cj ov) H) (hD : va_D A (LWD Γ xa xs xk ha ta sa oa pa ja fa a e hro tc sc oz oe oq pz pe pq je rf rg re sf sg se ma ms mk mt mb me mr mq mp mw mc ou n0 th0 mv0 g ho0 hs0 fn ft fm fg sz0 tx cf og ff pg pf jg sn sh sm9 sG kp sn0 tw0 ty0 il0 my0 ss ty tb ed tr qu pj wj cj ov)) (hS : va_S A st.heap H locs) (hl : lv_has ls 9 [(4, .int (nI ix)), (3, .ref ou), (2, .ref ma), (1, .ref xa), (0, .ref zb)]) (hGO : KGO p l ev st mi args below meth cd Q A Γ zb ix xa xs xk ha ta sa oa pa ja fa a e hro tc sc oz oe oq pz pe pq je rf rg re sf sg se ma ms mk mt mb me mr mq mp mw mc ou (cn + 1) (sl + 6) 1229) : W p l ev room_1 st mi args below meth cd H locs cn sl Q (F0 mi 32 ls []) := by
  obtain ⟨hx, hb, hml, hown, hts, hK, hXS, hXN, hX, hbl, hbA, hzl⟩ := id C0
  refine lv_aload_n hx hb dL_law_32 rfl (lv_at hl 4 rfl) ?_
  refine lv_iload hx hb dL_law_33 (lv_at hl 0 rfl) ?_
  refine va_sld hx hb hX hbl hbA hS (vin (k := ix) (by omega) (by omega)) dL_law_35 ?_
  refine lv_bipush (v := nI 31) hx hb dL_law_36 (by decide) ?_
  refine lv_iand hx hb dL_law_38 ?_
  obtain ⟨k, hk, ek⟩ := and31 (zs (nI ix).toNatClampNeg)
  refine tp_i (y := nI k) ek ?_
  rcases lt24 hk with rfl | rfl | rfl | rfl | rfl | rfl | rfl | rfl | rfl | rfl | rfl | rfl | rfl | rfl | rfl | rfl | rfl | rfl | rfl | rfl | rfl | rfl | rfl | rfl | hk24
  · refine lv_tableIn (off := 109) (tgt := 148) hx hb dL_law_39 (by decide) (by decide) (by decide) (by decide) ?_
    exact OP_node C0 hls hiL hcs hI hP hD hS hl hGO
  · refine lv_tableIn (off := 165) (tgt := 204) hx hb dL_law_39 (by decide) (by decide) (by decide) (by decide) ?_
    exact OP_join C0 hls hiL hcs hI hP hD hS hl hGO
  · refine lv_tableIn (off := 233) (tgt := 272) hx hb dL_law_39 (by decide) (by decide) (by decide) (by decide) ?_
    exact OP_cut C0 hls hiL hcs hI hP hD hS hl hGO
  · refine lv_tableIn (off := 301) (tgt := 340) hx hb dL_law_39 (by decide) (by decide) (by decide) (by decide) ?_
    exact OP_take C0 hls hiL hcs hI hP hD hS hl hGO
  · refine lv_tableIn (off := 357) (tgt := 396) hx hb dL_law_39 (by decide) (by decide) (by decide) (by decide) ?_
    exact OP_reply C0 hls hiL hcs hI hP hD hS hl hGO
  · refine lv_tableIn (off := 401) (tgt := 440) hx hb dL_law_39 (by decide) (by decide) (by decide) (by decide) ?_
    exact OP_again C0 hls hiL hcs hI hP hD hS hl hGO
  · refine lv_tableIn (off := 414) (tgt := 453) hx hb dL_law_39 (by decide) (by decide) (by decide) (by decide) ?_
    exact OP_append C0 hls hiL hcs hI hP hD hS hl hGO
  · refine lv_tableIn (off := 470) (tgt := 509) hx hb dL_law_39 (by decide) (by decide) (by decide) (by decide) ?_
    exact OP_clearBuffer C0 hls hiL hcs hI hP hD hS hl hGO
  · refine lv_tableIn (off := 483) (tgt := 522) hx hb dL_law_39 (by decide) (by decide) (by decide) (by decide) ?_
    exact OP_firstError C0 hls hiL hcs hI hP hD hS hl hGO
  · refine lv_tableIn (off := 496) (tgt := 535) hx hb dL_law_39 (by decide) (by decide) (by decide) (by decide) ?_
    exact OP_load C0 hls hiL hcs hI hP hD hS hl hGO
  · refine lv_tableIn (off := 540) (tgt := 579) hx hb dL_law_39 (by decide) (by decide) (by decide) (by decide) ?_
    exact OP_write C0 hls hiL hcs hI hP hD hS hl hGO
  · refine lv_tableIn (off := 553) (tgt := 592) hx hb dL_law_39 (by decide) (by decide) (by decide) (by decide) ?_
    exact OP_keep C0 hls hiL hcs hI hP hD hS hl hGO
  · refine lv_tableIn (off := 609) (tgt := 648) hx hb dL_law_39 (by decide) (by decide) (by decide) (by decide) ?_
    exact OP_goBack C0 hls hiL hcs hI hP hD hS hl hGO
  · refine lv_tableIn (off := 665) (tgt := 704) hx hb dL_law_39 (by decide) (by decide) (by decide) (by decide) ?_
    exact OP_undo C0 hls hiL hcs hI hP hD hS hl hGO
  · refine lv_tableIn (off := 709) (tgt := 748) hx hb dL_law_39 (by decide) (by decide) (by decide) (by decide) ?_
    exact OP_nodeOf C0 hls hiL hcs hI hP hD hS hl hGO
  · refine lv_tableIn (off := 777) (tgt := 816) hx hb dL_law_39 (by decide) (by decide) (by decide) (by decide) ?_
    exact OP_tree C0 hls hiL hcs hI hP hD hS hl hGO
  · refine lv_tableIn (off := 845) (tgt := 884) hx hb dL_law_39 (by decide) (by decide) (by decide) (by decide) ?_
    exact OP_count C0 hls hiL hcs hI hP hD hS hl hGO
  · refine lv_tableIn (off := 901) (tgt := 940) hx hb dL_law_39 (by decide) (by decide) (by decide) (by decide) ?_
    exact OP_best C0 hls hiL hcs hI hP hD hS hl hGO
  · refine lv_tableIn (off := 914) (tgt := 953) hx hb dL_law_39 (by decide) (by decide) (by decide) (by decide) ?_
    exact OP_length C0 hls hiL hcs hI hP hD hS hl hGO
  · refine lv_tableIn (off := 955) (tgt := 994) hx hb dL_law_39 (by decide) (by decide) (by decide) (by decide) ?_
    exact OP_mirror C0 hls hiL hcs hI hP hD hS hl hGO
  · refine lv_tableIn (off := 1011) (tgt := 1050) hx hb dL_law_39 (by decide) (by decide) (by decide) (by decide) ?_
    exact OP_ifJoined C0 hls hiL hcs hI hP hD hS hl hGO
  · refine lv_tableIn (off := 1079) (tgt := 1118) hx hb dL_law_39 (by decide) (by decide) (by decide) (by decide) ?_
    exact OP_value C0 hls hiL hcs hI hP hD hS hl hGO
  · refine lv_tableIn (off := 1135) (tgt := 1174) hx hb dL_law_39 (by decide) (by decide) (by decide) (by decide) ?_
    exact OP_openingShare C0 hls hiL hcs hI hP hD hS hl hGO
  · refine lv_tableIn (off := 1176) (tgt := 1215) hx hb dL_law_39 (by decide) (by decide) (by decide) (by decide) ?_
    exact OP_digest C0 hls hiL hcs hI hP hD hS hl hGO
  · refine lv_tableOut (tgt := 1229) hx hb dL_law_39 (Or.inr (by rw [nI_toInt (by omega)]; omega)) (by decide) ?_
    refine W.widen (k := cn + 1) (n := sl + 6) (Nat.le_succ _) (Nat.le_add_right _ _) ?_
    exact hGO H locs ls hP hD hS hl hI
set_option maxHeartbeats 4000000 in
theorem LAW_loop (C0 : kLX p l st mi args meth cd Γ zb zl zs A) (hls : l.stackTraces = false) (hend : ∀ (cn sl : Nat) (H : Heap) (locs : List Loc) (ls : Array Slot), cn ≤ 601024 → sl ≤ 7293034 → va_S A st.heap H locs → W p l ev room_1 st mi args below meth cd H locs cn sl Q (F0 mi 1235 ls [])) : ∀ (f ix cn sl : Nat), ix ≤ 1536 → zl < ix + 3 * f + 3 → cn + f ≤ 601024 → sl + 6 * f ≤ 7293034 → KGO p l ev st mi args below meth cd Q A Γ zb ix xa xs xk ha ta sa oa pa ja fa a e hro tc sc oz oe oq pz pe pq je rf rg re sf sg se ma ms mk mt mb me mr mq mp mw mc ou cn sl 23 := by
  intro f
  induction f with
  | zero =>
    intro ix cn sl hix hf h1 h2
    unfold KGO
    intro n0 th0 mv0 g ho0 hs0 fn ft fm fg sz0 tx cf og ff pg pf jg sn sh sm9 sG kp sn0 tw0 ty0 il0 my0 ss ty tb ed tr qu pj wj cj ov H locs ls hP hD hS hl hI
    exact LAW_head C0 hix hS hl (fun _ => hend _ _ _ _ _ (by omega) (by omega) hS) (fun q9 => by omega)
  | succ f ih =>
    intro ix cn sl hix hf h1 h2
    unfold KGO
    intro n0 th0 mv0 g ho0 hs0 fn ft fm fg sz0 tx cf og ff pg pf jg sn sh sm9 sG kp sn0 tw0 ty0 il0 my0 ss ty tb ed tr qu pj wj cj ov H locs ls hP hD hS hl hI
    refine LAW_head C0 hix hS hl (fun _ => hend _ _ _ _ _ (by omega) (by omega) hS) (fun hiL => ?_)
    refine LAW_sw C0 hls hiL (by omega) hI hP hD hS hl ?_
    unfold KGO
    intro n0 th0 mv0 g ho0 hs0 fn ft fm fg sz0 tx cf og ff pg pf jg sn sh sm9 sG kp sn0 tw0 ty0 il0 my0 ss ty tb ed tr qu pj wj cj ov H locs ls hP hD hS hl hI
    obtain ⟨hx, hb, hml, hown, hts, hK, hXS, hXN, hX, hbl, hbA, hzl⟩ := id C0
    refine lv_iinc (v := nI (ix + 3)) (lv' := [(4, .int (nI (ix + 3))), (3, .ref ou), (2, .ref ma), (1, .ref xa), (0, .ref zb)]) hx hb dL_law_1229 hl (k := 0) rfl (nI_add ix 3) (by decide) rfl (fun ls hl => ?_)
    refine lv_goto (tgt := 23) hx hb dL_law_1232 (by decide) ?_
    exact ih (ix + 3) (cn + 1) (sl + 6) (by omega) (by omega) (by omega) (by omega) H locs ls hP hD hS (lv_sub hl [0, 1, 2, 3, 4] rfl) hI
end
