set_option maxHeartbeats 8000000 in
set_option maxRecDepth 100000 in
theorem c_X7_entry (l : Launch) (Γ : kG) (H0 : Heap) (ma : Nat) (ms : Nat) (sn0 : Nat) (mk : Nat) (tw0 : Nat) (mt : Nat) (ty0 : Nat) (mb : Nat) (il0 : Bool) (me : Nat) (mr : Nat) (my0 : Nat) (mq : Nat) (mp : Nat) (mw : Nat) (mc : Nat) (ss : Nat → Nat) (tb : Nat → Nat) (ed : Nat → Nat) (S0 : Nat) (hP : va_P Γ.1 vwCl [(ma, .inr (7, [.ref ms, .int (nI sn0), .ref mk, .int (nI tw0), .ref mt, .int (nI ty0), .ref mb, .int (bI il0), .ref me, .ref mr, .int (nI my0), .ref mq, .ref mp, .ref mw, .ref mc])), (ms, .inl (Γ.2 0, 162, .inl (aN ss))), (mb, .inl (Γ.2 0, 16384, .inl (aN tb))), (me, .inl (Γ.2 0, 14, .inl (aN ed)))] H0) (h0 : ss 0 ≤ 14) (hS0 : S0 < 16384) (htb : ∀ i, i < 16384 → tb i < 8192) : RO l yX7_entry (wsq yX7_entry cX7_entry 10 (some .int)) (rmL 2) Γ H0 [.ref ma, .int (nI S0)] (nI (entr ed tb S0 (ss 0))) := by
  refine ro_ofi (cc := cX7_entry) (maxL := 10) (by decide +kernel) (Nat.le_of_ble_eq_true rfl) rfl ?_
  intro p ev R st mi args below meth cd Q ls C0 hR hret hh hS hl
  obtain ⟨hx, hb, hr, hml, hown, hts, hlk, hK, hnm⟩ := C0
  have hown : st.vm.findClass RX7 = some mi.cls := hown
  refine lv_iload_n hx hb dX7_entry_0 rfl (lv_at hl 1 rfl) ?_
  refine nb_if_ne (tgt := 8) hx hb (by omega) dX7_entry_1 (by decide) (fun c_1 => ?_) (fun c_1 => ?_)
  · skip
    refine lv_iconst (v := (nI 0)) hx hb dX7_entry_8 (by decide) ?_
    refine lv_istore_n (lv' := [(2, .int (nI 0)), (0, .ref ma), (1, .int (nI S0))]) hx hb dX7_entry_9 rfl hl (by decide) rfl (fun ls hl => ?_)
    refine lv_bipush (v := (nI 15)) hx hb dX7_entry_10 (by decide) ?_
    refine lv_istore_n (lv' := [(3, .int (nI 15)), (2, .int (nI 0)), (0, .ref ma), (1, .int (nI S0))]) hx hb dX7_entry_12 rfl hl (by decide) rfl (fun ls hl => ?_)
    refine lv_iconst (v := (nI 0)) hx hb dX7_entry_13 (by decide) ?_
    refine lv_istore (lv' := [(4, .int (nI 0)), (3, .int (nI 15)), (2, .int (nI 0)), (0, .ref ma), (1, .int (nI S0))]) hx hb dX7_entry_14 hl (by decide) rfl (fun ls hl => ?_)
    refine lv_iconst (v := (nI 0)) hx hb dX7_entry_16 (by decide) ?_
    refine tp_i (y := (bI false)) (rfl) ?_
    refine lv_istore (lv' := [(5, .int (bI false)), (4, .int (nI 0)), (3, .int (nI 15)), (2, .int (nI 0)), (0, .ref ma), (1, .int (nI S0))]) hx hb dX7_entry_17 hl (by decide) rfl (fun ls hl => ?_)
    refine lv_iconst (v := (nI 0)) hx hb dX7_entry_19 (by decide) ?_
    refine lv_istore (lv' := [(6, .int (nI 0)), (5, .int (bI false)), (4, .int (nI 0)), (3, .int (nI 15)), (2, .int (nI 0)), (0, .ref ma), (1, .int (nI S0))]) hx hb dX7_entry_20 hl (by decide) rfl (fun ls hl => ?_)
    have LP22 : ∀ (fu : Nat) (k0 : Nat) (hk0 : k0 ≤ ss 0), (ss 0 - k0) < fu → ∀ (locs : List Loc), va_S (fun _ => False) H0 H0 locs → ∀ (ls : Array Slot), lv_has ls 10 [(6, .int (nI k0)), (5, .int (bI (wonF ed tb S0 k0))), (4, .int (nI (lonF ed tb S0 k0))), (3, .int (nI (shoF ed tb S0 k0))), (2, .int (nI (seenF ed tb S0 k0))), (0, .ref ma), (1, .int (nI S0))] → W p l ev R st mi args below meth cd H0 locs 0 0 Q (F0 mi 22 ls []) := by
      intro fu
      induction fu with
      | zero => intro k0 hk0 hfu; exact absurd hfu (Nat.not_lt_zero _)
      | succ fu ih22 =>
        intro k0 hk0 hfu locs hS ls hl
        refine lv_iload hx hb dX7_entry_22 (lv_at hl 0 rfl) ?_
        refine lv_aload_n hx hb dX7_entry_24 rfl (lv_at hl 5 rfl) ?_
        refine va_get (D := Γ.1) (ci := 7) (v := .ref ms) (C := RX7) (T := TX7) (N := 15) hx hb hts hinX7 hown hK.1 hP 0 rfl rfl 0 (by decide) (hts _ mw_400) (fun _ h9 => h9) rfl dX7_entry_25 ?_
        refine lv_iconst (v := (nI 0)) hx hb dX7_entry_28 (by decide) ?_
        refine iald_N hx hb hK.1 hP 1 0 rfl rfl (by omega) (by first | decide | assumption) dX7_entry_29 ?_
        refine nb_icmp_ge (tgt := 141) hx hb (by first | omega | assumption) (by first | omega | assumption) dX7_entry_30 (by decide) (fun c_30 => ?_) (fun c_30 => ?_)
        · skip
          obtain rfl : k0 = ss 0 := by omega
          refine lv_iconst (v := (nI 0)) hx hb dX7_entry_141 (by decide) ?_
          refine lv_istore (lv' := [(6, .int (nI 0)), (5, .int (bI (wonF ed tb S0 (ss 0)))), (4, .int (nI (lonF ed tb S0 (ss 0)))), (3, .int (nI (shoF ed tb S0 (ss 0)))), (2, .int (nI (seenF ed tb S0 (ss 0)))), (0, .ref ma), (1, .int (nI S0))]) hx hb dX7_entry_142 hl (by decide) rfl (fun ls hl => ?_)
          have LP144 : ∀ (fu : Nat) (v0 : Nat) (hv0 : v0 ≤ 16) (hs0 : ∀ i, i < v0 → (seenF ed tb S0 (ss 0)).testBit i = true), (16 - v0) < fu → ∀ (locs : List Loc), va_S (fun _ => False) H0 H0 locs → ∀ (ls : Array Slot), lv_has ls 10 [(6, .int (nI v0)), (5, .int (bI (wonF ed tb S0 (ss 0)))), (4, .int (nI (lonF ed tb S0 (ss 0)))), (3, .int (nI (shoF ed tb S0 (ss 0)))), (2, .int (nI (seenF ed tb S0 (ss 0)))), (0, .ref ma), (1, .int (nI S0))] → W p l ev R st mi args below meth cd H0 locs 0 0 Q (F0 mi 144 ls []) := by
            intro fu
            induction fu with
            | zero => intro v0 hv0 hs0 hfu; exact absurd hfu (Nat.not_lt_zero _)
            | succ fu ih144 =>
              intro v0 hv0 hs0 hfu locs hS ls hl
              refine lv_iload_n hx hb dX7_entry_144 rfl (lv_at hl 4 rfl) ?_
              refine lv_iload hx hb dX7_entry_145 (lv_at hl 0 rfl) ?_
              refine lv_ishr hx hb dX7_entry_147 ?_
              refine tp_i (y := (nI ((seenF ed tb S0 (ss 0)) >>> v0))) (ni_shr (by omega) (Nat.lt_trans (seen_lt _) (by decide))) ?_
              refine lv_iconst (v := (nI 1)) hx hb dX7_entry_148 (by decide) ?_
              refine lv_iand hx hb dX7_entry_149 ?_
              refine tp_i (y := (nI ((Nat.testBit (seenF ed tb S0 (ss 0)) v0).toNat))) (ni_bit _ _) ?_
              refine lv_iconst (v := (nI 1)) hx hb dX7_entry_150 (by decide) ?_
              refine nb_icmp_ne (tgt := 160) hx hb (tn_lt _) (by omega) dX7_entry_151 (by decide) (fun c_151 => ?_) (fun c_151 => ?_)
              · skip
                have hc9 := ts_f (fun q9 => c_151 (tn_1.mpr q9))
                have hx9 := mex_eq (Nat.lt_trans (seen_lt _) (by decide)) hc9 hs0
                refine lv_iload hx hb dX7_entry_160 (lv_at hl 0 rfl) ?_
                refine lv_bipush (v := (nI 16)) hx hb dX7_entry_162 (by decide) ?_
                refine lv_iload_n hx hb dX7_entry_164 rfl (lv_at hl 3 rfl) ?_
                refine lv_iconst (v := (nI 1)) hx hb dX7_entry_165 (by decide) ?_
                refine lv_iadd hx hb dX7_entry_166 ?_
                refine tp_i (y := (nI ((shoF ed tb S0 (ss 0)) + 1))) (nI_add _ _) ?_
                refine lv_imul hx hb dX7_entry_167 ?_
                refine tp_i (y := (nI (16 * ((shoF ed tb S0 (ss 0)) + 1)))) (pk_mul _ _) ?_
                refine lv_iadd hx hb dX7_entry_168 ?_
                refine tp_i (y := (nI (v0 + (16 * ((shoF ed tb S0 (ss 0)) + 1))))) (nI_add _ _) ?_
                refine lv_sipush (v := (nI 256)) hx hb dX7_entry_169 (by decide) ?_
                refine lv_iload hx hb dX7_entry_172 (lv_at hl 2 rfl) ?_
                refine lv_iconst (v := (nI 1)) hx hb dX7_entry_174 (by decide) ?_
                refine lv_iadd hx hb dX7_entry_175 ?_
                refine tp_i (y := (nI ((lonF ed tb S0 (ss 0)) + 1))) (nI_add _ _) ?_
                refine lv_imul hx hb dX7_entry_176 ?_
                refine tp_i (y := (nI (256 * ((lonF ed tb S0 (ss 0)) + 1)))) (pk_mul _ _) ?_
                refine lv_iadd hx hb dX7_entry_177 ?_
                refine tp_i (y := (nI ((v0 + (16 * ((shoF ed tb S0 (ss 0)) + 1))) + (256 * ((lonF ed tb S0 (ss 0)) + 1))))) (nI_add _ _) ?_
                refine lv_iload hx hb dX7_entry_178 (lv_at hl 1 rfl) ?_
                refine nb_ifb_eq (tgt := 189) hx hb dX7_entry_180 (by decide) (fun c_180 => ?_) (fun c_180 => ?_)
                · skip
                  refine lv_iconst (v := (nI 0)) hx hb dX7_entry_189 (by decide) ?_
                  refine lv_iadd hx hb dX7_entry_190 ?_
                  refine tp_i (y := (nI (((v0 + (16 * ((shoF ed tb S0 (ss 0)) + 1))) + (256 * ((lonF ed tb S0 (ss 0)) + 1))) + 0))) (nI_add _ _) ?_
                  exact hret hS (by rw [entr, if_neg c_1, hx9, if_f c_180]) dX7_entry_191
                · skip
                  refine lv_sipush (v := (nI 4096)) hx hb dX7_entry_183 (by decide) ?_
                  refine lv_goto (tgt := 190) hx hb dX7_entry_186 (by decide) ?_
                  refine lv_iadd hx hb dX7_entry_190 ?_
                  refine tp_i (y := (nI (((v0 + (16 * ((shoF ed tb S0 (ss 0)) + 1))) + (256 * ((lonF ed tb S0 (ss 0)) + 1))) + 4096))) (nI_add _ _) ?_
                  exact hret hS (by rw [entr, if_neg c_1, hx9, if_t c_180]) dX7_entry_191
              · skip
                have hc9 := tn_1.mp c_151
                have hv9 : v0 < 16 := by
                  rcases Nat.lt_or_ge v0 16 with z9 | z9
                  · exact z9
                  · rw [bit_of_lt (seen_lt _) z9] at hc9; cases hc9
                refine lv_iinc (v := (nI (v0 + 1))) (lv' := [(6, .int (nI (v0 + 1))), (5, .int (bI (wonF ed tb S0 (ss 0)))), (4, .int (nI (lonF ed tb S0 (ss 0)))), (3, .int (nI (shoF ed tb S0 (ss 0)))), (2, .int (nI (seenF ed tb S0 (ss 0)))), (0, .ref ma), (1, .int (nI S0))]) hx hb dX7_entry_154 hl (k := 0) rfl (nI_1 _) (by decide) rfl (fun ls hl => ?_)
                refine lv_goto (tgt := 144) hx hb dX7_entry_157 (by decide) ?_
                exact ih144 (v0 + 1) (by omega) (lt_s hs0 hc9) (by omega) _ hS ls (lv_sub hl [0, 1, 2, 3, 4, 5, 6] rfl)
          exact LP144 ((16 - 0) + 1) 0 (by first | omega | assumption) (fun i9 h9 => absurd h9 (Nat.not_lt_zero _)) (Nat.lt_succ_self _) _ hS ls (lv_sub hl [0, 1, 2, 3, 4, 5, 6] rfl)
        · skip
          refine lv_iload_n hx hb dX7_entry_33 rfl (lv_at hl 6 rfl) ?_
          refine lv_iload hx hb dX7_entry_34 (lv_at hl 0 rfl) ?_
          refine lv_ishr hx hb dX7_entry_36 ?_
          refine tp_i (y := (nI (S0 >>> k0))) (ni_shr (by omega) (by omega)) ?_
          refine lv_iconst (v := (nI 1)) hx hb dX7_entry_37 (by decide) ?_
          refine lv_iand hx hb dX7_entry_38 ?_
          refine tp_i (y := (nI ((Nat.testBit S0 k0).toNat))) (ni_bit _ _) ?_
          refine lv_iconst (v := (nI 1)) hx hb dX7_entry_39 (by decide) ?_
          refine nb_icmp_ne (tgt := 135) hx hb (tn_lt _) (by omega) dX7_entry_40 (by decide) (fun c_40 => ?_) (fun c_40 => ?_)
          · skip
            have hb9 : S0.testBit k0 = false := ts_f (fun q9 => c_40 (tn_1.mpr q9))
            have hl : lv_has ls 10 [(6, .int (nI k0)), (5, .int (bI (wonF ed tb S0 (k0 + 1)))), (4, .int (nI (lonF ed tb S0 (k0 + 1)))), (3, .int (nI (shoF ed tb S0 (k0 + 1)))), (2, .int (nI (seenF ed tb S0 (k0 + 1)))), (0, .ref ma), (1, .int (nI S0))] := lv_cast hl (by simp only [seenF, shoF, lonF, wonF, hb9, Bool.false_eq_true, if_false])
            refine lv_iinc (v := (nI (k0 + 1))) (lv' := [(6, .int (nI (k0 + 1))), (5, .int (bI (wonF ed tb S0 (k0 + 1)))), (4, .int (nI (lonF ed tb S0 (k0 + 1)))), (3, .int (nI (shoF ed tb S0 (k0 + 1)))), (2, .int (nI (seenF ed tb S0 (k0 + 1)))), (0, .ref ma), (1, .int (nI S0))]) hx hb dX7_entry_135 hl (k := 0) rfl (nI_1 _) (by decide) rfl (fun ls hl => ?_)
            refine lv_goto (tgt := 22) hx hb dX7_entry_138 (by decide) ?_
            exact ih22 (k0 + 1) (by first | omega | assumption) (by omega) _ hS ls (lv_sub hl [0, 1, 2, 3, 4, 5, 6] rfl)
          · skip
            have hb9 : S0.testBit k0 = true := tn_1.mp c_40
            have ht9 := htb _ (lft_lt (g := ed) k0 hS0)
            refine lv_aload_n hx hb dX7_entry_43 rfl (lv_at hl 5 rfl) ?_
            refine va_get (D := Γ.1) (ci := 7) (v := .ref mb) (C := RX7) (T := TX7) (N := 15) hx hb hts hinX7 hown hK.1 hP 0 rfl rfl 6 (by decide) (hts _ mw_404) (fun _ h9 => h9) rfl dX7_entry_44 ?_
            refine lv_aload_n hx hb dX7_entry_47 rfl (lv_at hl 5 rfl) ?_
            refine lv_iload_n hx hb dX7_entry_48 rfl (lv_at hl 6 rfl) ?_
            refine lv_iload hx hb dX7_entry_49 (lv_at hl 0 rfl) ?_
            refine ro_fin (va_runV (As := [.int (nI S0), .int (nI k0)]) (rest := [.ref mb]) ⟨hx, hb, hml, hown, hts⟩ (c_X7_left l Γ H0 ma ms sn0 mk tw0 mt ty0 mb il0 me mr my0 mq mp mw mc ed S0 k0 (hP.sub (ws' := [(ma, .inr (7, [.ref ms, .int (nI sn0), .ref mk, .int (nI tw0), .ref mt, .int (nI ty0), .ref mb, .int (bI il0), .ref me, .ref mr, .int (nI my0), .ref mq, .ref mp, .ref mw, .ref mc])), (me, .inl (Γ.2 0, 14, .inl (aN ed)))]) [0, 3] rfl) (by first | omega | assumption)) (kcwV 2 hts kv_X7_left mw_433 (rm_le hR (Nat.le_of_ble_eq_true rfl) (Nat.le_of_ble_eq_true rfl))) (kPc_V hK (va_recv hK.1 hP (ci := 7) (q0 := 0) rfl rfl)) rfl rfl hl.1 rfl (lv_room (Nat.le_of_ble_eq_true rfl)) dX7_entry_51 ⟨Nat.zero_le _, Nat.zero_le _⟩) hS (fun locs hS => ?_)
            refine iald_N hx hb hK.1 hP 2 0 rfl rfl (lft_lt _ hS0) (by first | decide | assumption) dX7_entry_54 ?_
            refine lv_istore (lv' := [(7, .int (nI (tb (lft ed S0 k0)))), (6, .int (nI k0)), (5, .int (bI (wonF ed tb S0 k0))), (4, .int (nI (lonF ed tb S0 k0))), (3, .int (nI (shoF ed tb S0 k0))), (2, .int (nI (seenF ed tb S0 k0))), (0, .ref ma), (1, .int (nI S0))]) hx hb dX7_entry_55 hl (by decide) rfl (fun ls hl => ?_)
            refine lv_iload_n hx hb dX7_entry_57 rfl (lv_at hl 5 rfl) ?_
            refine lv_iconst (v := (nI 1)) hx hb dX7_entry_58 (by decide) ?_
            refine lv_iload hx hb dX7_entry_59 (lv_at hl 0 rfl) ?_
            refine lv_bipush (v := (nI 15)) hx hb dX7_entry_61 (by decide) ?_
            refine lv_iand hx hb dX7_entry_63 ?_
            refine tp_i (y := (nI ((tb (lft ed S0 k0)) &&& 15))) (ni_and _ _) ?_
            refine lv_ishl hx hb dX7_entry_64 ?_
            refine tp_i (y := (nI (2 ^ ((tb (lft ed S0 k0)) &&& 15)))) (ni_shl1 (Nat.lt_of_le_of_lt Nat.and_le_right (by decide))) ?_
            refine lv_ior hx hb dX7_entry_65 ?_
            refine tp_i (y := (nI ((seenF ed tb S0 k0) ||| (2 ^ ((tb (lft ed S0 k0)) &&& 15))))) (ni_or _ _) ?_
            refine tp_i (y := (nI (seenF ed tb S0 (k0 + 1)))) (by rw [seenF, if_t hb9]) ?_
            refine lv_istore_n (lv' := [(2, .int (nI (seenF ed tb S0 (k0 + 1)))), (7, .int (nI (tb (lft ed S0 k0)))), (6, .int (nI k0)), (5, .int (bI (wonF ed tb S0 k0))), (4, .int (nI (lonF ed tb S0 k0))), (3, .int (nI (shoF ed tb S0 k0))), (0, .ref ma), (1, .int (nI S0))]) hx hb dX7_entry_66 rfl hl (by decide) rfl (fun ls hl => ?_)
            refine lv_iload hx hb dX7_entry_67 (lv_at hl 1 rfl) ?_
            refine lv_iconst (v := (nI 4)) hx hb dX7_entry_69 (by decide) ?_
            refine lv_ishr hx hb dX7_entry_70 ?_
            refine tp_i (y := (nI ((tb (lft ed S0 k0)) >>> 4))) (ni_shr (by omega) (by omega)) ?_
            refine lv_bipush (v := (nI 15)) hx hb dX7_entry_71 (by decide) ?_
            refine lv_iand hx hb dX7_entry_73 ?_
            refine tp_i (y := (nI (((tb (lft ed S0 k0)) >>> 4) &&& 15))) (ni_and _ _) ?_
            refine lv_istore (lv' := [(8, .int (nI (((tb (lft ed S0 k0)) >>> 4) &&& 15))), (2, .int (nI (seenF ed tb S0 (k0 + 1)))), (7, .int (nI (tb (lft ed S0 k0)))), (6, .int (nI k0)), (5, .int (bI (wonF ed tb S0 k0))), (4, .int (nI (lonF ed tb S0 k0))), (3, .int (nI (shoF ed tb S0 k0))), (0, .ref ma), (1, .int (nI S0))]) hx hb dX7_entry_74 hl (by decide) rfl (fun ls hl => ?_)
            refine lv_iload hx hb dX7_entry_76 (lv_at hl 2 rfl) ?_
            refine lv_bipush (v := (nI 8)) hx hb dX7_entry_78 (by decide) ?_
            refine lv_ishr hx hb dX7_entry_80 ?_
            refine tp_i (y := (nI ((tb (lft ed S0 k0)) >>> 8))) (ni_shr (by omega) (by omega)) ?_
            refine lv_bipush (v := (nI 15)) hx hb dX7_entry_81 (by decide) ?_
            refine lv_iand hx hb dX7_entry_83 ?_
            refine tp_i (y := (nI (((tb (lft ed S0 k0)) >>> 8) &&& 15))) (ni_and _ _) ?_
            refine lv_istore (lv' := [(9, .int (nI (((tb (lft ed S0 k0)) >>> 8) &&& 15))), (8, .int (nI (((tb (lft ed S0 k0)) >>> 4) &&& 15))), (2, .int (nI (seenF ed tb S0 (k0 + 1)))), (7, .int (nI (tb (lft ed S0 k0)))), (6, .int (nI k0)), (5, .int (bI (wonF ed tb S0 k0))), (4, .int (nI (lonF ed tb S0 k0))), (3, .int (nI (shoF ed tb S0 k0))), (0, .ref ma), (1, .int (nI S0))]) hx hb dX7_entry_84 hl (by decide) rfl (fun ls hl => ?_)
            refine lv_iload hx hb dX7_entry_86 (lv_at hl 1 rfl) ?_
            refine lv_iload_n hx hb dX7_entry_88 rfl (lv_at hl 7 rfl) ?_
            refine nb_icmp_ge (tgt := 97) hx hb (Nat.lt_of_le_of_lt Nat.and_le_right (by decide)) (Nat.lt_of_le_of_lt (sho_le k0).1 (by decide)) dX7_entry_89 (by decide) (fun c_89 => ?_) (fun c_89 => ?_)
            · skip
              refine lv_iload_n hx hb dX7_entry_97 rfl (lv_at hl 7 rfl) ?_
              refine tp_i (y := (nI (shoF ed tb S0 (k0 + 1)))) (by rw [shoF, if_t hb9, if_neg (Nat.not_lt.mpr c_89)]) ?_
              refine lv_istore_n (lv' := [(3, .int (nI (shoF ed tb S0 (k0 + 1)))), (9, .int (nI (((tb (lft ed S0 k0)) >>> 8) &&& 15))), (8, .int (nI (((tb (lft ed S0 k0)) >>> 4) &&& 15))), (2, .int (nI (seenF ed tb S0 (k0 + 1)))), (7, .int (nI (tb (lft ed S0 k0)))), (6, .int (nI k0)), (5, .int (bI (wonF ed tb S0 k0))), (4, .int (nI (lonF ed tb S0 k0))), (0, .ref ma), (1, .int (nI S0))]) hx hb dX7_entry_98 rfl hl (by decide) rfl (fun ls hl => ?_)
              refine lv_iload hx hb dX7_entry_99 (lv_at hl 1 rfl) ?_
              refine lv_iload hx hb dX7_entry_101 (lv_at hl 7 rfl) ?_
              refine nb_icmp_le (tgt := 111) hx hb (Nat.lt_of_le_of_lt Nat.and_le_right (by decide)) (Nat.lt_of_le_of_lt (lonF_16 ed tb S0 k0) (by decide)) dX7_entry_103 (by decide) (fun c_103 => ?_) (fun c_103 => ?_)
              · skip
                refine lv_iload hx hb dX7_entry_111 (lv_at hl 7 rfl) ?_
                refine tp_i (y := (nI (lonF ed tb S0 (k0 + 1)))) (by rw [lonF, if_t hb9, if_neg (Nat.not_lt.mpr c_103)]) ?_
                refine lv_istore (lv' := [(4, .int (nI (lonF ed tb S0 (k0 + 1)))), (3, .int (nI (shoF ed tb S0 (k0 + 1)))), (9, .int (nI (((tb (lft ed S0 k0)) >>> 8) &&& 15))), (8, .int (nI (((tb (lft ed S0 k0)) >>> 4) &&& 15))), (2, .int (nI (seenF ed tb S0 (k0 + 1)))), (7, .int (nI (tb (lft ed S0 k0)))), (6, .int (nI k0)), (5, .int (bI (wonF ed tb S0 k0))), (0, .ref ma), (1, .int (nI S0))]) hx hb dX7_entry_113 hl (by decide) rfl (fun ls hl => ?_)
                refine lv_iload hx hb dX7_entry_115 (lv_at hl 7 rfl) ?_
                refine nb_ifb_ne (tgt := 128) hx hb dX7_entry_117 (by decide) (fun c_117 => ?_) (fun c_117 => ?_)
                · skip
                  refine lv_iconst (v := (nI 1)) hx hb dX7_entry_128 (by decide) ?_
                  refine tp_i (y := (bI (wonF ed tb S0 (k0 + 1)))) (by first | (rw [wonF, if_t hb9, c_117]; rfl) | (rw [wonF, if_t hb9, decide_eq_true c_125, Bool.or_true]; rfl)) ?_
                  refine lv_goto (tgt := 133) hx hb dX7_entry_129 (by decide) ?_
                  refine lv_istore (lv' := [(5, .int (bI (wonF ed tb S0 (k0 + 1)))), (4, .int (nI (lonF ed tb S0 (k0 + 1)))), (3, .int (nI (shoF ed tb S0 (k0 + 1)))), (9, .int (nI (((tb (lft ed S0 k0)) >>> 8) &&& 15))), (8, .int (nI (((tb (lft ed S0 k0)) >>> 4) &&& 15))), (2, .int (nI (seenF ed tb S0 (k0 + 1)))), (7, .int (nI (tb (lft ed S0 k0)))), (6, .int (nI k0)), (0, .ref ma), (1, .int (nI S0))]) hx hb dX7_entry_133 hl (by decide) rfl (fun ls hl => ?_)
                  refine lv_iinc (v := (nI (k0 + 1))) (lv' := [(6, .int (nI (k0 + 1))), (5, .int (bI (wonF ed tb S0 (k0 + 1)))), (4, .int (nI (lonF ed tb S0 (k0 + 1)))), (3, .int (nI (shoF ed tb S0 (k0 + 1)))), (9, .int (nI (((tb (lft ed S0 k0)) >>> 8) &&& 15))), (8, .int (nI (((tb (lft ed S0 k0)) >>> 4) &&& 15))), (2, .int (nI (seenF ed tb S0 (k0 + 1)))), (7, .int (nI (tb (lft ed S0 k0)))), (0, .ref ma), (1, .int (nI S0))]) hx hb dX7_entry_135 hl (k := 7) rfl (nI_1 _) (by decide) rfl (fun ls hl => ?_)
                  refine lv_goto (tgt := 22) hx hb dX7_entry_138 (by decide) ?_
                  exact ih22 (k0 + 1) (by first | omega | assumption) (by omega) _ hS ls (lv_sub hl [0, 1, 2, 3, 6, 8, 9] rfl)
                · skip
                  refine lv_iload hx hb dX7_entry_120 (lv_at hl 5 rfl) ?_
                  refine lv_sipush (v := (nI 4096)) hx hb dX7_entry_122 (by decide) ?_
                  refine nb_icmp_ge (tgt := 132) hx hb (by omega) (by omega) dX7_entry_125 (by decide) (fun c_125 => ?_) (fun c_125 => ?_)
                  · skip
                    refine lv_iconst (v := (nI 0)) hx hb dX7_entry_132 (by decide) ?_
                    refine tp_i (y := (bI (wonF ed tb S0 (k0 + 1)))) (by rw [wonF, if_t hb9, c_117, decide_eq_false (Nat.not_lt.mpr c_125)]; rfl) ?_
                    refine lv_istore (lv' := [(5, .int (bI (wonF ed tb S0 (k0 + 1)))), (4, .int (nI (lonF ed tb S0 (k0 + 1)))), (3, .int (nI (shoF ed tb S0 (k0 + 1)))), (9, .int (nI (((tb (lft ed S0 k0)) >>> 8) &&& 15))), (8, .int (nI (((tb (lft ed S0 k0)) >>> 4) &&& 15))), (2, .int (nI (seenF ed tb S0 (k0 + 1)))), (7, .int (nI (tb (lft ed S0 k0)))), (6, .int (nI k0)), (0, .ref ma), (1, .int (nI S0))]) hx hb dX7_entry_133 hl (by decide) rfl (fun ls hl => ?_)
                    refine lv_iinc (v := (nI (k0 + 1))) (lv' := [(6, .int (nI (k0 + 1))), (5, .int (bI (wonF ed tb S0 (k0 + 1)))), (4, .int (nI (lonF ed tb S0 (k0 + 1)))), (3, .int (nI (shoF ed tb S0 (k0 + 1)))), (9, .int (nI (((tb (lft ed S0 k0)) >>> 8) &&& 15))), (8, .int (nI (((tb (lft ed S0 k0)) >>> 4) &&& 15))), (2, .int (nI (seenF ed tb S0 (k0 + 1)))), (7, .int (nI (tb (lft ed S0 k0)))), (0, .ref ma), (1, .int (nI S0))]) hx hb dX7_entry_135 hl (k := 7) rfl (nI_1 _) (by decide) rfl (fun ls hl => ?_)
                    refine lv_goto (tgt := 22) hx hb dX7_entry_138 (by decide) ?_
                    exact ih22 (k0 + 1) (by first | omega | assumption) (by omega) _ hS ls (lv_sub hl [0, 1, 2, 3, 6, 8, 9] rfl)
                  · skip
                    refine lv_iconst (v := (nI 1)) hx hb dX7_entry_128 (by decide) ?_
                    refine tp_i (y := (bI (wonF ed tb S0 (k0 + 1)))) (by first | (rw [wonF, if_t hb9, c_117]; rfl) | (rw [wonF, if_t hb9, decide_eq_true c_125, Bool.or_true]; rfl)) ?_
                    refine lv_goto (tgt := 133) hx hb dX7_entry_129 (by decide) ?_
                    refine lv_istore (lv' := [(5, .int (bI (wonF ed tb S0 (k0 + 1)))), (4, .int (nI (lonF ed tb S0 (k0 + 1)))), (3, .int (nI (shoF ed tb S0 (k0 + 1)))), (9, .int (nI (((tb (lft ed S0 k0)) >>> 8) &&& 15))), (8, .int (nI (((tb (lft ed S0 k0)) >>> 4) &&& 15))), (2, .int (nI (seenF ed tb S0 (k0 + 1)))), (7, .int (nI (tb (lft ed S0 k0)))), (6, .int (nI k0)), (0, .ref ma), (1, .int (nI S0))]) hx hb dX7_entry_133 hl (by decide) rfl (fun ls hl => ?_)
                    refine lv_iinc (v := (nI (k0 + 1))) (lv' := [(6, .int (nI (k0 + 1))), (5, .int (bI (wonF ed tb S0 (k0 + 1)))), (4, .int (nI (lonF ed tb S0 (k0 + 1)))), (3, .int (nI (shoF ed tb S0 (k0 + 1)))), (9, .int (nI (((tb (lft ed S0 k0)) >>> 8) &&& 15))), (8, .int (nI (((tb (lft ed S0 k0)) >>> 4) &&& 15))), (2, .int (nI (seenF ed tb S0 (k0 + 1)))), (7, .int (nI (tb (lft ed S0 k0)))), (0, .ref ma), (1, .int (nI S0))]) hx hb dX7_entry_135 hl (k := 7) rfl (nI_1 _) (by decide) rfl (fun ls hl => ?_)
                    refine lv_goto (tgt := 22) hx hb dX7_entry_138 (by decide) ?_
                    exact ih22 (k0 + 1) (by first | omega | assumption) (by omega) _ hS ls (lv_sub hl [0, 1, 2, 3, 6, 8, 9] rfl)
              · skip
                refine lv_iload hx hb dX7_entry_106 (lv_at hl 1 rfl) ?_
                refine tp_i (y := (nI (lonF ed tb S0 (k0 + 1)))) (by rw [lonF, if_t hb9, if_pos c_103]) ?_
                refine lv_goto (tgt := 113) hx hb dX7_entry_108 (by decide) ?_
                refine lv_istore (lv' := [(4, .int (nI (lonF ed tb S0 (k0 + 1)))), (3, .int (nI (shoF ed tb S0 (k0 + 1)))), (9, .int (nI (((tb (lft ed S0 k0)) >>> 8) &&& 15))), (8, .int (nI (((tb (lft ed S0 k0)) >>> 4) &&& 15))), (2, .int (nI (seenF ed tb S0 (k0 + 1)))), (7, .int (nI (tb (lft ed S0 k0)))), (6, .int (nI k0)), (5, .int (bI (wonF ed tb S0 k0))), (0, .ref ma), (1, .int (nI S0))]) hx hb dX7_entry_113 hl (by decide) rfl (fun ls hl => ?_)
                refine lv_iload hx hb dX7_entry_115 (lv_at hl 7 rfl) ?_
                refine nb_ifb_ne (tgt := 128) hx hb dX7_entry_117 (by decide) (fun c_117 => ?_) (fun c_117 => ?_)
                · skip
                  refine lv_iconst (v := (nI 1)) hx hb dX7_entry_128 (by decide) ?_
                  refine tp_i (y := (bI (wonF ed tb S0 (k0 + 1)))) (by first | (rw [wonF, if_t hb9, c_117]; rfl) | (rw [wonF, if_t hb9, decide_eq_true c_125, Bool.or_true]; rfl)) ?_
                  refine lv_goto (tgt := 133) hx hb dX7_entry_129 (by decide) ?_
                  refine lv_istore (lv' := [(5, .int (bI (wonF ed tb S0 (k0 + 1)))), (4, .int (nI (lonF ed tb S0 (k0 + 1)))), (3, .int (nI (shoF ed tb S0 (k0 + 1)))), (9, .int (nI (((tb (lft ed S0 k0)) >>> 8) &&& 15))), (8, .int (nI (((tb (lft ed S0 k0)) >>> 4) &&& 15))), (2, .int (nI (seenF ed tb S0 (k0 + 1)))), (7, .int (nI (tb (lft ed S0 k0)))), (6, .int (nI k0)), (0, .ref ma), (1, .int (nI S0))]) hx hb dX7_entry_133 hl (by decide) rfl (fun ls hl => ?_)
                  refine lv_iinc (v := (nI (k0 + 1))) (lv' := [(6, .int (nI (k0 + 1))), (5, .int (bI (wonF ed tb S0 (k0 + 1)))), (4, .int (nI (lonF ed tb S0 (k0 + 1)))), (3, .int (nI (shoF ed tb S0 (k0 + 1)))), (9, .int (nI (((tb (lft ed S0 k0)) >>> 8) &&& 15))), (8, .int (nI (((tb (lft ed S0 k0)) >>> 4) &&& 15))), (2, .int (nI (seenF ed tb S0 (k0 + 1)))), (7, .int (nI (tb (lft ed S0 k0)))), (0, .ref ma), (1, .int (nI S0))]) hx hb dX7_entry_135 hl (k := 7) rfl (nI_1 _) (by decide) rfl (fun ls hl => ?_)
                  refine lv_goto (tgt := 22) hx hb dX7_entry_138 (by decide) ?_
                  exact ih22 (k0 + 1) (by first | omega | assumption) (by omega) _ hS ls (lv_sub hl [0, 1, 2, 3, 6, 8, 9] rfl)
                · skip
                  refine lv_iload hx hb dX7_entry_120 (lv_at hl 5 rfl) ?_
                  refine lv_sipush (v := (nI 4096)) hx hb dX7_entry_122 (by decide) ?_
                  refine nb_icmp_ge (tgt := 132) hx hb (by omega) (by omega) dX7_entry_125 (by decide) (fun c_125 => ?_) (fun c_125 => ?_)
                  · skip
                    refine lv_iconst (v := (nI 0)) hx hb dX7_entry_132 (by decide) ?_
                    refine tp_i (y := (bI (wonF ed tb S0 (k0 + 1)))) (by rw [wonF, if_t hb9, c_117, decide_eq_false (Nat.not_lt.mpr c_125)]; rfl) ?_
                    refine lv_istore (lv' := [(5, .int (bI (wonF ed tb S0 (k0 + 1)))), (4, .int (nI (lonF ed tb S0 (k0 + 1)))), (3, .int (nI (shoF ed tb S0 (k0 + 1)))), (9, .int (nI (((tb (lft ed S0 k0)) >>> 8) &&& 15))), (8, .int (nI (((tb (lft ed S0 k0)) >>> 4) &&& 15))), (2, .int (nI (seenF ed tb S0 (k0 + 1)))), (7, .int (nI (tb (lft ed S0 k0)))), (6, .int (nI k0)), (0, .ref ma), (1, .int (nI S0))]) hx hb dX7_entry_133 hl (by decide) rfl (fun ls hl => ?_)
                    refine lv_iinc (v := (nI (k0 + 1))) (lv' := [(6, .int (nI (k0 + 1))), (5, .int (bI (wonF ed tb S0 (k0 + 1)))), (4, .int (nI (lonF ed tb S0 (k0 + 1)))), (3, .int (nI (shoF ed tb S0 (k0 + 1)))), (9, .int (nI (((tb (lft ed S0 k0)) >>> 8) &&& 15))), (8, .int (nI (((tb (lft ed S0 k0)) >>> 4) &&& 15))), (2, .int (nI (seenF ed tb S0 (k0 + 1)))), (7, .int (nI (tb (lft ed S0 k0)))), (0, .ref ma), (1, .int (nI S0))]) hx hb dX7_entry_135 hl (k := 7) rfl (nI_1 _) (by decide) rfl (fun ls hl => ?_)
                    refine lv_goto (tgt := 22) hx hb dX7_entry_138 (by decide) ?_
                    exact ih22 (k0 + 1) (by first | omega | assumption) (by omega) _ hS ls (lv_sub hl [0, 1, 2, 3, 6, 8, 9] rfl)
                  · skip
                    refine lv_iconst (v := (nI 1)) hx hb dX7_entry_128 (by decide) ?_
                    refine tp_i (y := (bI (wonF ed tb S0 (k0 + 1)))) (by first | (rw [wonF, if_t hb9, c_117]; rfl) | (rw [wonF, if_t hb9, decide_eq_true c_125, Bool.or_true]; rfl)) ?_
                    refine lv_goto (tgt := 133) hx hb dX7_entry_129 (by decide) ?_
                    refine lv_istore (lv' := [(5, .int (bI (wonF ed tb S0 (k0 + 1)))), (4, .int (nI (lonF ed tb S0 (k0 + 1)))), (3, .int (nI (shoF ed tb S0 (k0 + 1)))), (9, .int (nI (((tb (lft ed S0 k0)) >>> 8) &&& 15))), (8, .int (nI (((tb (lft ed S0 k0)) >>> 4) &&& 15))), (2, .int (nI (seenF ed tb S0 (k0 + 1)))), (7, .int (nI (tb (lft ed S0 k0)))), (6, .int (nI k0)), (0, .ref ma), (1, .int (nI S0))]) hx hb dX7_entry_133 hl (by decide) rfl (fun ls hl => ?_)
                    refine lv_iinc (v := (nI (k0 + 1))) (lv' := [(6, .int (nI (k0 + 1))), (5, .int (bI (wonF ed tb S0 (k0 + 1)))), (4, .int (nI (lonF ed tb S0 (k0 + 1)))), (3, .int (nI (shoF ed tb S0 (k0 + 1)))), (9, .int (nI (((tb (lft ed S0 k0)) >>> 8) &&& 15))), (8, .int (nI (((tb (lft ed S0 k0)) >>> 4) &&& 15))), (2, .int (nI (seenF ed tb S0 (k0 + 1)))), (7, .int (nI (tb (lft ed S0 k0)))), (0, .ref ma), (1, .int (nI S0))]) hx hb dX7_entry_135 hl (k := 7) rfl (nI_1 _) (by decide) rfl (fun ls hl => ?_)
                    refine lv_goto (tgt := 22) hx hb dX7_entry_138 (by decide) ?_
                    exact ih22 (k0 + 1) (by first | omega | assumption) (by omega) _ hS ls (lv_sub hl [0, 1, 2, 3, 6, 8, 9] rfl)
            · skip
              refine lv_iload hx hb dX7_entry_92 (lv_at hl 1 rfl) ?_
              refine tp_i (y := (nI (shoF ed tb S0 (k0 + 1)))) (by rw [shoF, if_t hb9, if_pos c_89]) ?_
              refine lv_goto (tgt := 98) hx hb dX7_entry_94 (by decide) ?_
              refine lv_istore_n (lv' := [(3, .int (nI (shoF ed tb S0 (k0 + 1)))), (9, .int (nI (((tb (lft ed S0 k0)) >>> 8) &&& 15))), (8, .int (nI (((tb (lft ed S0 k0)) >>> 4) &&& 15))), (2, .int (nI (seenF ed tb S0 (k0 + 1)))), (7, .int (nI (tb (lft ed S0 k0)))), (6, .int (nI k0)), (5, .int (bI (wonF ed tb S0 k0))), (4, .int (nI (lonF ed tb S0 k0))), (0, .ref ma), (1, .int (nI S0))]) hx hb dX7_entry_98 rfl hl (by decide) rfl (fun ls hl => ?_)
              refine lv_iload hx hb dX7_entry_99 (lv_at hl 1 rfl) ?_
              refine lv_iload hx hb dX7_entry_101 (lv_at hl 7 rfl) ?_
              refine nb_icmp_le (tgt := 111) hx hb (Nat.lt_of_le_of_lt Nat.and_le_right (by decide)) (Nat.lt_of_le_of_lt (lonF_16 ed tb S0 k0) (by decide)) dX7_entry_103 (by decide) (fun c_103 => ?_) (fun c_103 => ?_)
              · skip
                refine lv_iload hx hb dX7_entry_111 (lv_at hl 7 rfl) ?_
                refine tp_i (y := (nI (lonF ed tb S0 (k0 + 1)))) (by rw [lonF, if_t hb9, if_neg (Nat.not_lt.mpr c_103)]) ?_
                refine lv_istore (lv' := [(4, .int (nI (lonF ed tb S0 (k0 + 1)))), (3, .int (nI (shoF ed tb S0 (k0 + 1)))), (9, .int (nI (((tb (lft ed S0 k0)) >>> 8) &&& 15))), (8, .int (nI (((tb (lft ed S0 k0)) >>> 4) &&& 15))), (2, .int (nI (seenF ed tb S0 (k0 + 1)))), (7, .int (nI (tb (lft ed S0 k0)))), (6, .int (nI k0)), (5, .int (bI (wonF ed tb S0 k0))), (0, .ref ma), (1, .int (nI S0))]) hx hb dX7_entry_113 hl (by decide) rfl (fun ls hl => ?_)
                refine lv_iload hx hb dX7_entry_115 (lv_at hl 7 rfl) ?_
                refine nb_ifb_ne (tgt := 128) hx hb dX7_entry_117 (by decide) (fun c_117 => ?_) (fun c_117 => ?_)
                · skip
                  refine lv_iconst (v := (nI 1)) hx hb dX7_entry_128 (by decide) ?_
                  refine tp_i (y := (bI (wonF ed tb S0 (k0 + 1)))) (by first | (rw [wonF, if_t hb9, c_117]; rfl) | (rw [wonF, if_t hb9, decide_eq_true c_125, Bool.or_true]; rfl)) ?_
                  refine lv_goto (tgt := 133) hx hb dX7_entry_129 (by decide) ?_
                  refine lv_istore (lv' := [(5, .int (bI (wonF ed tb S0 (k0 + 1)))), (4, .int (nI (lonF ed tb S0 (k0 + 1)))), (3, .int (nI (shoF ed tb S0 (k0 + 1)))), (9, .int (nI (((tb (lft ed S0 k0)) >>> 8) &&& 15))), (8, .int (nI (((tb (lft ed S0 k0)) >>> 4) &&& 15))), (2, .int (nI (seenF ed tb S0 (k0 + 1)))), (7, .int (nI (tb (lft ed S0 k0)))), (6, .int (nI k0)), (0, .ref ma), (1, .int (nI S0))]) hx hb dX7_entry_133 hl (by decide) rfl (fun ls hl => ?_)
                  refine lv_iinc (v := (nI (k0 + 1))) (lv' := [(6, .int (nI (k0 + 1))), (5, .int (bI (wonF ed tb S0 (k0 + 1)))), (4, .int (nI (lonF ed tb S0 (k0 + 1)))), (3, .int (nI (shoF ed tb S0 (k0 + 1)))), (9, .int (nI (((tb (lft ed S0 k0)) >>> 8) &&& 15))), (8, .int (nI (((tb (lft ed S0 k0)) >>> 4) &&& 15))), (2, .int (nI (seenF ed tb S0 (k0 + 1)))), (7, .int (nI (tb (lft ed S0 k0)))), (0, .ref ma), (1, .int (nI S0))]) hx hb dX7_entry_135 hl (k := 7) rfl (nI_1 _) (by decide) rfl (fun ls hl => ?_)
                  refine lv_goto (tgt := 22) hx hb dX7_entry_138 (by decide) ?_
                  exact ih22 (k0 + 1) (by first | omega | assumption) (by omega) _ hS ls (lv_sub hl [0, 1, 2, 3, 6, 8, 9] rfl)
                · skip
                  refine lv_iload hx hb dX7_entry_120 (lv_at hl 5 rfl) ?_
                  refine lv_sipush (v := (nI 4096)) hx hb dX7_entry_122 (by decide) ?_
                  refine nb_icmp_ge (tgt := 132) hx hb (by omega) (by omega) dX7_entry_125 (by decide) (fun c_125 => ?_) (fun c_125 => ?_)
                  · skip
                    refine lv_iconst (v := (nI 0)) hx hb dX7_entry_132 (by decide) ?_
                    refine tp_i (y := (bI (wonF ed tb S0 (k0 + 1)))) (by rw [wonF, if_t hb9, c_117, decide_eq_false (Nat.not_lt.mpr c_125)]; rfl) ?_
                    refine lv_istore (lv' := [(5, .int (bI (wonF ed tb S0 (k0 + 1)))), (4, .int (nI (lonF ed tb S0 (k0 + 1)))), (3, .int (nI (shoF ed tb S0 (k0 + 1)))), (9, .int (nI (((tb (lft ed S0 k0)) >>> 8) &&& 15))), (8, .int (nI (((tb (lft ed S0 k0)) >>> 4) &&& 15))), (2, .int (nI (seenF ed tb S0 (k0 + 1)))), (7, .int (nI (tb (lft ed S0 k0)))), (6, .int (nI k0)), (0, .ref ma), (1, .int (nI S0))]) hx hb dX7_entry_133 hl (by decide) rfl (fun ls hl => ?_)
                    refine lv_iinc (v := (nI (k0 + 1))) (lv' := [(6, .int (nI (k0 + 1))), (5, .int (bI (wonF ed tb S0 (k0 + 1)))), (4, .int (nI (lonF ed tb S0 (k0 + 1)))), (3, .int (nI (shoF ed tb S0 (k0 + 1)))), (9, .int (nI (((tb (lft ed S0 k0)) >>> 8) &&& 15))), (8, .int (nI (((tb (lft ed S0 k0)) >>> 4) &&& 15))), (2, .int (nI (seenF ed tb S0 (k0 + 1)))), (7, .int (nI (tb (lft ed S0 k0)))), (0, .ref ma), (1, .int (nI S0))]) hx hb dX7_entry_135 hl (k := 7) rfl (nI_1 _) (by decide) rfl (fun ls hl => ?_)
                    refine lv_goto (tgt := 22) hx hb dX7_entry_138 (by decide) ?_
                    exact ih22 (k0 + 1) (by first | omega | assumption) (by omega) _ hS ls (lv_sub hl [0, 1, 2, 3, 6, 8, 9] rfl)
                  · skip
                    refine lv_iconst (v := (nI 1)) hx hb dX7_entry_128 (by decide) ?_
                    refine tp_i (y := (bI (wonF ed tb S0 (k0 + 1)))) (by first | (rw [wonF, if_t hb9, c_117]; rfl) | (rw [wonF, if_t hb9, decide_eq_true c_125, Bool.or_true]; rfl)) ?_
                    refine lv_goto (tgt := 133) hx hb dX7_entry_129 (by decide) ?_
                    refine lv_istore (lv' := [(5, .int (bI (wonF ed tb S0 (k0 + 1)))), (4, .int (nI (lonF ed tb S0 (k0 + 1)))), (3, .int (nI (shoF ed tb S0 (k0 + 1)))), (9, .int (nI (((tb (lft ed S0 k0)) >>> 8) &&& 15))), (8, .int (nI (((tb (lft ed S0 k0)) >>> 4) &&& 15))), (2, .int (nI (seenF ed tb S0 (k0 + 1)))), (7, .int (nI (tb (lft ed S0 k0)))), (6, .int (nI k0)), (0, .ref ma), (1, .int (nI S0))]) hx hb dX7_entry_133 hl (by decide) rfl (fun ls hl => ?_)
                    refine lv_iinc (v := (nI (k0 + 1))) (lv' := [(6, .int (nI (k0 + 1))), (5, .int (bI (wonF ed tb S0 (k0 + 1)))), (4, .int (nI (lonF ed tb S0 (k0 + 1)))), (3, .int (nI (shoF ed tb S0 (k0 + 1)))), (9, .int (nI (((tb (lft ed S0 k0)) >>> 8) &&& 15))), (8, .int (nI (((tb (lft ed S0 k0)) >>> 4) &&& 15))), (2, .int (nI (seenF ed tb S0 (k0 + 1)))), (7, .int (nI (tb (lft ed S0 k0)))), (0, .ref ma), (1, .int (nI S0))]) hx hb dX7_entry_135 hl (k := 7) rfl (nI_1 _) (by decide) rfl (fun ls hl => ?_)
                    refine lv_goto (tgt := 22) hx hb dX7_entry_138 (by decide) ?_
                    exact ih22 (k0 + 1) (by first | omega | assumption) (by omega) _ hS ls (lv_sub hl [0, 1, 2, 3, 6, 8, 9] rfl)
              · skip
                refine lv_iload hx hb dX7_entry_106 (lv_at hl 1 rfl) ?_
                refine tp_i (y := (nI (lonF ed tb S0 (k0 + 1)))) (by rw [lonF, if_t hb9, if_pos c_103]) ?_
                refine lv_goto (tgt := 113) hx hb dX7_entry_108 (by decide) ?_
                refine lv_istore (lv' := [(4, .int (nI (lonF ed tb S0 (k0 + 1)))), (3, .int (nI (shoF ed tb S0 (k0 + 1)))), (9, .int (nI (((tb (lft ed S0 k0)) >>> 8) &&& 15))), (8, .int (nI (((tb (lft ed S0 k0)) >>> 4) &&& 15))), (2, .int (nI (seenF ed tb S0 (k0 + 1)))), (7, .int (nI (tb (lft ed S0 k0)))), (6, .int (nI k0)), (5, .int (bI (wonF ed tb S0 k0))), (0, .ref ma), (1, .int (nI S0))]) hx hb dX7_entry_113 hl (by decide) rfl (fun ls hl => ?_)
                refine lv_iload hx hb dX7_entry_115 (lv_at hl 7 rfl) ?_
                refine nb_ifb_ne (tgt := 128) hx hb dX7_entry_117 (by decide) (fun c_117 => ?_) (fun c_117 => ?_)
                · skip
                  refine lv_iconst (v := (nI 1)) hx hb dX7_entry_128 (by decide) ?_
                  refine tp_i (y := (bI (wonF ed tb S0 (k0 + 1)))) (by first | (rw [wonF, if_t hb9, c_117]; rfl) | (rw [wonF, if_t hb9, decide_eq_true c_125, Bool.or_true]; rfl)) ?_
                  refine lv_goto (tgt := 133) hx hb dX7_entry_129 (by decide) ?_
                  refine lv_istore (lv' := [(5, .int (bI (wonF ed tb S0 (k0 + 1)))), (4, .int (nI (lonF ed tb S0 (k0 + 1)))), (3, .int (nI (shoF ed tb S0 (k0 + 1)))), (9, .int (nI (((tb (lft ed S0 k0)) >>> 8) &&& 15))), (8, .int (nI (((tb (lft ed S0 k0)) >>> 4) &&& 15))), (2, .int (nI (seenF ed tb S0 (k0 + 1)))), (7, .int (nI (tb (lft ed S0 k0)))), (6, .int (nI k0)), (0, .ref ma), (1, .int (nI S0))]) hx hb dX7_entry_133 hl (by decide) rfl (fun ls hl => ?_)
                  refine lv_iinc (v := (nI (k0 + 1))) (lv' := [(6, .int (nI (k0 + 1))), (5, .int (bI (wonF ed tb S0 (k0 + 1)))), (4, .int (nI (lonF ed tb S0 (k0 + 1)))), (3, .int (nI (shoF ed tb S0 (k0 + 1)))), (9, .int (nI (((tb (lft ed S0 k0)) >>> 8) &&& 15))), (8, .int (nI (((tb (lft ed S0 k0)) >>> 4) &&& 15))), (2, .int (nI (seenF ed tb S0 (k0 + 1)))), (7, .int (nI (tb (lft ed S0 k0)))), (0, .ref ma), (1, .int (nI S0))]) hx hb dX7_entry_135 hl (k := 7) rfl (nI_1 _) (by decide) rfl (fun ls hl => ?_)
                  refine lv_goto (tgt := 22) hx hb dX7_entry_138 (by decide) ?_
                  exact ih22 (k0 + 1) (by first | omega | assumption) (by omega) _ hS ls (lv_sub hl [0, 1, 2, 3, 6, 8, 9] rfl)
                · skip
                  refine lv_iload hx hb dX7_entry_120 (lv_at hl 5 rfl) ?_
                  refine lv_sipush (v := (nI 4096)) hx hb dX7_entry_122 (by decide) ?_
                  refine nb_icmp_ge (tgt := 132) hx hb (by omega) (by omega) dX7_entry_125 (by decide) (fun c_125 => ?_) (fun c_125 => ?_)
                  · skip
                    refine lv_iconst (v := (nI 0)) hx hb dX7_entry_132 (by decide) ?_
                    refine tp_i (y := (bI (wonF ed tb S0 (k0 + 1)))) (by rw [wonF, if_t hb9, c_117, decide_eq_false (Nat.not_lt.mpr c_125)]; rfl) ?_
                    refine lv_istore (lv' := [(5, .int (bI (wonF ed tb S0 (k0 + 1)))), (4, .int (nI (lonF ed tb S0 (k0 + 1)))), (3, .int (nI (shoF ed tb S0 (k0 + 1)))), (9, .int (nI (((tb (lft ed S0 k0)) >>> 8) &&& 15))), (8, .int (nI (((tb (lft ed S0 k0)) >>> 4) &&& 15))), (2, .int (nI (seenF ed tb S0 (k0 + 1)))), (7, .int (nI (tb (lft ed S0 k0)))), (6, .int (nI k0)), (0, .ref ma), (1, .int (nI S0))]) hx hb dX7_entry_133 hl (by decide) rfl (fun ls hl => ?_)
                    refine lv_iinc (v := (nI (k0 + 1))) (lv' := [(6, .int (nI (k0 + 1))), (5, .int (bI (wonF ed tb S0 (k0 + 1)))), (4, .int (nI (lonF ed tb S0 (k0 + 1)))), (3, .int (nI (shoF ed tb S0 (k0 + 1)))), (9, .int (nI (((tb (lft ed S0 k0)) >>> 8) &&& 15))), (8, .int (nI (((tb (lft ed S0 k0)) >>> 4) &&& 15))), (2, .int (nI (seenF ed tb S0 (k0 + 1)))), (7, .int (nI (tb (lft ed S0 k0)))), (0, .ref ma), (1, .int (nI S0))]) hx hb dX7_entry_135 hl (k := 7) rfl (nI_1 _) (by decide) rfl (fun ls hl => ?_)
                    refine lv_goto (tgt := 22) hx hb dX7_entry_138 (by decide) ?_
                    exact ih22 (k0 + 1) (by first | omega | assumption) (by omega) _ hS ls (lv_sub hl [0, 1, 2, 3, 6, 8, 9] rfl)
                  · skip
                    refine lv_iconst (v := (nI 1)) hx hb dX7_entry_128 (by decide) ?_
                    refine tp_i (y := (bI (wonF ed tb S0 (k0 + 1)))) (by first | (rw [wonF, if_t hb9, c_117]; rfl) | (rw [wonF, if_t hb9, decide_eq_true c_125, Bool.or_true]; rfl)) ?_
                    refine lv_goto (tgt := 133) hx hb dX7_entry_129 (by decide) ?_
                    refine lv_istore (lv' := [(5, .int (bI (wonF ed tb S0 (k0 + 1)))), (4, .int (nI (lonF ed tb S0 (k0 + 1)))), (3, .int (nI (shoF ed tb S0 (k0 + 1)))), (9, .int (nI (((tb (lft ed S0 k0)) >>> 8) &&& 15))), (8, .int (nI (((tb (lft ed S0 k0)) >>> 4) &&& 15))), (2, .int (nI (seenF ed tb S0 (k0 + 1)))), (7, .int (nI (tb (lft ed S0 k0)))), (6, .int (nI k0)), (0, .ref ma), (1, .int (nI S0))]) hx hb dX7_entry_133 hl (by decide) rfl (fun ls hl => ?_)
                    refine lv_iinc (v := (nI (k0 + 1))) (lv' := [(6, .int (nI (k0 + 1))), (5, .int (bI (wonF ed tb S0 (k0 + 1)))), (4, .int (nI (lonF ed tb S0 (k0 + 1)))), (3, .int (nI (shoF ed tb S0 (k0 + 1)))), (9, .int (nI (((tb (lft ed S0 k0)) >>> 8) &&& 15))), (8, .int (nI (((tb (lft ed S0 k0)) >>> 4) &&& 15))), (2, .int (nI (seenF ed tb S0 (k0 + 1)))), (7, .int (nI (tb (lft ed S0 k0)))), (0, .ref ma), (1, .int (nI S0))]) hx hb dX7_entry_135 hl (k := 7) rfl (nI_1 _) (by decide) rfl (fun ls hl => ?_)
                    refine lv_goto (tgt := 22) hx hb dX7_entry_138 (by decide) ?_
                    exact ih22 (k0 + 1) (by first | omega | assumption) (by omega) _ hS ls (lv_sub hl [0, 1, 2, 3, 6, 8, 9] rfl)
    exact LP22 ((ss 0 - 0) + 1) 0 (by first | omega | assumption) (Nat.lt_succ_self _) _ hS ls (lv_cast (lv_sub hl [0, 1, 2, 3, 4, 5, 6] rfl) (by rfl))
  · skip
    refine lv_sipush (v := (nI 4096)) hx hb dX7_entry_4 (by decide) ?_
    exact hret hS (by rw [entr, if_pos c_1]) dX7_entry_7
