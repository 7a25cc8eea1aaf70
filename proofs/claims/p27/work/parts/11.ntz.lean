set_option maxHeartbeats 8000000 in
set_option maxRecDepth 100000 in
theorem c_J6_numberOfTrailingZeros_0f7a4 (l : Launch) (Γ : kG) (H0 : Heap) (x : Int32) (k : Nat) (hk : k < 31) (h : (x ^^^ (-1)) &&& (x - nI 1) = nI (2 ^ k - 1)) : RO l yJ6_numberOfTrailingZeros_0f7a4 (wsq yJ6_numberOfTrailingZeros_0f7a4 cJ6_numberOfTrailingZeros_0f7a4 2 (some .int)) (rmL 1) Γ H0 [.int x] (nI k) := by
  refine ro_ofi (cc := cJ6_numberOfTrailingZeros_0f7a4) (maxL := 2) (by decide +kernel) (Nat.le_of_ble_eq_true rfl) rfl ?_
  intro p ev R st mi args below meth cd Q ls C0 hR hret hh hS hl
  obtain ⟨hx, hb, hr, hml, hown, hts, hlk, hK, hnm⟩ := C0
  have hown : st.vm.findClass RJ6 = some mi.cls := hown
  refine lv_iload_n hx hb dJ6_numberOfTrailingZeros_0f7a4_0 rfl (lv_at hl 0 rfl) ?_
  refine lv_iconst (v := (-1)) hx hb dJ6_numberOfTrailingZeros_0f7a4_1 (by decide) ?_
  refine lv_ixor hx hb dJ6_numberOfTrailingZeros_0f7a4_2 ?_
  refine lv_iload_n hx hb dJ6_numberOfTrailingZeros_0f7a4_3 rfl (lv_at hl 0 rfl) ?_
  refine lv_iconst (v := (nI 1)) hx hb dJ6_numberOfTrailingZeros_0f7a4_4 (by decide) ?_
  refine lv_isub hx hb dJ6_numberOfTrailingZeros_0f7a4_5 ?_
  refine lv_iand hx hb dJ6_numberOfTrailingZeros_0f7a4_6 ?_
  refine tp_i (y := (nI (2 ^ k - 1))) (h) ?_
  refine lv_istore_n (lv' := [(0, .int (nI (2 ^ k - 1)))]) hx hb dJ6_numberOfTrailingZeros_0f7a4_7 rfl hl (by decide) rfl (fun ls hl => ?_)
  refine lv_iload_n hx hb dJ6_numberOfTrailingZeros_0f7a4_8 rfl (lv_at hl 0 rfl) ?_
  refine nb_if_gt (tgt := 17) hx hb (p31 (by omega)) dJ6_numberOfTrailingZeros_0f7a4_9 (by decide) (fun c_9 => ?_) (fun c_9 => ?_)
  · skip
    have hk9 : 1 ≤ k := by
      rcases Nat.eq_zero_or_pos k with z9 | z9
      · rw [z9] at c_9; omega
      · exact z9
    refine lv_iconst (v := (nI 1)) hx hb dJ6_numberOfTrailingZeros_0f7a4_17 (by decide) ?_
    refine lv_istore_n (lv' := [(1, .int (nI 1)), (0, .int (nI (2 ^ k - 1)))]) hx hb dJ6_numberOfTrailingZeros_0f7a4_18 rfl hl (by decide) rfl (fun ls hl => ?_)
    refine lv_iload_n hx hb dJ6_numberOfTrailingZeros_0f7a4_19 rfl (lv_at hl 1 rfl) ?_
    have CT34 : ∀ (q : Nat) (n : Nat) (hq : q ≤ 16) (hq1 : 1 ≤ q) (hn : n + q = k + 1), ∀ (locs : List Loc), va_S (fun _ => False) H0 H0 locs → ∀ (ls : Array Slot), lv_has ls 2 [(1, .int (nI n)), (0, .int (nI (2 ^ q - 1)))] → W p l ev R st mi args below meth cd H0 locs 0 0 Q (F0 mi 34 ls []) := by
      intro q n hq hq1 hn locs hS ls hl
      have CT74 : ∀ (q : Nat) (n : Nat) (hq : q ≤ 2) (hq1 : 1 ≤ q) (hn : n + q = k + 1), ∀ (locs : List Loc), va_S (fun _ => False) H0 H0 locs → ∀ (ls : Array Slot), lv_has ls 2 [(1, .int (nI n)), (0, .int (nI (2 ^ q - 1)))] → W p l ev R st mi args below meth cd H0 locs 0 0 Q (F0 mi 74 ls []) := by
        intro q n hq hq1 hn locs hS ls hl
        refine lv_iload_n hx hb dJ6_numberOfTrailingZeros_0f7a4_74 rfl (lv_at hl 0 rfl) ?_
        refine lv_iload_n hx hb dJ6_numberOfTrailingZeros_0f7a4_75 rfl (lv_at hl 1 rfl) ?_
        refine lv_iconst (v := (nI 1)) hx hb dJ6_numberOfTrailingZeros_0f7a4_76 (by decide) ?_
        refine lv_iushr (v := (nI (q - 1))) hx hb dJ6_numberOfTrailingZeros_0f7a4_77 (p_last hq hq1) ?_
        refine lv_iadd hx hb dJ6_numberOfTrailingZeros_0f7a4_78 ?_
        refine tp_i (y := (nI (n + (q - 1)))) (nI_add _ _) ?_
        exact hret hS (by congr 1; omega) dJ6_numberOfTrailingZeros_0f7a4_79
      have CT62 : ∀ (q : Nat) (n : Nat) (hq : q ≤ 4) (hq1 : 1 ≤ q) (hn : n + q = k + 1), ∀ (locs : List Loc), va_S (fun _ => False) H0 H0 locs → ∀ (ls : Array Slot), lv_has ls 2 [(1, .int (nI n)), (0, .int (nI (2 ^ q - 1)))] → W p l ev R st mi args below meth cd H0 locs 0 0 Q (F0 mi 62 ls []) := by
        intro q n hq hq1 hn locs hS ls hl
        refine lv_iload_n hx hb dJ6_numberOfTrailingZeros_0f7a4_62 rfl (lv_at hl 1 rfl) ?_
        refine lv_iconst (v := (nI 4)) hx hb dJ6_numberOfTrailingZeros_0f7a4_63 (by decide) ?_
        refine nb_icmp_le (tgt := 74) hx hb (p31 (by omega)) (by omega) dJ6_numberOfTrailingZeros_0f7a4_64 (by decide) (fun c_64 => ?_) (fun c_64 => ?_)
        · skip
          have hk3 := p_leN (b := 2) (by decide) c_64
          exact CT74 q n (by first | omega | assumption) (by first | omega | assumption) (by first | omega | assumption) _ hS ls (lv_sub hl [0, 1] rfl)
        · skip
          have hk3 := p_gtN (b := 2) (by decide) c_64
          obtain ⟨k2, hk4⟩ : ∃ k2, q = k2 + 2 := ⟨q - 2, by omega⟩
          refine lv_iinc (v := (nI (n + 2))) (lv' := [(1, .int (nI (n + 2))), (0, .int (nI (2 ^ q - 1)))]) hx hb dJ6_numberOfTrailingZeros_0f7a4_67 hl (k := 0) rfl (iinc_N (by decide)) (by decide) rfl (fun ls hl => ?_)
          refine lv_iload_n hx hb dJ6_numberOfTrailingZeros_0f7a4_70 rfl (lv_at hl 1 rfl) ?_
          refine lv_iconst (v := (nI 2)) hx hb dJ6_numberOfTrailingZeros_0f7a4_71 (by decide) ?_
          refine lv_iushr (v := (nI (2 ^ k2 - 1))) hx hb dJ6_numberOfTrailingZeros_0f7a4_72 (by rw [hk4]; exact p_sh 2 (by omega)) ?_
          refine lv_istore_n (lv' := [(0, .int (nI (2 ^ k2 - 1))), (1, .int (nI (n + 2)))]) hx hb dJ6_numberOfTrailingZeros_0f7a4_73 rfl hl (by decide) rfl (fun ls hl => ?_)
          exact CT74 k2 (n + 2) (by first | omega | assumption) (by first | omega | assumption) (by first | omega | assumption) _ hS ls (lv_sub hl [1, 0] rfl)
      have CT49 : ∀ (q : Nat) (n : Nat) (hq : q ≤ 8) (hq1 : 1 ≤ q) (hn : n + q = k + 1), ∀ (locs : List Loc), va_S (fun _ => False) H0 H0 locs → ∀ (ls : Array Slot), lv_has ls 2 [(1, .int (nI n)), (0, .int (nI (2 ^ q - 1)))] → W p l ev R st mi args below meth cd H0 locs 0 0 Q (F0 mi 49 ls []) := by
        intro q n hq hq1 hn locs hS ls hl
        refine lv_iload_n hx hb dJ6_numberOfTrailingZeros_0f7a4_49 rfl (lv_at hl 1 rfl) ?_
        refine lv_bipush (v := (nI 16)) hx hb dJ6_numberOfTrailingZeros_0f7a4_50 (by decide) ?_
        refine nb_icmp_le (tgt := 62) hx hb (p31 (by omega)) (by omega) dJ6_numberOfTrailingZeros_0f7a4_52 (by decide) (fun c_52 => ?_) (fun c_52 => ?_)
        · skip
          have hk3 := p_leN (b := 4) (by decide) c_52
          exact CT62 q n (by first | omega | assumption) (by first | omega | assumption) (by first | omega | assumption) _ hS ls (lv_sub hl [0, 1] rfl)
        · skip
          have hk3 := p_gtN (b := 4) (by decide) c_52
          obtain ⟨k2, hk4⟩ : ∃ k2, q = k2 + 4 := ⟨q - 4, by omega⟩
          refine lv_iinc (v := (nI (n + 4))) (lv' := [(1, .int (nI (n + 4))), (0, .int (nI (2 ^ q - 1)))]) hx hb dJ6_numberOfTrailingZeros_0f7a4_55 hl (k := 0) rfl (iinc_N (by decide)) (by decide) rfl (fun ls hl => ?_)
          refine lv_iload_n hx hb dJ6_numberOfTrailingZeros_0f7a4_58 rfl (lv_at hl 1 rfl) ?_
          refine lv_iconst (v := (nI 4)) hx hb dJ6_numberOfTrailingZeros_0f7a4_59 (by decide) ?_
          refine lv_iushr (v := (nI (2 ^ k2 - 1))) hx hb dJ6_numberOfTrailingZeros_0f7a4_60 (by rw [hk4]; exact p_sh 4 (by omega)) ?_
          refine lv_istore_n (lv' := [(0, .int (nI (2 ^ k2 - 1))), (1, .int (nI (n + 4)))]) hx hb dJ6_numberOfTrailingZeros_0f7a4_61 rfl hl (by decide) rfl (fun ls hl => ?_)
          exact CT62 k2 (n + 4) (by first | omega | assumption) (by first | omega | assumption) (by first | omega | assumption) _ hS ls (lv_sub hl [1, 0] rfl)
      refine lv_iload_n hx hb dJ6_numberOfTrailingZeros_0f7a4_34 rfl (lv_at hl 1 rfl) ?_
      refine lv_sipush (v := (nI 256)) hx hb dJ6_numberOfTrailingZeros_0f7a4_35 (by decide) ?_
      refine nb_icmp_le (tgt := 49) hx hb (p31 (by omega)) (by omega) dJ6_numberOfTrailingZeros_0f7a4_38 (by decide) (fun c_38 => ?_) (fun c_38 => ?_)
      · skip
        have hk3 := p_leN (b := 8) (by decide) c_38
        exact CT49 q n (by first | omega | assumption) (by first | omega | assumption) (by first | omega | assumption) _ hS ls (lv_sub hl [0, 1] rfl)
      · skip
        have hk3 := p_gtN (b := 8) (by decide) c_38
        obtain ⟨k2, hk4⟩ : ∃ k2, q = k2 + 8 := ⟨q - 8, by omega⟩
        refine lv_iinc (v := (nI (n + 8))) (lv' := [(1, .int (nI (n + 8))), (0, .int (nI (2 ^ q - 1)))]) hx hb dJ6_numberOfTrailingZeros_0f7a4_41 hl (k := 0) rfl (iinc_N (by decide)) (by decide) rfl (fun ls hl => ?_)
        refine lv_iload_n hx hb dJ6_numberOfTrailingZeros_0f7a4_44 rfl (lv_at hl 1 rfl) ?_
        refine lv_bipush (v := (nI 8)) hx hb dJ6_numberOfTrailingZeros_0f7a4_45 (by decide) ?_
        refine lv_iushr (v := (nI (2 ^ k2 - 1))) hx hb dJ6_numberOfTrailingZeros_0f7a4_47 (by rw [hk4]; exact p_sh 8 (by omega)) ?_
        refine lv_istore_n (lv' := [(0, .int (nI (2 ^ k2 - 1))), (1, .int (nI (n + 8)))]) hx hb dJ6_numberOfTrailingZeros_0f7a4_48 rfl hl (by decide) rfl (fun ls hl => ?_)
        exact CT49 k2 (n + 8) (by first | omega | assumption) (by first | omega | assumption) (by first | omega | assumption) _ hS ls (lv_sub hl [1, 0] rfl)
    refine lv_ldcw (v := 65536) hx hb hown (hts _ mw_72) dJ6_numberOfTrailingZeros_0f7a4_20 ?_
    refine tp_i (y := nI 65536) (by decide +kernel) ?_
    refine nb_icmp_le (tgt := 34) hx hb (p31 (by omega)) (by omega) dJ6_numberOfTrailingZeros_0f7a4_23 (by decide) (fun c_23 => ?_) (fun c_23 => ?_)
    · skip
      have hk2 := p_leN (b := 16) (by decide) c_23
      exact CT34 k 1 (by first | omega | assumption) (by first | omega | assumption) (by first | omega | assumption) _ hS ls (lv_sub hl [0, 1] rfl)
    · skip
      have hk2 := p_gtN (b := 16) (by decide) c_23
      obtain ⟨k1, hk1⟩ : ∃ k1, k = k1 + 16 := ⟨k - 16, by omega⟩
      refine lv_iinc (v := (nI 17)) (lv' := [(1, .int (nI 17)), (0, .int (nI (2 ^ k - 1)))]) hx hb dJ6_numberOfTrailingZeros_0f7a4_26 hl (k := 0) rfl (by decide) (by decide) rfl (fun ls hl => ?_)
      refine lv_iload_n hx hb dJ6_numberOfTrailingZeros_0f7a4_29 rfl (lv_at hl 1 rfl) ?_
      refine lv_bipush (v := (nI 16)) hx hb dJ6_numberOfTrailingZeros_0f7a4_30 (by decide) ?_
      refine lv_iushr (v := (nI (2 ^ k1 - 1))) hx hb dJ6_numberOfTrailingZeros_0f7a4_32 (by rw [hk1]; exact p_sh 16 (by omega)) ?_
      refine lv_istore_n (lv' := [(0, .int (nI (2 ^ k1 - 1))), (1, .int (nI 17))]) hx hb dJ6_numberOfTrailingZeros_0f7a4_33 rfl hl (by decide) rfl (fun ls hl => ?_)
      exact CT34 k1 17 (by first | omega | assumption) (by first | omega | assumption) (by first | omega | assumption) _ hS ls (lv_sub hl [1, 0] rfl)
  · skip
    have hk0 : k = 0 := p_0 c_9
    refine lv_iload_n hx hb dJ6_numberOfTrailingZeros_0f7a4_12 rfl (lv_at hl 0 rfl) ?_
    refine lv_bipush (v := (nI 32)) hx hb dJ6_numberOfTrailingZeros_0f7a4_13 (by decide) ?_
    refine lv_iand hx hb dJ6_numberOfTrailingZeros_0f7a4_15 ?_
    refine tp_i (y := (nI ((2 ^ k - 1) &&& 32))) (ni_and _ _) ?_
    exact hret hS (by subst hk0; decide +kernel) dJ6_numberOfTrailingZeros_0f7a4_16
