/-! what the operations' cases want -/
theorem rg_ex {x : Int32} {a n : Nat} (hn : n < 2147483648) (ha : a ≤ n) (h : nI a ≤ x ∧ x ≤ nI n) : ∃ k, a ≤ k ∧ k ≤ n ∧ x = nI k := by
  obtain ⟨h1, h2⟩ := h
  rw [Int32.le_iff_toInt_le, nI_toInt hn] at h2
  rw [Int32.le_iff_toInt_le, nI_toInt (by omega)] at h1
  refine ⟨x.toInt.toNat, by omega, by omega, ?_⟩
  apply Int32.toInt_inj.mp
  rw [nI_toInt (by omega)]
  omega
theorem neg_ex {x : Int32} (h : ¬ x < 0) : ∃ k, k < 2147483648 ∧ x = nI k := by
  rw [Int32.lt_iff_toInt_lt, Int32.toInt_zero] at h
  have h2 := Int32.toInt_lt x
  refine ⟨x.toInt.toNat, by omega, ?_⟩
  apply Int32.toInt_inj.mp
  rw [nI_toInt (by omega)]
  omega
theorem isN_neg {n : Nat} {x : Int32} (h : x < 0) : isN n x = false := by
  rw [Int32.lt_iff_toInt_lt, Int32.toInt_zero] at h
  rw [isN, decide_eq_false_iff_not]
  omega
theorem isN_ge {n k : Nat} (hk : k < 2147483648) (h : n ≤ k) : isN n (nI k) = false := by
  rw [isN, decide_eq_false_iff_not, nI_toInt hk]
  omega
theorem nI_0_of {a : Nat} (ha : a < 4294967296) (h : nI a = 0) : a = 0 := by
  have h1 : BitVec.ofNat 32 a = BitVec.ofNat 32 0 := by
    have h2 := congrArg Int32.toBitVec h
    rw [bv_nI] at h2
    exact h2
  have h3 := congrArg BitVec.toNat h1
  rw [BitVec.toNat_ofNat, BitVec.toNat_ofNat, Nat.mod_eq_of_lt (show a < 2 ^ 32 from ha)] at h3
  exact h3
theorem bv_ex (x : Int32) : ∃ k, k < 4294967296 ∧ x = nI k := by
  refine ⟨x.toBitVec.toNat, x.toBitVec.isLt, nI_bv ?_⟩
  rw [bv_nI, BitVec.ofNat_toNat, BitVec.setWidth_eq]
theorem msk_ex {x : Int32} {th n : Nat} (_ : n ≤ 14) (hth : th < 2 ^ n) (h : x &&& (nI th ^^^ (-1)) = 0) : ∃ m0, x = nI m0 ∧ sd m0 th = 0 ∧ m0 < 2 ^ n := by
  obtain ⟨k, hk, rfl⟩ := bv_ex x
  rw [ni_sd] at h
  have h0 := nI_0_of (sd_lt (k := 32) th hk) h
  refine ⟨k, rfl, h0, lt_of_bits (fun i hi => ?_)⟩
  have hb := congrArg (fun z => Nat.testBit z i) h0
  have hb : Nat.testBit (sd k th) i = Nat.testBit 0 i := hb
  rw [sd_bit, bit_of_lt hth hi, Nat.zero_testBit] at hb
  rw [← hb]
  cases k.testBit i <;> rfl
theorem svS_6 {hs : Nat} : svS hs + 1 ≤ 6 := by rw [svS]; split <;> omega
theorem IL_c {ss ss2 tb : Nat → Nat} {il : Bool} (hil : il = true → tbOk (gS ss) tb (2 ^ ss 0)) (h : eqG (gS ss) (gS ss2)) (h0 : ss2 0 = ss 0) : il = true → tbOk (gS ss2) tb (2 ^ ss2 0) := fun q => by
  rw [h0]; exact tbOk_g h (hil q)
theorem TK_e {ss : Nat → Nat} {sn v : Nat} (hsn : sn ≤ 6) : eqG (gS ss) (gS (tkS (svM ss sn) v)) := fun i hi => by
  rw [gS, gS, tkS_hi (by omega), svM_lo hsn (by omega)]
theorem TK_0 {ss : Nat → Nat} {sn v : Nat} (hsn : sn ≤ 6) : tkS (svM ss sn) v 0 = ss 0 := by
  rw [tkS, upN_n _ _ (by omega), upN_n _ _ (by omega), upN_n _ _ (by omega), svM_lo hsn (by omega)]
theorem BG_e {ss : Nat → Nat} {sn : Nat} (hsn : sn ≤ 6) : eqG (gS ss) (gS (bgS (svM ss sn))) := fun i hi => by
  rw [gS, gS, bgS_hi (by omega), svM_lo hsn (by omega)]
theorem BG_0 {ss : Nat → Nat} {sn : Nat} (hsn : sn ≤ 6) : bgS (svM ss sn) 0 = ss 0 := by rw [bgS_0, svM_lo hsn (by omega)]
theorem GSV {g ss : Nat → Nat} {sn : Nat} (hsn : sn ≤ 6) (h : eqG g (gS ss)) : eqG g (gS (svM ss sn)) := fun i hi => (h i hi).trans (gS_sv hsn hi).symm
theorem laS_c {g r : Nat → Nat} (h : eqG g r) (b : Bool) (W : Nat) : laS b g W = laS b r W := by rw [laS, laS, Sh_g h, Lo_g h]
theorem os_c {g r : Nat → Nat} (h : eqG g r) {W n : Nat} (hn : n ≤ 14) (_ : W < 2 ^ n) : Op.cmpValue (FP.dcmp (shD (cnt (wnP g W) n) (pc W)) (shX r W n)) .l = 0 := by
  rw [← share_c h hn]
  have h1 := pc_le W
  exact (sh_fin (pc W) (by omega) _ (cnt_pc hn)).2
theorem wrt_c {g r : Nat → Nat} (h : eqG g r) : ∀ n, n ≤ 14 → wrt g n = wrt r n
  | 0, _ => rfl
  | n + 1, hn => by rw [wrt, wrt, wrt_c h n (by omega), h n (by omega)]
theorem lsr_c {g r : Nat → Nat} (h : eqG g r) {i : Nat} (hi : i < 14) : lsr g i = lsr r i := by rw [lsr, lsr, h i hi]
theorem wrS_c {g r : Nat → Nat} (h : eqG g r) (tx : Nat → Nat) {n : Nat} (hn : n ≤ 14) : wrS g tx n = wrS r tx n := by
  funext i
  rw [wrS, wrS]
  by_cases e : i < n
  · rw [if_pos e, if_pos e, lsr_c h (by omega)]
  · rw [if_neg e, if_neg e]
theorem wrS_128 {g tx : Nat → Nat} {n : Nat} (hg : ∀ i, i < 14 → g i < 16384) (htx : ∀ i, i < 14 → tx i < 128) (_ : n ≤ 14) : ∀ i, i < 14 → wrS g tx n i < 128 := fun i hi => by
  rw [wrS]
  by_cases e : i < n
  · rw [if_pos e]
    cases hl : lsr g i with
    | none => show (46 : Nat) < 128; decide
    | some k =>
      have hk := lsr_lt hg hi k hl
      show 97 + k < 128
      omega
  · rw [if_neg e]; exact htx i hi
theorem upN_128 {tx : Nat → Nat} {k c : Nat} (htx : ∀ i, i < 14 → tx i < 128) (hc : c ≤ 126) : ∀ i, i < 14 → upN tx k c i < 128 := fun i hi => by
  by_cases e : i = k
  · subst e; rw [upN_s]; omega
  · rw [upN_n _ _ e]; exact htx i hi
theorem upN_1 {kp : Nat → Nat} {k : Nat} (h : ∀ i, kp i ≤ 1) : ∀ i, upN kp k 1 i ≤ 1 := fun i => by
  by_cases e : i = k
  · subst e; rw [upN_s]; omega
  · rw [upN_n _ _ e]; exact h i
def LI (n0 : Nat) (th0 : Nat) (mv0 : Nat) (g : Nat → Nat) (ho0 : Nat) (hs0 : Nat) (fn : Nat → Nat) (ft : Nat → Nat) (fm : Nat → Nat) (fg : Nat → Nat → Nat) (sz0 : Nat) (tx : Nat → Nat) (og : Nat → Nat) (ff : Nat → Nat) (pg : Nat → Nat) (pf : Nat → Nat) (sn : Nat → Nat) (sh : Nat → Nat) (sm9 : Nat → Nat) (sG : Nat → Nat → Nat) (kp : Nat → Nat) (sn0 : Nat) (ty0 : Nat) (il0 : Bool) (ss : Nat → Nat) (ty : Nat → Nat) (tb : Nat → Nat) : Prop := RX n0 th0 mv0 g ss 0 ∧ hs0 = sn0 ∧ ho0 < 6 ∧ hs0 ≤ 6 ∧ RR ho0 hs0 fn ft fm fg sn sh sm9 sG kp ss ∧ sz0 = ty0 ∧ sz0 ≤ 14 ∧ tx = ty ∧ (∀ i, i < 14 → tx i < 128) ∧ (okF og ff ∧ ∀ i, i < 14 → og i < 16384) ∧ (okF pg pf ∧ ∀ i, i < 14 → pg i < 16384) ∧ tbLt tb ∧ (il0 = true → tbOk (gS ss) tb (2 ^ ss 0)) ∧ (∀ i, kp i ≤ 1)
theorem LI_mk {n0 : Nat} {th0 : Nat} {mv0 : Nat} {g : Nat → Nat} {ho0 : Nat} {hs0 : Nat} {fn : Nat → Nat} {ft : Nat → Nat} {fm : Nat → Nat} {fg : Nat → Nat → Nat} {sz0 : Nat} {tx : Nat → Nat} {og : Nat → Nat} {ff : Nat → Nat} {pg : Nat → Nat} {pf : Nat → Nat} {sn : Nat → Nat} {sh : Nat → Nat} {sm9 : Nat → Nat} {sG : Nat → Nat → Nat} {kp : Nat → Nat} {sn0 : Nat} {ty0 : Nat} {il0 : Bool} {ss : Nat → Nat} {ty : Nat → Nat} {tb : Nat → Nat} (a0 : RX n0 th0 mv0 g ss 0) (a1 : hs0 = sn0) (a2 : ho0 < 6) (a3 : hs0 ≤ 6) (a4 : RR ho0 hs0 fn ft fm fg sn sh sm9 sG kp ss) (a5 : sz0 = ty0) (a6 : sz0 ≤ 14) (a7 : tx = ty) (a8 : ∀ i, i < 14 → tx i < 128) (a9 : okF og ff ∧ ∀ i, i < 14 → og i < 16384) (a10 : okF pg pf ∧ ∀ i, i < 14 → pg i < 16384) (a11 : tbLt tb) (a12 : il0 = true → tbOk (gS ss) tb (2 ^ ss 0)) (a13 : ∀ i, kp i ≤ 1) : (LI n0 th0 mv0 g ho0 hs0 fn ft fm fg sz0 tx og ff pg pf sn sh sm9 sG kp sn0 ty0 il0 ss ty tb) := ⟨a0, a1, a2, a3, a4, a5, a6, a7, a8, a9, a10, a11, a12, a13⟩
def KGO (p : Program) (l : Launch) (ev : Env) (st : State) (mi : MethodId) (args : Array Value) (below : List Frame) (meth : Method) (cd : Code) (Q : State → Prop) (A : Nat → Prop) (Γ : kG) (zb ix : Nat) (xa : Nat) (xs : Nat) (xk : Nat) (ha : Nat) (ta : Nat) (sa : Nat) (oa : Nat) (pa : Nat) (ja : Nat) (fa : Nat) (a : Nat) (e : Nat) (hro : Nat) (tc : Nat) (sc : Nat) (oz : Nat) (oe : Nat) (oq : Nat) (pz : Nat) (pe : Nat) (pq : Nat) (je : Nat) (rf : Nat → Nat) (rg : Nat → Nat) (re : Nat → Nat) (sf : Nat → Nat) (sg : Nat → Nat) (se : Nat → Nat) (ma : Nat) (ms : Nat) (mk : Nat) (mt : Nat) (mb : Nat) (me : Nat) (mr : Nat) (mq : Nat) (mp : Nat) (mw : Nat) (mc : Nat) (ou : Nat) (cn sl pc : Nat) : Prop := ∀ {n0 : Nat} {th0 : Nat} {mv0 : Nat} {g : Nat → Nat} {ho0 : Nat} {hs0 : Nat} {fn : Nat → Nat} {ft : Nat → Nat} {fm : Nat → Nat} {fg : Nat → Nat → Nat} {sz0 : Nat} {tx : Nat → Nat} {cf : Nat → Nat} {og : Nat → Nat} {ff : Nat → Nat} {pg : Nat → Nat} {pf : Nat → Nat} {jg : Nat → Nat} {sn : Nat → Nat} {sh : Nat → Nat} {sm9 : Nat → Nat} {sG : Nat → Nat → Nat} {kp : Nat → Nat} {sn0 : Nat} {tw0 : Nat} {ty0 : Nat} {il0 : Bool} {my0 : Nat} {ss : Nat → Nat} {ty : Nat → Nat} {tb : Nat → Nat} {ed : Nat → Nat} {tr : Nat → Nat} {qu : Nat → Nat} {pj : Nat → Int32} {wj : Nat → Int32} {cj : Nat → Int64} {ov : Nat → Int64} (H : Heap) (locs : List Loc) (ls : Array Slot), va_P Γ.1 vwCl (LWD Γ xa xs xk ha ta sa oa pa ja fa a e hro tc sc oz oe oq pz pe pq je rf rg re sf sg se ma ms mk mt mb me mr mq mp mw mc ou n0 th0 mv0 g ho0 hs0 fn ft fm fg sz0 tx cf og ff pg pf jg sn sh sm9 sG kp sn0 tw0 ty0 il0 my0 ss ty tb ed tr qu pj wj cj ov) H → va_D A (LWD Γ xa xs xk ha ta sa oa pa ja fa a e hro tc sc oz oe oq pz pe pq je rf rg re sf sg se ma ms mk mt mb me mr mq mp mw mc ou n0 th0 mv0 g ho0 hs0 fn ft fm fg sz0 tx cf og ff pg pf jg sn sh sm9 sG kp sn0 tw0 ty0 il0 my0 ss ty tb ed tr qu pj wj cj ov) → va_S A st.heap H locs → lv_has ls 9 [(4, .int (nI ix)), (3, .ref ou), (2, .ref ma), (1, .ref xa), (0, .ref zb)] → (LI n0 th0 mv0 g ho0 hs0 fn ft fm fg sz0 tx og ff pg pf sn sh sm9 sG kp sn0 ty0 il0 ss ty tb) → W p l ev room_1 st mi args below meth cd H locs cn sl Q (F0 mi pc ls [])
