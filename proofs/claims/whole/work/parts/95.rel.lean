/-! the class's states beside the model's rows -/
def RX (n th mv : Nat) (g ss : Nat → Nat) (b : Nat) : Prop :=
  (n = ss (18 * b) ∧ th = ss (18 * b + 1) ∧ mv = ss (18 * b + 3) ∧ ss (18 * b + 2) = ss (18 * b + 3) % 2 ∧ ∀ i, i < 14 → g i = ss (18 * b + 4 + i)) ∧ FG g ∧ n ≤ 14 ∧ th < 2 ^ n ∧ ∀ i, i < 14 → g i < 2 ^ n
def R0 (n th mv : Nat) (g ss : Nat → Nat) : Prop :=
  (n = ss 0 ∧ th = ss 1 ∧ mv = ss 3 ∧ ss 2 = ss 3 % 2 ∧ eqG g (gS ss)) ∧ FG g ∧ n ≤ 14 ∧ th < 2 ^ n ∧ ∀ i, i < 14 → g i < 2 ^ n
theorem RX_0 {n th mv : Nat} {g ss : Nat → Nat} (h : RX n th mv g ss 0) : R0 n th mv g ss :=
  ⟨⟨h.1.1, h.1.2.1, h.1.2.2.1, h.1.2.2.2.1, fun i hi => (h.1.2.2.2.2 i hi).trans (congrArg ss (by omega))⟩, h.2⟩
theorem RX_of {n th mv : Nat} {g ss : Nat → Nat} (h : R0 n th mv g ss) : RX n th mv g ss 0 :=
  ⟨⟨h.1.1, h.1.2.1, h.1.2.2.1, h.1.2.2.2.1, fun i hi => (h.1.2.2.2.2 i hi).trans (congrArg ss (by omega))⟩, h.2⟩
theorem RX_mv {n th mv : Nat} {g ss ss2 : Nat → Nat} {b b2 : Nat} (h : RX n th mv g ss b) (e : ∀ i, i < 18 → ss2 (18 * b2 + i) = ss (18 * b + i)) : RX n th mv g ss2 b2 := by
  obtain ⟨⟨h1, h2, h3, h4, h5⟩, h6⟩ := h
  refine ⟨⟨?_, ?_, ?_, ?_, fun i hi => ?_⟩, h6⟩
  · exact h1.trans (e 0 (by omega)).symm
  · exact h2.trans (e 1 (by omega)).symm
  · exact h3.trans (e 3 (by omega)).symm
  · rw [e 2 (by omega), e 3 (by omega)]; exact h4
  · rw [h5 i hi, Nat.add_assoc, Nat.add_assoc, e (4 + i) (by omega)]
def RR (ho hs : Nat) (fn ft fm : Nat → Nat) (fg : Nat → Nat → Nat) (sn sh sm : Nat → Nat) (sG : Nat → Nat → Nat) (kp ss : Nat → Nat) : Prop :=
  (∀ q, q < hs → RX (fn ((ho + q) % 6)) (ft ((ho + q) % 6)) (fm ((ho + q) % 6)) (fg ((ho + q) % 6)) ss (q + 1)) ∧ ∀ k, k < 2 → kp k = 1 → RX (sn k) (sh k) (sm k) (sG k) ss (7 + k)
theorem shB_at (ss : Nat → Nat) : ∀ k i, shB ss k i = if 18 ≤ i ∧ i < 18 * (k + 1) then ss (i + 18) else ss i
  | 0, i => by rw [shB, if_neg (by omega)]
  | k + 1, i => by
    rw [shB, cpB]
    by_cases h : 18 * (k + 1) ≤ i ∧ i < 18 * (k + 1) + 18
    · rw [if_pos h, shB_at ss k, if_neg (by omega), if_pos (by omega)]
      exact congrArg ss (by omega)
    · rw [if_neg h, shB_at ss k]
      by_cases h2 : 18 ≤ i ∧ i < 18 * (k + 1)
      · rw [if_pos h2, if_pos (by omega)]
      · rw [if_neg h2, if_neg (by omega)]
theorem svM_new {ss : Nat → Nat} {n i : Nat} (hn : n ≤ 6) (hi : i < 18) : svM ss n (18 * svN n + i) = ss (18 * 0 + i) := by
  rw [svM, svN]
  by_cases e : n = 6
  · rw [if_pos e, if_pos e, cpB, if_pos (by omega), shB_at, if_neg (by omega)]
    exact congrArg ss (by omega)
  · rw [if_neg e, if_neg e, cpB, if_pos (by omega)]
    exact congrArg ss (by omega)
theorem svM_old {ss : Nat → Nat} {q i : Nat} (hq : q < 5) (hi : i < 18) : svM ss 6 (18 * (q + 1) + i) = ss (18 * (q + 1 + 1) + i) := by
  rw [svM, if_pos rfl, cpB, if_neg (by omega), shB_at, if_pos (by omega)]
  exact congrArg ss (by omega)
theorem svM_keep {ss : Nat → Nat} {n q i : Nat} (hn : n < 6) (hq : q < n) (hi : i < 18) : svM ss n (18 * (q + 1) + i) = ss (18 * (q + 1) + i) := by
  rw [svM, if_neg (by omega), cpB, if_neg (by omega)]
theorem svN_eq {n : Nat} (hn : n ≤ 6) : svS n + 1 = svN n := by
  rw [svS, svN]
  by_cases e : n = 6
  · rw [if_pos (by omega), if_pos e]
  · rw [if_neg (by omega), if_neg e]
theorem upG_s {α : Type} (f : Nat → α) (k : Nat) (v : α) {i : Nat} (h : i = k) : upG f k v i = v := by rw [upG, if_pos h]
theorem upG_n {α : Type} (f : Nat → α) {k i : Nat} (v : α) (h : i ≠ k) : upG f k v i = f i := by rw [upG, if_neg h]
theorem RR_c {ho hs : Nat} {fn ft fm : Nat → Nat} {fg : Nat → Nat → Nat} {sn sh sm : Nat → Nat} {sG : Nat → Nat → Nat} {kp ss ss2 : Nat → Nat} (h : RR ho hs fn ft fm fg sn sh sm sG kp ss) (e : ∀ i, 18 ≤ i → ss2 i = ss i) : RR ho hs fn ft fm fg sn sh sm sG kp ss2 :=
  ⟨fun q hq => RX_mv (h.1 q hq) (fun i _ => e _ (by omega)), fun k hk h1 => RX_mv (h.2 k hk h1) (fun i _ => e _ (by omega))⟩
theorem RR_sv {ho hs n th mv : Nat} {g : Nat → Nat} {fn ft fm : Nat → Nat} {fg : Nat → Nat → Nat} {sn sh sm : Nat → Nat} {sG : Nat → Nat → Nat} {kp ss : Nat → Nat} (hho : ho < 6) (hhs : hs ≤ 6) (h0 : RX n th mv g ss 0) (h : RR ho hs fn ft fm fg sn sh sm sG kp ss) : RR (svO ho hs) (svS hs + 1) (upG fn ((svO ho hs + svS hs) % 6) n) (upG ft ((svO ho hs + svS hs) % 6) th) (upG fm ((svO ho hs + svS hs) % 6) mv) (upG fg ((svO ho hs + svS hs) % 6) g) sn sh sm sG kp (svM ss hs) := by
  refine ⟨fun q hq => ?_, fun k hk h1 => RX_mv (h.2 k hk h1) (fun i _ => svM_out hhs (Or.inr (by omega)))⟩
  by_cases e : hs = 6
  · subst e
    have hO : svO ho 6 = (ho + 1) % 6 := by rw [svO, if_pos (Nat.le_refl _)]
    have hS : svS 6 = 5 := by rw [svS, if_pos (Nat.le_refl _)]
    rw [hS] at hq
    rw [hO, hS]
    by_cases e2 : q = 5
    · subst e2
      rw [upG_s fn _ _ rfl, upG_s ft _ _ rfl, upG_s fm _ _ rfl, upG_s fg _ _ rfl]
      exact RX_mv h0 (fun i hi => svM_new (n := 6) (by omega) hi)
    · have hne : ((ho + 1) % 6 + q) % 6 ≠ ((ho + 1) % 6 + 5) % 6 := by omega
      rw [upG_n fn _ hne, upG_n ft _ hne, upG_n fm _ hne, upG_n fg _ hne]
      have h2 := h.1 (q + 1) (by omega)
      rw [show (ho + (q + 1)) % 6 = ((ho + 1) % 6 + q) % 6 by omega] at h2
      exact RX_mv h2 (fun i hi => svM_old (by omega) hi)
  · have hO : svO ho hs = ho := by rw [svO, if_neg (by omega)]
    have hS : svS hs = hs := by rw [svS, if_neg (by omega)]
    have hN : svN hs = hs + 1 := by rw [svN, if_neg e]
    rw [hS] at hq
    rw [hO, hS]
    by_cases e2 : q = hs
    · subst e2
      rw [upG_s fn _ _ rfl, upG_s ft _ _ rfl, upG_s fm _ _ rfl, upG_s fg _ _ rfl]
      rw [← hN]
      exact RX_mv h0 (fun i hi => svM_new hhs hi)
    · have hne : (ho + q) % 6 ≠ (ho + hs) % 6 := by omega
      rw [upG_n fn _ hne, upG_n ft _ hne, upG_n fm _ hne, upG_n fg _ hne]
      exact RX_mv (h.1 q (by omega)) (fun i hi => svM_keep (by omega) (by omega) hi)
theorem RR_un {ho hs : Nat} {fn ft fm : Nat → Nat} {fg : Nat → Nat → Nat} {sn sh sm : Nat → Nat} {sG : Nat → Nat → Nat} {kp ss : Nat → Nat} (hpos : 0 < hs) (h : RR ho hs fn ft fm fg sn sh sm sG kp ss) : RX (fn ((ho + (hs - 1)) % 6)) (ft ((ho + (hs - 1)) % 6)) (fm ((ho + (hs - 1)) % 6)) (fg ((ho + (hs - 1)) % 6)) (cpB ss hs 0 18) 0 ∧ RR ho (hs - 1) fn ft fm fg sn sh sm sG kp (cpB ss hs 0 18) := by
  have h1 := h.1 (hs - 1) (by omega)
  rw [show hs - 1 + 1 = hs by omega] at h1
  refine ⟨RX_mv h1 (fun i hi => ?_), RR_c ⟨fun q hq => h.1 q (by omega), h.2⟩ (fun i hi => ?_)⟩
  · rw [cpB, if_pos (by omega)]
    exact congrArg ss (by omega)
  · rw [cpB, if_neg (by omega)]
theorem RR_kp {ho hs n th mv s0 : Nat} {g : Nat → Nat} {fn ft fm : Nat → Nat} {fg : Nat → Nat → Nat} {sn sh sm : Nat → Nat} {sG : Nat → Nat → Nat} {kp ss : Nat → Nat} (hhs : hs ≤ 6) (hs0 : s0 < 2) (h0 : RX n th mv g ss 0) (h : RR ho hs fn ft fm fg sn sh sm sG kp ss) : RX n th mv g (cpB ss 0 (7 + s0) 18) 0 ∧ RR ho hs fn ft fm fg (upG sn s0 n) (upG sh s0 th) (upG sm s0 mv) (upG sG s0 g) (upN kp s0 1) (cpB ss 0 (7 + s0) 18) := by
  refine ⟨RX_mv h0 (fun i hi => by rw [cpB, if_neg (by omega)]), fun q hq => RX_mv (h.1 q hq) (fun i hi => by rw [cpB, if_neg (by omega)]), fun k hk h1 => ?_⟩
  by_cases e : k = s0
  · rw [upG_s sn _ _ e, upG_s sh _ _ e, upG_s sm _ _ e, upG_s sG _ _ e]
    refine RX_mv h0 (fun i hi => ?_)
    rw [cpB, if_pos (by omega)]
    exact congrArg ss (by omega)
  · rw [upG_n sn _ e, upG_n sh _ e, upG_n sm _ e, upG_n sG _ e]
    rw [upN_n _ _ e] at h1
    exact RX_mv (h.2 k hk h1) (fun i hi => by rw [cpB, if_neg (by omega)])
theorem RX_gb {n th mv s0 sn0 : Nat} {g ss : Nat → Nat} (hsn : sn0 ≤ 6) (h : RX n th mv g ss (7 + s0)) : RX n th mv g (cpB (svM ss sn0) (7 + s0) 0 18) 0 :=
  RX_mv h (fun i hi => by
    rw [cpB, if_pos (by omega), svM_out hsn (Or.inr (by omega))]
    exact congrArg ss (by omega))
theorem cpB_hi {ss : Nat → Nat} {b i : Nat} (h : 18 ≤ i) : cpB ss b 0 18 i = ss i := by rw [cpB, if_neg (by omega)]
/-! what edges there are -/
theorem NB_0 {g : Nat → Nat} {n k : Nat} (hfg : FG g) (hnb : ∀ i, i < 14 → g i < 2 ^ n) (hk : n ≤ k) (h14 : k < 14) : g k = 0 :=
  eq0_of_bits (hfg.1 k h14) (fun j hj => by rw [hfg.2.1 k h14 j hj]; exact bit_of_lt (hnb j hj) hk)
theorem NB_lk {g : Nat → Nat} {n i j : Nat} {b : Bool} (hnb : ∀ i, i < 14 → g i < 2 ^ n) (hi : i < n) (hj : j < n) (hne : i ≠ j) : ∀ k, k < 14 → lk2 g i j b k < 2 ^ n := fun k hk => lt_of_bits (fun m hm => by
  rw [lk2_bit hne, if_neg (by omega)]
  exact bit_of_lt (hnb k hk) hm)
theorem NB_up {g : Nat → Nat} {n m : Nat} (hnb : ∀ i, i < 14 → g i < 2 ^ n) (h : n ≤ m) : ∀ k, k < 14 → g k < 2 ^ m := fun k hk => Nat.lt_of_lt_of_le (hnb k hk) (Nat.pow_le_pow_right (by omega) h)
theorem cj_rch {g : Nat → Nat} {W n i j : Nat} (hnb : ∀ i, i < 14 → g i < 2 ^ n) (hn : n ≤ 14) (hi : i < n) (hj : j < n) (h : cjB g W n i j = true) : ¬ rch g 16383 i j := fun hr => by
  have h1 : j < 14 ∧ rch g (2 ^ n - 1) i j := rch_ind (fun x => x < 14 ∧ rch g (2 ^ n - 1) i x) (by decide) (by omega) ⟨by omega, rch_self _ _ _⟩ (fun a b ha hb hw => by
    refine ⟨bit_in (by decide) hw, rch_step ha.2 hb ?_⟩
    rw [full_bit]
    refine decide_eq_true ?_
    rcases Nat.lt_or_ge b n with q | q
    · exact q
    · rw [bit_of_lt (hnb a ha.1) q] at hb; cases hb) hr
  rw [cjB, Bool.and_eq_true, (comp_bit _ _ _ _).mpr h1] at h
  exact absurd h.2 (by decide)
theorem ldG_FG {tx : Nat → Nat} {n : Nat} (hn : n ≤ 14) (hw : ∀ k, k < n → wrg tx k = false) : ∀ k, k ≤ n → FG (ldG tx k) ∧ ∀ i, i < 14 → ldG tx k i < 2 ^ k
  | 0, _ => ⟨FG_0, fun i _ => Nat.zero_lt_one⟩
  | k + 1, hk => by
    obtain ⟨a, b⟩ := ldG_FG hn hw k (by omega)
    rw [ldG]
    by_cases e : tx k = 46
    · rw [if_pos e]
      exact ⟨a, NB_up b (by omega)⟩
    · rw [if_neg e]
      obtain ⟨z1, z2⟩ := wrg_ok (hw k (by omega)) e
      have hl := lone_no (n := k) (by omega) (NB_0 a b (Nat.le_refl _) (by omega)) (show tx k - 97 ≠ k by omega)
      exact ⟨FG_add a (by omega) (by omega) hl, NB_lk (NB_up b (Nat.le_succ k)) (by omega) (by omega) (by omega)⟩
theorem ldS_e {tx m : Nat → Nat} {n : Nat} (hn : n ≤ 14) (hw : ∀ k, k < n → wrg tx k = false) (hm : ∀ i, i < 14 → gS m i = 0) : ∀ k, k ≤ n → eqG (ldG tx k) (gS (ldS tx m k))
  | 0, _ => fun i hi => by rw [ldG, ldS, hm i hi]
  | k + 1, hk => by
    have ih := ldS_e hn hw hm k (by omega)
    rw [ldG, ldS]
    by_cases e : tx k = 46
    · rw [if_pos e, if_pos e]; exact ih
    · rw [if_neg e, if_neg e, gS_lk]
      obtain ⟨z1, z2⟩ := wrg_ok (hw k (by omega)) e
      exact lk2_e ih (by omega) (by omega) true
theorem pc_split (W X : Nat) : ∀ k, pcn (W &&& X) k + pcn (sd W X) k = pcn W k
  | 0 => rfl
  | k + 1 => by
    have ih := pc_split W X k
    rw [pcn, pcn, pcn, Nat.testBit_and, sd_bit]
    cases W.testBit k <;> cases X.testBit k <;> simp <;> omega
theorem tk_pc {g ss : Nat → Nat} (h : eqG g (gS ss)) {v : Nat} (hv : v < 14) : pc (ss 1) - pc (lft g (ss 1) v) = pc (tkX ss v) := by
  have h2 := pc_split (ss 1) (2 ^ v ||| g v) 14
  rw [lft, pc, pc, pc, tkX, ← (show g v = ss (4 + v) from h v hv)]
  omega
theorem lkS_hi {ss : Nat → Nat} {i j k : Nat} {b : Bool} (hi : i < 14) (hj : j < 14) (h : 18 ≤ k) : lkS ss i j b k = ss k := by
  rw [lkS, upN_n _ _ (by omega), upN_n _ _ (by omega)]
theorem ldS_hi {tx m : Nat → Nat} {n i : Nat} (hn : n ≤ 14) (hw : ∀ k, k < n → wrg tx k = false) (h : 18 ≤ i) : ∀ k, k ≤ n → ldS tx m k i = m i
  | 0, _ => rfl
  | k + 1, hk => by
    rw [ldS]
    by_cases e : tx k = 46
    · rw [if_pos e]; exact ldS_hi hn hw h k (by omega)
    · obtain ⟨z1, z2⟩ := wrg_ok (hw k (by omega)) e
      rw [if_neg e, lkS_hi (by omega) (by omega) h]
      exact ldS_hi hn hw h k (by omega)
theorem clS_hi {m : Nat → Nat} {i : Nat} (h : 18 ≤ i) : clS m 14 i = m i := by rw [clS, if_neg (by omega)]
theorem bgS_hi {m : Nat → Nat} {i : Nat} (h : 4 ≤ i) : bgS m i = m i := by rw [bgS, upN_n _ _ (by omega), upN_n _ _ (by omega), upN_n _ _ (by omega)]
theorem tkS_hi {m : Nat → Nat} {v i : Nat} (h : 4 ≤ i) : tkS m v i = m i := by rw [tkS, upN_n _ _ (by omega), upN_n _ _ (by omega), upN_n _ _ (by omega)]
/-! the state after each call -/
theorem NX_node_e {n th mv sn : Nat} {g ss : Nat → Nat} (hsn : sn ≤ 6) (h : RX n th mv g ss 0) (hn : n < 14) : RX (n + 1) (th ||| 2 ^ n) mv g (upN (upN (upN (svM ss sn) 0 (ss 0 + 1)) 1 (ss 1 ||| 2 ^ ss 0)) (4 + ss 0) 0) 0 := by
  obtain ⟨⟨rfl, rfl, rfl, h4, h5⟩, h6, h7, h8, h9⟩ := RX_0 h
  refine RX_of ⟨⟨?_, ?_, ?_, ?_, fun i hi => ?_⟩, h6, by omega, or_lt (Nat.lt_of_lt_of_le h8 (Nat.pow_le_pow_right (by omega) (by omega))) (Nat.pow_lt_pow_right (by omega) (by omega)), NB_up h9 (by omega)⟩
  · rw [upN_n _ _ (by omega), upN_n _ _ (by omega), upN_s]
  · rw [upN_n _ _ (by omega), upN_s]
  · rw [upN_n _ _ (by omega), upN_n _ _ (by omega), upN_n _ _ (by omega), svM_lo hsn (by omega)]
  · rw [upN_n _ _ (by omega), upN_n _ _ (by omega), upN_n _ _ (by omega), svM_lo hsn (by omega), upN_n _ _ (by omega), upN_n _ _ (by omega), upN_n _ _ (by omega), svM_lo hsn (by omega)]; exact h4
  · rw [gS]
    by_cases e : i = ss 0
    · subst e
      rw [upN_s]; exact NB_0 h6 h9 (Nat.le_refl _) hi
    · rw [upN_n _ _ (by omega), upN_n _ _ (by omega), upN_n _ _ (by omega), svM_lo hsn (by omega)]; exact h5 i hi
theorem R0_lk {n th mv : Nat} {g ss : Nat → Nat} {i j : Nat} {b : Bool} (h : R0 n th mv g ss) (hi : i < 14) (hj : j < 14) (hf : FG (lk2 g i j b)) (hb : ∀ k, k < 14 → lk2 g i j b k < 2 ^ n) : R0 n th mv (lk2 g i j b) (lkS ss i j b) := by
  obtain ⟨⟨h1, h2, h3, h4, h5⟩, h6, h7, h8, h9⟩ := h
  refine ⟨⟨?_, ?_, ?_, ?_, ?_⟩, hf, h7, h8, hb⟩
  · rw [lkS_lo (by omega)]; exact h1
  · rw [lkS_lo (by omega)]; exact h2
  · rw [lkS_lo (by omega)]; exact h3
  · rw [lkS_lo (by omega), lkS_lo (by omega)]; exact h4
  · rw [gS_lk]; exact lk2_e h5 hi hj b
theorem RX_sv {n th mv sn : Nat} {g ss : Nat → Nat} (hsn : sn ≤ 6) (h : RX n th mv g ss 0) : RX n th mv g (svM ss sn) 0 := RX_mv h (fun i hi => svM_lo hsn (by omega))
theorem NX_node_a {n th mv sn v : Nat} {g ss : Nat → Nat} (hsn : sn ≤ 6) (h : RX n th mv g ss 0) (hn : n < 14) (hv : v < n) : RX (n + 1) (th ||| 2 ^ n) mv (lk2 g n v true) (lkS (upN (upN (upN (svM ss sn) 0 (ss 0 + 1)) 1 (ss 1 ||| 2 ^ ss 0)) (4 + ss 0) 0) (ss 0) v true) 0 := by
  have h2 := NX_node_e hsn h hn
  obtain ⟨⟨rfl, -, -, -, -⟩, h6, -, -, h9⟩ := RX_0 h
  have hl := lone_no hn (NB_0 h6 h9 (Nat.le_refl _) hn) (show v ≠ ss 0 by omega)
  exact RX_of (R0_lk (RX_0 h2) (by omega) (by omega) (FG_add h6 (by omega) (by omega) hl) (NB_lk (NB_up h9 (Nat.le_succ _)) (by omega) (by omega) (by omega)))
theorem NX_join {n th mv sn i j : Nat} {g ss : Nat → Nat} (hsn : sn ≤ 6) (h : RX n th mv g ss 0) (hi : i < n) (hj : j < n) (hc : cjB g th n i j = true) : RX n th mv (lk2 g i j true) (lkS (svM ss sn) i j true) 0 := by
  obtain ⟨-, h6, h7, -, h9⟩ := RX_0 h
  exact RX_of (R0_lk (RX_0 (RX_sv hsn h)) (by omega) (by omega) (FG_add h6 (by omega) (by omega) (cj_rch h9 h7 hi hj hc)) (NB_lk h9 hi hj (cj_ne (by omega) hc)))
theorem NX_cut {n th mv sn i j : Nat} {g ss : Nat → Nat} (hsn : sn ≤ 6) (h : RX n th mv g ss 0) (hi : i < n) (hj : j < n) (hc : edB g th i j = true) : RX n th mv (lk2 g i j false) (lkS (svM ss sn) i j false) 0 := by
  obtain ⟨-, h6, h7, -, h9⟩ := RX_0 h
  rw [edB, Bool.and_eq_true] at hc
  have hne := FG_ne h6 (show i < 14 by omega) hc.2
  exact RX_of (R0_lk (RX_0 (RX_sv hsn h)) (by omega) (by omega) (FG_cut h6 hne (by omega) (by omega)) (NB_lk h9 hi hj hne))
theorem NX_take {n th mv sn v : Nat} {g ss : Nat → Nat} (hsn : sn ≤ 6) (h : RX n th mv g ss 0) (hv : v < 14) : RX n (lft g th v) (mv + 1) g (tkS (svM ss sn) v) 0 := by
  obtain ⟨⟨rfl, rfl, rfl, h4, h5⟩, h6, h7, h8, h9⟩ := RX_0 h
  refine RX_of ⟨⟨?_, ?_, ?_, ?_, fun i hi => ?_⟩, h6, h7, sd_lt _ h8, h9⟩
  · rw [tkS, upN_n _ _ (by omega), upN_n _ _ (by omega), upN_n _ _ (by omega), svM_lo hsn (by omega)]
  · rw [tkS, upN_n _ _ (by omega), upN_n _ _ (by omega), upN_s, svM_lo hsn (by omega), tkX_sv hsn hv, tk_lft h5 hv]
  · rw [tkS, upN_s, svM_lo hsn (by omega)]
  · rw [tkS, upN_n _ _ (by omega), upN_s, upN_s, svM_lo hsn (by omega), svM_lo hsn (by omega)]; omega
  · rw [gS, tkS_hi (by omega), svM_lo hsn (by omega)]; exact h5 i hi
theorem R0_bg {n th mv : Nat} {g ss : Nat → Nat} (h1 : n = ss 0) (h5 : eqG g (gS ss)) (h6 : FG g) (h7 : n ≤ 14) (h9 : ∀ i, i < 14 → g i < 2 ^ n) : R0 n (2 ^ n - 1) 0 g (bgS ss) := by
  subst h1
  refine ⟨⟨?_, ?_, ?_, ?_, fun i hi => ?_⟩, h6, h7, Nat.sub_lt (Nat.two_pow_pos _) (by omega), h9⟩
  · rw [bgS_0]
  · rw [bgS, upN_n _ _ (by omega), upN_n _ _ (by omega), upN_s]
  · rw [bgS, upN_s]
  · rw [bgS, upN_n _ _ (by omega), upN_s, upN_s]
  · rw [gS, bgS_hi (by omega)]; exact h5 i hi
theorem NX_again {n th mv sn : Nat} {g ss : Nat → Nat} (hsn : sn ≤ 6) (h : RX n th mv g ss 0) : RX n (2 ^ n - 1) 0 g (bgS (svM ss sn)) 0 := by
  obtain ⟨⟨h1, -, -, -, h5⟩, h6, h7, -, h9⟩ := RX_0 (RX_sv hsn h)
  exact RX_of (R0_bg (th := th) (mv := mv) h1 h5 h6 h7 h9)
theorem NX_load {sn n : Nat} {tx ss : Nat → Nat} (hn : n ≤ 14) (hfw : ¬ fst (wrg tx) n < n) : RX n (2 ^ n - 1) 0 (ldG tx n) (bgS (ldS tx (clS (upN (svM ss sn) 0 n) 14) n)) 0 := by
  have hw : ∀ k, k < n → wrg tx k = false := fun k hk => fst_none hfw hk
  obtain ⟨a, b⟩ := ldG_FG hn hw n (Nat.le_refl _)
  refine RX_of (R0_bg (th := 0) (mv := 0) ?_ (ldS_e hn hw (fun i hi => ?_) n (Nat.le_refl _)) a hn b)
  · rw [ldS_lo (by omega), clS_lo (by omega), upN_s]
  · rw [gS, clS, if_pos (by omega)]
theorem LD_hi {sn n i : Nat} {tx ss : Nat → Nat} (hn : n ≤ 14) (hfw : ¬ fst (wrg tx) n < n) (h : 18 ≤ i) : bgS (ldS tx (clS (upN (svM ss sn) 0 n) 14) n) i = svM ss sn i := by
  rw [bgS_hi (by omega), ldS_hi hn (fun k hk => fst_none hfw hk) h n (Nat.le_refl _), clS_hi h, upN_n _ _ (by omega)]
