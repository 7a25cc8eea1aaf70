/-! codes by the queue -/
def CHs (g : Nat → Nat) (T : Nat) (q : Nat → Nat) (p : Nat → Int32) (k : Nat) : Nat := g (q k) &&& sd (sd T (pmk (p (q k)))) (2 ^ q k)
noncomputable def ccF (g : Nat → Nat) (T x : Nat) : Nat → Nat := fun b => CD g (sd T (2 ^ x)) b
noncomputable def wwF (g : Nat → Nat) (T x : Nat) : Nat → Nat := fun b => wtD g (sd T (2 ^ x)) b
def CIv (g : Nat → Nat) (T : Nat) (q : Nat → Nat) (p : Nat → Int32) (n d : Nat) (c : Nat → Int64) : Prop := ∀ a, n ≤ a + d → a < n → c (q a) = lN (CD g (sd T (pmk (p (q a)))) (q a))
def WIv (g : Nat → Nat) (T : Nat) (q : Nat → Nat) (p : Nat → Int32) (n d : Nat) (w : Nat → Int32) : Prop := ∀ a c, n ≤ a + d → a < n → c + d < n → p (q a) = nI (q c) → w (q a) = nI (wwF g T (q c) (q a))
section CDM
variable {g : Nat → Nat} {T r : Nat} {q : Nat → Nat} {p : Nat → Int32} {n : Nat}
theorem CHs_lt (hT : T < 16384) {k : Nat} : CHs g T q p k < 16384 := chd_lt (sd_14 _ hT)
theorem CHs_in {k b : Nat} (hb : (CHs g T q p k).testBit b = true) : (sd T (2 ^ q k)).testBit b = true := by
  have h2 := (chd_bit.mp hb).2
  rw [sd_bit, Bool.and_eq_true] at h2
  exact sd_sub.mpr ⟨h2.1.1, h2.2⟩
theorem CHs_q (hf : FG g) (hT : T < 16384) (h : QI g T r q p n) {k : Nat} (hk : k < n) (b : Nat) : (CHs g T q p k).testBit b = true ↔ ∃ a, k < a ∧ a < n ∧ q a = b ∧ p b = nI (q k) := chQ hf hT h hk b
theorem CHs_w (hf : FG g) (hT : T < 16384) {k b : Nat} (hb : (CHs g T q p k).testBit b = true) : cdW (wwF g T (q k) b) (ccF g T (q k) b) := CD_w hf (sd_14 _ hT) (CHs_in hb)
theorem CHs_sum (hf : FG g) (hT : T < 16384) (h : QI g T r q p n) {k : Nat} (hk : k < n) : 1 + sm (wwF g T (q k)) (CHs g T q p k) 14 = wtD g (sd T (pmk (p (q k)))) (q k) := (wt_que hf hT h hk).symm
theorem CIv_ch (hf : FG g) (hT : T < 16384) (h : QI g T r q p n) {k d : Nat} {c : Nat → Int64} (hk : k + 1 + d = n) (hc : CIv g T q p n d c) {b : Nat} (hb : (CHs g T q p k).testBit b = true) : c b = lN (ccF g T (q k) b) := by
  obtain ⟨a, a1, a2, rfl, a4⟩ := (CHs_q hf hT h (show k < n by omega) b).mp hb
  rw [hc a (by omega) a2, a4, pmk_n (h.a1 k (by omega)).1]
  rfl
theorem WIv_ch (hf : FG g) (hT : T < 16384) (h : QI g T r q p n) {k d : Nat} {w : Nat → Int32} (hk : k + 1 + d = n) (hw : WIv g T q p n d w) {b : Nat} (hb : (CHs g T q p k).testBit b = true) : w b = nI (wwF g T (q k) b) := by
  obtain ⟨a, a1, a2, rfl, a4⟩ := (CHs_q hf hT h (show k < n by omega) b).mp hb
  exact hw a k (by omega) a2 (by omega) a4
theorem CIv_0 (c : Nat → Int64) : CIv g T q p n 0 c := fun a h1 h2 => by omega
theorem WIv_0 (w : Nat → Int32) : WIv g T q p n 0 w := fun a c h1 h2 => by omega
theorem CIv_s (h : QI g T r q p n) {k d : Nat} {c : Nat → Int64} (hk : k + 1 + d = n) (hc : CIv g T q p n d c) : CIv g T q p n (d + 1) (vp_updL c (q k) (lN (CD g (sd T (pmk (p (q k)))) (q k)))) := fun a h1 h2 => by
  by_cases e : a = k
  · subst e; simp [vp_updL]
  · have hne : q a ≠ q k := fun z => e (h.a2 a k h2 (by omega) z)
    simp only [vp_updL, if_neg hne]
    exact hc a (by omega) h2
theorem WIv_s (hf : FG g) (hT : T < 16384) (h : QI g T r q p n) {k d s : Nat} {w w2 : Nat → Int32} (hk : k + 1 + d = n) (hw : WIv g T q p n d w) (h2 : ∀ x, (CHs g T q p k).testBit x = false → w2 x = w x) (hs : s = wtD g (sd T (pmk (p (q k)))) (q k)) : WIv g T q p n (d + 1) (upd w2 (q k) (nI s)) := fun a c h3 h4 h5 h6 => by
  by_cases e : a = k
  · subst e
    have hc14 := (h.a1 c (by omega)).1
    rw [h6, pmk_n hc14] at hs
    simp [upd, hs, wwF]
  · have hne : q a ≠ q k := fun z => e (h.a2 a k h4 (by omega) z)
    have hnc : (CHs g T q p k).testBit (q a) = false := by
      cases z : (CHs g T q p k).testBit (q a)
      · rfl
      · obtain ⟨-, -, -, -, z4⟩ := (CHs_q hf hT h (show k < n by omega) (q a)).mp z
        have := h.a2 c k (by omega) (by omega) (nI_inj (h.a1 c (by omega)).1 (h.a1 k (by omega)).1 (h6.symm.trans z4))
        omega
    simp only [upd, if_neg hne]
    rw [h2 _ hnc]
    exact hw a c (by omega) h4 (by omega) h6
/-- the choice of the greatest branch, in the queue's order -/
def InvB (cc : Nat → Nat) (Y : Nat) (q : Nat → Nat) (k j : Nat) (o : Option Nat) : Prop := (∀ a, k < a → a < j → Y.testBit (q a) = true → ∃ b, o = some b ∧ cc (q a) ≤ cc b) ∧ (∀ b, o = some b → Y.testBit b = true)
theorem InvB_0 (cc : Nat → Nat) (Y : Nat) (q : Nat → Nat) (k : Nat) : InvB cc Y q k (k + 1) none := ⟨fun a h1 h2 => by omega, fun b h => by cases h⟩
theorem InvB_no {cc : Nat → Nat} {Y k j : Nat} {o : Option Nat} (h : InvB cc Y q k j o) (hj : Y.testBit (q j) = false) : InvB cc Y q k (j + 1) o := ⟨fun a h1 h2 h3 => by
  by_cases e : a = j
  · subst e; rw [hj] at h3; cases h3
  · exact h.1 a h1 (by omega) h3, h.2⟩
theorem InvB_le {cc : Nat → Nat} {Y k j b : Nat} (h : InvB cc Y q k j (some b)) (hj : cc (q j) ≤ cc b) : InvB cc Y q k (j + 1) (some b) := ⟨fun a h1 h2 h3 => by
  by_cases e : a = j
  · subst e; exact ⟨b, rfl, hj⟩
  · exact h.1 a h1 (by omega) h3, h.2⟩
theorem InvB_up {cc : Nat → Nat} {Y k j b : Nat} (h : InvB cc Y q k j (some b)) (hY : Y.testBit (q j) = true) (hj : cc b ≤ cc (q j)) : InvB cc Y q k (j + 1) (some (q j)) := ⟨fun a h1 h2 h3 => by
  by_cases e : a = j
  · subst e; exact ⟨_, rfl, Nat.le_refl _⟩
  · obtain ⟨x, x1, x2⟩ := h.1 a h1 (by omega) h3
    cases x1
    exact ⟨_, rfl, by omega⟩, fun x hx => by cases hx; exact hY⟩
theorem InvB_up0 {cc : Nat → Nat} {Y k j : Nat} (h : InvB cc Y q k j none) (hY : Y.testBit (q j) = true) : InvB cc Y q k (j + 1) (some (q j)) := ⟨fun a h1 h2 h3 => by
  by_cases e : a = j
  · subst e; exact ⟨_, rfl, Nat.le_refl _⟩
  · obtain ⟨x, x1, -⟩ := h.1 a h1 (by omega) h3
    exact absurd x1 (by simp), fun x hx => by cases hx; exact hY⟩
theorem InvB_up2 {cc : Nat → Nat} {Y k j b : Nat} {o : Option Nat} (h : InvB cc Y q k j o) (ho : o = some b) (hY : Y.testBit (q j) = true) (hc : ¬ cmpN (cc (q j)) (cc b) ≤ 0) : InvB cc Y q k (j + 1) (some (q j)) := by
  subst ho
  have h9 : ¬ cc (q j) ≤ cc b := fun z => hc (cmpN_le.mpr z)
  exact InvB_up h hY (by omega)
theorem InvB_none (hf : FG g) (hT : T < 16384) (h : QI g T r q p n) {k Y : Nat} (hk : k < n) {cc : Nat → Nat} (hY : Y < 16384) (hs : ∀ b, Y.testBit b = true → (CHs g T q p k).testBit b = true) (hB : InvB cc Y q k n none) : Y = 0 := by
  by_cases e : Y = 0
  · exact e
  · obtain ⟨b, -, b2⟩ := bit_ex hY e
    obtain ⟨a, a1, a2, a3, -⟩ := (CHs_q hf hT h hk b).mp (hs b b2)
    obtain ⟨x, x1, -⟩ := hB.1 a a1 a2 (by rw [a3]; exact b2)
    cases x1
theorem InvB_some (hf : FG g) (hT : T < 16384) (h : QI g T r q p n) {k Y b : Nat} (hk : k < n) {cc : Nat → Nat} (hs : ∀ b, Y.testBit b = true → (CHs g T q p k).testBit b = true) (hB : InvB cc Y q k n (some b)) : isMx cc Y b := ⟨hB.2 b rfl, fun x hx => by
  obtain ⟨a, a1, a2, a3, -⟩ := (CHs_q hf hT h hk x).mp (hs x hx)
  obtain ⟨y, y1, y2⟩ := hB.1 a a1 a2 (by rw [a3]; exact hx)
  cases y1
  rw [a3] at y2
  exact y2⟩
/-- which branches are still to be taken, by the weights -/
def WY (g : Nat → Nat) (T : Nat) (q : Nat → Nat) (p : Nat → Int32) (k Y : Nat) (w2 : Nat → Int32) : Prop := ∀ b, (CHs g T q p k).testBit b = true → w2 b = if Y.testBit b then nI (wwF g T (q k) b) else -1
theorem WY_rm {k Y b : Nat} {w2 : Nat → Int32} (h : WY g T q p k Y w2) : WY g T q p k (sd Y (2 ^ b)) (upd w2 b (-1)) := fun x hx => by
  by_cases e : x = b
  · subst e
    rw [if_neg (fun z => (sd_sub.mp z).2 rfl)]
    simp [upd]
  · simp only [upd, if_neg e]
    rw [h x hx]
    have : (sd Y (2 ^ b)).testBit x = Y.testBit x := by
      rw [sd_bit, pow_bit, decide_eq_false (fun z => e z.symm), Bool.not_false, Bool.and_true]
    rw [this]
theorem WY_no {k Y j : Nat} {w2 : Nat → Int32} (hf : FG g) (hT : T < 16384) (h : QI g T r q p n) (hk : k < n) (hs : ∀ b, Y.testBit b = true → (CHs g T q p k).testBit b = true) (hp : p (q j) ≠ nI (q k)) : Y.testBit (q j) = false := by
  cases e : Y.testBit (q j)
  · rfl
  · obtain ⟨-, -, -, -, z⟩ := (CHs_q hf hT h hk _).mp (hs _ e)
    exact absurd z hp
theorem WY_le {k Y j : Nat} {w2 : Nat → Int32} (hf : FG g) (hT : T < 16384) (h : QI g T r q p n) (hk : k < n) (hj : k < j) (hjn : j < n) (hW : WY g T q p k Y w2) (hp : p (q j) = nI (q k)) (hw : w2 (q j) ≤ 0) : Y.testBit (q j) = false := by
  have hc := (CHs_q hf hT h hk (q j)).mpr ⟨j, hj, hjn, rfl, hp⟩
  cases e : Y.testBit (q j)
  · rfl
  · rw [hW _ hc, e, if_pos rfl] at hw
    have h1 := (CHs_w hf hT hc).1
    have h2 : wwF g T (q k) (q j) ≤ 14 := wt_le _ _ _
    exact absurd hw (nI_nle (by omega) (by omega))
theorem WY_gt {k Y j : Nat} {w2 : Nat → Int32} (hf : FG g) (hT : T < 16384) (h : QI g T r q p n) (hk : k < n) (hj : k < j) (hjn : j < n) (hW : WY g T q p k Y w2) (hp : p (q j) = nI (q k)) (hw : ¬ w2 (q j) ≤ 0) : Y.testBit (q j) = true := by
  have hc := (CHs_q hf hT h hk (q j)).mpr ⟨j, hj, hjn, rfl, hp⟩
  cases e : Y.testBit (q j)
  · rw [hW _ hc, e, if_neg (by decide)] at hw
    exact absurd (by decide) hw
  · rfl
theorem CD_end (hf : FG g) (hT : T < 16384) (h : QI g T r q p n) {k v s t : Nat} (hk : k < n) (hO : OInv (ccF g T (q k)) (wwF g T (q k)) (CHs g T q p k) 0 v s t) : v * 2 ^ 1 = CD g (sd T (pmk (p (q k)))) (q k) := by
  rw [OInv_v hO rfl, Nat.mul_comm]
  exact (CD_que hf hT h hk).symm
theorem CI_root (h : QI g T r q p n) {c : Nat → Int64} (hc : CIv g T q p n n c) : c r = lN (CD g T r) := by
  have := hc 0 (by omega) h.n0
  rw [h.q0, h.p0, pmk, if_pos neg1, sd_0] at this
  exact this
end CDM
