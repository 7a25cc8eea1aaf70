/-! the bits of a share, by hand -/
def scN (x : UInt64) : Nat → UInt64
  | 0 => x
  | t + 1 => FP.dmul (scN x t) 4611686018427387904
def lt1 (y : UInt64) : Bool := decide (Op.cmpValue (FP.dcmp y FP.dconst1) .g < 0)
def nn64 (r : UInt64) : Bool := decide (r &&& 0x7fffffffffffffff ≤ 0x7ff0000000000000)
def stpN (x : UInt64) : Nat := fst (fun t => !lt1 (scN x t)) 5
def fracD (y : UInt64) : UInt64 := FP.dmul (FP.dsub y FP.dconst1) 4841369599423283200
def chkB (x : UInt64) : Bool := decide (stpN x < 5) && (List.range 5).all (fun t => !decide (t ≤ stpN x) || nn64 (scN x t)) && nn64 (FP.dsub (scN x (stpN x)) FP.dconst1) && nn64 (fracD (scN x (stpN x))) && decide (lN (1023 - stpN x) <<< ((nI 52).toInt64 &&& 63) ||| FP.d2l (fracD (scN x (stpN x))) = x.toInt64)
theorem bs_fin : ∀ b, b < 15 → ∀ a, a ≤ b → (0 < Op.cmpValue (FP.dcmp (shD a b) FP.dconst0) .l ∧ chkB (shD a b) = true) ∨ (¬ 0 < Op.cmpValue (FP.dcmp (shD a b) FP.dconst0) .l ∧ (shD a b).toInt64 = 0) := by decide +kernel
theorem nn_vf {r : UInt64} (h : nn64 r = true) : vf_n64 r := by
  unfold vf_n64
  exact of_decide_eq_true h
theorem chk_get {x : UInt64} (h : chkB x = true) : stpN x < 5 ∧ (∀ t, t ≤ stpN x → nn64 (scN x t) = true) ∧ nn64 (FP.dsub (scN x (stpN x)) FP.dconst1) = true ∧ nn64 (fracD (scN x (stpN x))) = true ∧ lN (1023 - stpN x) <<< ((nI 52).toInt64 &&& 63) ||| FP.d2l (fracD (scN x (stpN x))) = x.toInt64 := by
  simp only [chkB, Bool.and_eq_true, decide_eq_true_eq] at h
  refine ⟨h.1.1.1.1, fun t ht => ?_, h.1.1.2, h.1.2, h.2⟩
  have h5 := h.1.1.1.1
  have h2 := List.all_eq_true.mp h.1.1.1.2 t (List.mem_range.mpr (by omega))
  rw [decide_eq_true ht] at h2
  simpa using h2
theorem stp_end {x : UInt64} (h : stpN x < 5) : lt1 (scN x (stpN x)) = false := by
  have := (fst_spec (q := fun t => !lt1 (scN x t)) (n := 5) h).1
  rw [stpN]
  simpa using this
theorem stp_at {x : UInt64} {t : Nat} (h5 : stpN x < 5) (ht : t ≤ stpN x) (h : lt1 (scN x t) = false) : t = stpN x := by
  rcases Nat.lt_or_ge t (stpN x) with q | q
  · have := (fst_spec (q := fun t => !lt1 (scN x t)) (n := 5) h5).2 t q
    rw [h] at this
    cases this
  · omega
