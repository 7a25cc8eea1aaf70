/-! what a move leaves a forest a forest -/
theorem okC_0 : okC 0 0 (fun _ => 0) := ⟨FG_0, by decide, by decide, fun _ _ => Nat.zero_lt_one⟩
theorem okC_e {n th : Nat} {g : Nat → Nat} (h : okC n th g) (hn : n < 14) : okC (n + 1) (th ||| 2 ^ n) g :=
  ⟨h.1, hn, or_lt (Nat.lt_trans h.2.2.1 (Nat.pow_lt_pow_right (by decide) (Nat.lt_succ_self n))) (Nat.pow_lt_pow_right (by decide) (Nat.lt_succ_self n)), NB_up h.2.2.2 (Nat.le_succ n)⟩
theorem okC_a {n th v : Nat} {g : Nat → Nat} (h : okC n th g) (hn : n < 14) (hv : v < n) : okC (n + 1) (th ||| 2 ^ n) (lk2 g n v true) :=
  ⟨FG_add h.1 (by omega) (by omega) (lone_no hn (NB_0 h.1 h.2.2.2 (Nat.le_refl _) hn) (show v ≠ n by omega)), hn, (okC_e h hn).2.2.1, NB_lk (NB_up h.2.2.2 (Nat.le_succ n)) (by omega) (by omega) (by omega)⟩
theorem okC_j {n th i j : Nat} {g : Nat → Nat} (h : okC n th g) (hi : i < n) (hj : j < n) (hc : cjB g th n i j = true) : okC n th (lk2 g i j true) := by
  have hn := h.2.1
  exact ⟨FG_add h.1 (by omega) (by omega) (cj_rch h.2.2.2 hn hi hj hc), hn, h.2.2.1, NB_lk h.2.2.2 hi hj (cj_ne (by omega) hc)⟩
theorem okC_c {n th i j : Nat} {g : Nat → Nat} (h : okC n th g) (hi : i < n) (hj : j < n) (hc : edB g th i j = true) : okC n th (lk2 g i j false) := by
  have hn := h.2.1
  rw [edB, Bool.and_eq_true, Bool.and_eq_true] at hc
  have hne := FG_ne h.1 (by omega) hc.2
  exact ⟨FG_cut h.1 hne (by omega) (by omega), hn, h.2.2.1, NB_lk h.2.2.2 hi hj hne⟩
theorem okC_t {n th : Nat} {g : Nat → Nat} (h : okC n th g) (v : Nat) : okC n (lft g th v) g :=
  ⟨h.1, h.2.1, sub_lt2 h.2.2.1 (fun i hi => lft_sub hi), h.2.2.2⟩
theorem okC_g {n th : Nat} {g : Nat → Nat} (h : okC n th g) : okC n (2 ^ n - 1) g :=
  ⟨h.1, h.2.1, by have := Nat.two_pow_pos n; omega, h.2.2.2⟩
theorem okC_w {n th : Nat} {g : Nat → Nat} (h : okC n th g) : th < 16384 := w14 h.2.2.1 h.2.1
theorem svS_6 (k : Nat) : svS k + 1 ≤ 6 := by have := svS_lt (hs := k); omega
theorem okS_k {v : tSL} {n th mv s : Nat} {g : Nat → Nat} (h : okS v) (hc : okC n th g) : okS (upG v.1 s n, upG v.2.1 s th, upG v.2.2.1 s mv, upG v.2.2.2.1 s g, upN v.2.2.2.2 s 1) := by
  intro i hi
  by_cases e : i = s
  · right
    show upN v.2.2.2.2 s 1 i = 1 ∧ okC (upG v.1 s n i) (upG v.2.1 s th i) (upG v.2.2.2.1 s g i)
    rw [e, upN_s, upG_s _ _ _ rfl, upG_s _ _ _ rfl, upG_s _ _ _ rfl]
    exact ⟨rfl, hc⟩
  · show upN v.2.2.2.2 s 1 i = 0 ∨ (upN v.2.2.2.2 s 1 i = 1 ∧ okC (upG v.1 s n i) (upG v.2.1 s th i) (upG v.2.2.2.1 s g i))
    rw [upN_n _ _ e, upG_n _ _ e, upG_n _ _ e, upG_n _ _ e]
    exact h i hi
