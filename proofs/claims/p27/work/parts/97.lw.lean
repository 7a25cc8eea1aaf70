/-! the law's world: one object of the class, by addresses z and contents w -/
abbrev tAD := (Nat → Nat) × (Nat → Nat) × (Nat → Nat) × (Nat → Nat) × (Nat → Nat) × (Nat → Nat) × (Nat → Nat)
abbrev tCU := Nat × Nat × Nat × (Nat → Nat)
abbrev tHI := Nat × Nat × (Nat → Nat) × (Nat → Nat) × (Nat → Nat) × (Nat → Nat → Nat)
abbrev tTX := Nat × (Nat → Nat)
abbrev tSL := (Nat → Nat) × (Nat → Nat) × (Nat → Nat) × (Nat → Nat → Nat) × (Nat → Nat)
abbrev tKA := (Nat → Nat) × (Nat → Nat) × (Nat → Nat) × (Nat → Nat) × (Nat → Nat) × (Nat → Nat)
abbrev tST := tCU × tHI × tTX × tSL × tKA
def LW (Γ : kG) (z : tAD) (w : tST) : va_W := [((z.1 0), .inr (6, [.ref (z.1 1), .ref (z.1 4), .ref (z.1 5), .ref (z.1 6), .ref (z.1 8), .ref (z.1 10), .ref (z.1 12), .ref (z.1 16), .ref (z.1 20)])), ((z.1 1), .inr (0, [.ref (z.1 2), .int (nI w.1.1), .int (nI w.1.2.1), .int (nI w.1.2.2.1)])), ((z.1 2), .inr (1, [.ref (z.1 3)])), ((z.1 3), .inl (Γ.2 0, 14, .inl (aN w.1.2.2.2))), ((z.1 6), .inr (2, [.ref (z.1 7), .int (nI w.2.1.1), .int (nI w.2.1.2.1)])), ((z.1 7), .inl (Γ.2 4, 6, .inr (.inr (.inr (.inr (fun i => some (z.2.1 i))))))), ((z.2.1 0), .inr (0, [.ref (z.2.2.1 0), .int (nI (w.2.1.2.2.1 0)), .int (nI (w.2.1.2.2.2.1 0)), .int (nI (w.2.1.2.2.2.2.1 0))])), ((z.2.2.1 0), .inr (1, [.ref (z.2.2.2.1 0)])), ((z.2.2.2.1 0), .inl (Γ.2 0, 14, .inl (aN (w.2.1.2.2.2.2.2 0)))), ((z.2.1 1), .inr (0, [.ref (z.2.2.1 1), .int (nI (w.2.1.2.2.1 1)), .int (nI (w.2.1.2.2.2.1 1)), .int (nI (w.2.1.2.2.2.2.1 1))])), ((z.2.2.1 1), .inr (1, [.ref (z.2.2.2.1 1)])), ((z.2.2.2.1 1), .inl (Γ.2 0, 14, .inl (aN (w.2.1.2.2.2.2.2 1)))), ((z.2.1 2), .inr (0, [.ref (z.2.2.1 2), .int (nI (w.2.1.2.2.1 2)), .int (nI (w.2.1.2.2.2.1 2)), .int (nI (w.2.1.2.2.2.2.1 2))])), ((z.2.2.1 2), .inr (1, [.ref (z.2.2.2.1 2)])), ((z.2.2.2.1 2), .inl (Γ.2 0, 14, .inl (aN (w.2.1.2.2.2.2.2 2)))), ((z.2.1 3), .inr (0, [.ref (z.2.2.1 3), .int (nI (w.2.1.2.2.1 3)), .int (nI (w.2.1.2.2.2.1 3)), .int (nI (w.2.1.2.2.2.2.1 3))])), ((z.2.2.1 3), .inr (1, [.ref (z.2.2.2.1 3)])), ((z.2.2.2.1 3), .inl (Γ.2 0, 14, .inl (aN (w.2.1.2.2.2.2.2 3)))), ((z.2.1 4), .inr (0, [.ref (z.2.2.1 4), .int (nI (w.2.1.2.2.1 4)), .int (nI (w.2.1.2.2.2.1 4)), .int (nI (w.2.1.2.2.2.2.1 4))])), ((z.2.2.1 4), .inr (1, [.ref (z.2.2.2.1 4)])), ((z.2.2.2.1 4), .inl (Γ.2 0, 14, .inl (aN (w.2.1.2.2.2.2.2 4)))), ((z.2.1 5), .inr (0, [.ref (z.2.2.1 5), .int (nI (w.2.1.2.2.1 5)), .int (nI (w.2.1.2.2.2.1 5)), .int (nI (w.2.1.2.2.2.2.1 5))])), ((z.2.2.1 5), .inr (1, [.ref (z.2.2.2.1 5)])), ((z.2.2.2.1 5), .inl (Γ.2 0, 14, .inl (aN (w.2.1.2.2.2.2.2 5)))), ((z.1 8), .inr (5, [.ref (z.1 9), .int (nI w.2.2.1.1)])), ((z.1 9), .inl (Γ.2 0, 14, .inl (aN w.2.2.1.2))), ((z.1 10), .inr (4, [.ref (z.1 11)])), ((z.1 11), .inl (Γ.2 0, 14, .inl (aN w.2.2.2.2.2.2.1))), ((z.1 12), .inr (3, [.ref (z.1 13), .ref (z.1 15)])), ((z.1 13), .inr (1, [.ref (z.1 14)])), ((z.1 14), .inl (Γ.2 0, 14, .inl (aN w.2.2.2.2.1))), ((z.1 15), .inl (Γ.2 0, 16384, .inl (aN w.2.2.2.2.2.1))), ((z.1 16), .inr (3, [.ref (z.1 17), .ref (z.1 19)])), ((z.1 17), .inr (1, [.ref (z.1 18)])), ((z.1 18), .inl (Γ.2 0, 14, .inl (aN w.2.2.2.2.2.2.2.1))), ((z.1 19), .inl (Γ.2 0, 16384, .inl (aN w.2.2.2.2.2.2.2.2.1))), ((z.1 20), .inr (1, [.ref (z.1 21)])), ((z.1 21), .inl (Γ.2 0, 14, .inl (aN w.2.2.2.2.2.2.2.2.2))), ((z.1 4), .inl (Γ.2 4, 2, .inr (.inr (.inr (.inr (fun i => some (z.2.2.2.2.1 i))))))), ((z.2.2.2.2.1 0), .inr (0, [.ref (z.2.2.2.2.2.1 0), .int (nI (w.2.2.2.1.1 0)), .int (nI (w.2.2.2.1.2.1 0)), .int (nI (w.2.2.2.1.2.2.1 0))])), ((z.2.2.2.2.2.1 0), .inr (1, [.ref (z.2.2.2.2.2.2 0)])), ((z.2.2.2.2.2.2 0), .inl (Γ.2 0, 14, .inl (aN (w.2.2.2.1.2.2.2.1 0)))), ((z.2.2.2.2.1 1), .inr (0, [.ref (z.2.2.2.2.2.1 1), .int (nI (w.2.2.2.1.1 1)), .int (nI (w.2.2.2.1.2.1 1)), .int (nI (w.2.2.2.1.2.2.1 1))])), ((z.2.2.2.2.2.1 1), .inr (1, [.ref (z.2.2.2.2.2.2 1)])), ((z.2.2.2.2.2.2 1), .inl (Γ.2 0, 14, .inl (aN (w.2.2.2.1.2.2.2.1 1)))), ((z.1 5), .inl (Γ.2 1, 2, .inl (aN w.2.2.2.1.2.2.2.2)))]
theorem LW_fst (Γ : kG) (z : tAD) (w w2 : tST) : (LW Γ z w2).map Prod.fst = (LW Γ z w).map Prod.fst := rfl
/-- a forest as it may be -/
def okC (n th : Nat) (g : Nat → Nat) : Prop := FG g ∧ n ≤ 14 ∧ th < 2 ^ n ∧ ∀ i, i < 14 → g i < 2 ^ n
def okS (v : tSL) : Prop := ∀ i, i < 2 → v.2.2.2.2 i = 0 ∨ (v.2.2.2.2 i = 1 ∧ okC (v.1 i) (v.2.1 i) (v.2.2.2.1 i))
def okK (v : tKA) : Prop := (okF v.1 v.2.1 ∧ ∀ i, i < 14 → v.1 i < 16384) ∧ (okF v.2.2.2.1 v.2.2.2.2.1 ∧ ∀ i, i < 14 → v.2.2.2.1 i < 16384)
def okT (v : tTX) : Prop := v.1 ≤ 14 ∧ ∀ i, i < 14 → v.2 i < 128
/-- the world tells of the forest n, th, g, of mv moves and k saved states -/
def OKW (n th mv : Nat) (g : Nat → Nat) (k : Nat) (w : tST) : Prop := w.1 = (n, th, mv, g) ∧ w.2.1.2.1 = k ∧ okC n th g ∧ w.2.1.1 < 6 ∧ k ≤ 6 ∧ okT w.2.2.1 ∧ okS w.2.2.2.1 ∧ okK w.2.2.2.2
def WY (l : Launch) (y : MethodName) (wz : List Cond) (rm : Room) (Γ : kG) (z : tAD) (av : List Value) (w : tST) (mc ms : Nat) (post : Int32 → tST → Prop) : Prop := Met l y wz rm (kPy Γ (LW Γ z w) av) (va_Qi post (kB Γ (LW Γ z)) (kM (LW Γ z w))) mc ms (kM (LW Γ z w))
section LWK
variable {p : Program} {l : Launch} {e : Env} {R : Room} {s : State} {m : MethodId} {args : Array Value} {below : List Frame} {meth : Method} {c : Code} {H : Heap} {locs : List Loc} {cells slots : Nat} {Q : State → Prop}
variable {cc : ByteArray} {pc : Nat} {ls : Array Slot} {rest st0 : List Value} {A : Nat → Prop} {A0 : Nat → Prop} {H0 : Heap} {a : Array Value} {Γ : kG} {z : tAD} {w : tST}
theorem XS.nar {A B : Nat → Prop} {s : State} {H : Heap} (h : XS A s H) (hAB : ∀ q, B q → A q) : XS B s H := ⟨h.1, vx_Zq.narrow h.2.1 hAB, vx_Zq.narrow h.2.2.1 hAB, h.2.2.2⟩
theorem fm_of {ws wc : va_W} {is : List Nat} (hC : is.map (fun i => ws[i]?) = wc.map some) : is.filterMap (fun i => ws[i]?) = wc := by
  have q := congrArg (List.filterMap id) hC
  rw [List.filterMap_map, List.filterMap_map] at q
  exact q.trans List.filterMap_some
theorem wri_up {S : Type} {y : MethodName} {wz : List Cond} {rm : Room} {av : List Value} {wc : va_W} {w1 : S → va_W} {post : Int32 → S → Prop} {post' : Int32 → tST → Prop} (h : WRi l y wz rm Γ av wc w1 post) (is : List Nat) (hn : va_nd is = true) (hC : is.map (fun i => (LW Γ z w)[i]?) = wc.map some) (ha : ∀ u, (w1 u).map Prod.fst = wc.map Prod.fst) (φ : S → tST) (hw : ∀ u, kU is (w1 u) (LW Γ z w) = LW Γ z (φ u)) (hp : ∀ r u, post r u → post' r (φ u)) : WY l y wz rm Γ z av w 0 0 post' := by
  unfold WRi Met at h
  unfold WY Met
  refine MetFree.mono h (fun a s hP => ?_) (fun _ _ _ _ _ h => h) (fun a s o t hP hQ => ?_)
  · obtain ⟨⟨⟨e, hP1, hD, hK⟩, -⟩, -⟩ := hP
    exact ⟨e, hP1.sub is (fm_of hC), hD.sub is hn hC, hK⟩
  · obtain ⟨⟨⟨e, hP1, hD, hK⟩, -⟩, -⟩ := hP
    obtain ⟨⟨⟨r, u, ho, hr, hB⟩, hF⟩, L, hL, hq⟩ := hQ
    have hD2 : va_D (kM (LW Γ z w)) (LW Γ z w) := va_D_kM hD
    have hs : ∀ q, kM wc q → kM (LW Γ z w) q := kA_sub hD2 is hC
    refine ⟨⟨⟨r, φ u, ho, hp r u hr, ?_⟩, hF.1, fun q h1 h2 => hF.2 q h1 (fun h3 => h2 (hs q h3))⟩, L, hL, fun q h => hs _ (hq q h)⟩
    show va_P Γ.1 vwCl (LW Γ z (φ u)) t.heap
    rw [← hw u]
    exact kU_P hP1 hD2 is hC (ha u) hB hF.2
theorem wt_up {y : MethodName} {wz : List Cond} {rm : Room} {av : List Value} {wc : va_W} {k : Int32} {post' : Int32 → tST → Prop} (h : WT l y wz rm Γ av wc k) (is : List Nat) (hn : va_nd is = true) (hC : is.map (fun i => (LW Γ z w)[i]?) = wc.map some) (hw : kU is wc (LW Γ z w) = LW Γ z w) (hp : post' k w) : WY l y wz rm Γ z av w 1 6 post' := by
  unfold WT Met at h
  unfold WY Met
  refine MetFree.mono h (fun a s hP => ?_) (fun _ _ _ _ _ h => h) (fun a s o t hP hQ => ?_)
  · obtain ⟨⟨⟨e, hP1, hD, hK⟩, hX⟩, hN⟩ := hP
    exact ⟨⟨⟨e, hP1.sub is (fm_of hC), hD.sub is hn hC, hK⟩, hX.nar (kA_sub (va_D_kM hD) is hC)⟩, hN⟩
  · obtain ⟨⟨⟨e, hP1, hD, hK⟩, -⟩, -⟩ := hP
    obtain ⟨⟨⟨r, u, ho, hr, hB⟩, hF⟩, L, hL, hq⟩ := hQ
    have hD2 : va_D (kM (LW Γ z w)) (LW Γ z w) := va_D_kM hD
    have hs : ∀ q, kM wc q → kM (LW Γ z w) q := kA_sub hD2 is hC
    obtain rfl : r = k := hr
    refine ⟨⟨⟨r, w, ho, hp, ?_⟩, hF.1, fun q h1 h2 => hF.2 q h1 (fun h3 => h2 (hs q h3))⟩, L, hL, fun q h => hs _ (hq q h)⟩
    show va_P Γ.1 vwCl (LW Γ z w) t.heap
    rw [← hw]
    exact kU_P hP1 hD2 is hC rfl hB hF.2
theorem kPy_V {C : String} {b : Addr} {As : List Value} {wc : va_W} (hK : TK Γ s) (hv : ∃ cellB : Cell, H[b]? = some cellB ∧ cellB.vm.isStatics = false ∧ s.vm.findClass C = some cellB.cls) (hP : va_P Γ.1 vwCl wc H) (hD : va_D A wc) (hX : XS A s s.heap) (hN : XN s) (hS : va_S A s.heap H locs) : PreV s H C b (kPy Γ wc (.ref b :: As)) As :=
  ⟨fun a U g mk q => ⟨(kPx_V hK hv hP hD hX hS).1 a U g mk q.1, q.2.call⟩, hv, fun U hU hW => ⟨(kPx_V hK hv hP hD hX hS).2.2 U hU hW, hN.warm hW⟩⟩
theorem wy_fin {mc ms : Nat} {post : Int32 → tST → Prop} (hr : va_Run p l e R s m args below meth c H locs cells slots mc ms (F0 m pc ls st0) rest (va_Qi post (kB Γ (LW Γ z)) (kM (LW Γ z w)) a) (kM (LW Γ z w))) (hP : va_P Γ.1 vwCl (LW Γ z w) H) (hD : va_D A0 (LW Γ z w)) (hS : va_S A0 H0 H locs)
    (kk : ∀ (r : Int32) (w' : tST) (H1 : Heap) (locs1 : List Loc), post r w' → va_P Γ.1 vwCl (LW Γ z w') H1 → va_D A0 (LW Γ z w') → va_S A0 H0 H1 locs1 → W p l e R s m args below meth c H1 locs1 (cells + mc) (slots + ms) Q (F0 m (pc + 3) ls (.int r :: rest))) : W p l e R s m args below meth c H locs cells slots Q (F0 m pc ls st0) :=
  va_calli hr hS (fun q _ h => kM_A hD q h) (kM_A hD) (fun r u t H1 locs1 ht _ hw hB _ hk1 hS => kk r u H1 locs1 hw (by rw [← ht]; exact hB) (va_D_fst (LW_fst Γ z w u) hD) hS)
theorem wy_of {y : MethodName} {lv maxL mc ms : Nat} {av : List Value} {ret : Option FieldType} {post : Int32 → tST → Prop} (hy : plainFor y = true) (hn : (lg_sl av).length ≤ maxL) {l0 : List (Nat × Value)} (hl0 : lv_args 0 av = l0) (hret : ret = some .int ∨ ret = some .boolean)
    (body : ∀ p e R s m args below meth c Q A ls, kAt p l y cc maxL ret s m args meth c Γ → R = (headSpec (wsq y cc maxL ret) (rmX lv mc ms)).room → (XS A s s.heap ∧ XN s ∧ (∀ {pc ls H locs} {v : Int32} (w' : tST), va_P Γ.1 vwCl (LW Γ z w') H → va_S A s.heap H locs → post v w' → (ret = some .boolean → ∃ b : Bool, v = bI b) → decode cc pc = .ok (.ireturn, 1) → W p l e R s m args below meth c H locs mc ms Q (F0 m pc ls [.int v]))) → va_P Γ.1 vwCl (LW Γ z w) s.heap → va_D A (LW Γ z w) → va_S A s.heap s.heap [] → lv_has ls maxL l0 →
      W p l e R s m args below meth c s.heap [] 0 0 Q (F0 m 0 ls [])) : WY l y (wsq y cc maxL ret) (rmX lv mc ms) Γ z av w mc ms post := by
  refine va_MetF (cc := cc) (maxL := maxL) (ret := ret) hy rfl ?_
  intro p e s m args below meth c s₁ B hml hv
  obtain ⟨⟨⟨rfl, hP, hD, hK⟩, hX⟩, hN⟩ := hv
  have hl := lv_entry av (n := maxL) hn
  rw [hl0] at hl
  rw [lg_entry_eq]
  refine body p e _ s m _ below meth c _ (kM (LW Γ z w)) _ ⟨B.exec, B.bytes, B.returns, hml, findClass_of_methodNamed B.named, fun w h => atoms_spec (ws := wsq y cc maxL ret) B.pre w (List.mem_cons_of_mem _ h), B.notSynchronized, hK, (name_of_methodNamed B.named B.method).1⟩ rfl ⟨hX, hN, fun {pc ls H locs v} w' hP hS hv hz hdg => ?_⟩ hP (va_D_kM hD) va_S.rf hl
  rcases hret with rfl | rfl
  · exact wr_iret (w1 := LW Γ z) w' B.exec B.bytes B.returns B.notSynchronized hP hS hv hdg
  · exact wr_zret (w1 := LW Γ z) w' B.exec B.bytes B.returns B.notSynchronized hP hS hv (by obtain ⟨b, rfl⟩ := hz rfl; exact bI_nar b) hdg
end LWK

