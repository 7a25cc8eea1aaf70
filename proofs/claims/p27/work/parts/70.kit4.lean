/-! constructors -/
def kPn (Γ : kG) (sz : Nat) (w0 : va_W) (av : List Value) : Array Value → State → Prop := fun v U => v = av.toArray ∧ U.heap.size = sz ∧ va_P Γ.1 vwCl w0 U.heap ∧ va_D (fun _ => True) w0 ∧ TK Γ U ∧ va_AO RX0 U
def WRn {S : Type} (l : Launch) (y : MethodName) (ws : List Cond) (rm : Room) (mc ms : Nat) (Γ : kG) (sz : Nat) (av : List Value) (w0 : va_W) (w1 : S → va_W) : Prop := Met l y ws rm (kPn Γ sz w0 av) (va_Qv (fun _ : S => True) (fun u t => va_P Γ.1 vwCl (w1 u) t.heap ∧ va_D (va_A w0 sz) (w1 u)) (va_A w0 sz)) mc ms (va_A w0 sz)
section KIT4
variable {p : Program} {l : Launch} {e : Env} {R : Room} {s : State} {m : MethodId} {args : Array Value} {below : List Frame} {meth : Method} {c : Code} {H : Heap} {locs : List Loc} {cells slots : Nat} {Q : State → Prop}
variable {cc : ByteArray} {pc : Nat} {ls : Array Slot} {rest st0 : List Value} {A0 A : Nat → Prop} {H0 : Heap} {a : Array Value} {Γ : kG}
variable {S : Type} {wc ws wr : va_W} {w1 : S → va_W}
theorem kPn_S {b : Addr} {As : List Value} (hK : TK Γ s) (hO : va_AO RX0 s) (hP : va_P Γ.1 vwCl wc H) (hD : va_D A0 wc) : PreS s H (kPn Γ H.size wc (.ref b :: As)) (.ref b :: As) := ⟨fun a U g mk q => ⟨q.1, q.2.1, q.2.2.1, q.2.2.2.1, q.2.2.2.2.1.call, va_AO.moved (u := U) (U := U.calling g mk a) (Vm.Alike.refl U.vm) q.2.2.2.2.2⟩, fun U hU hW => ⟨rfl, by rw [hU], by rw [hU]; exact hP, hD.weaken (fun _ _ _ _ => trivial), hK.warm hW, va_AO.moved hW.alike hO⟩⟩
theorem wr_finn {mc ms : Nat} (hr : va_Run p l e R s m args below meth c H locs cells slots mc ms (F0 m pc ls st0) rest (va_Qv (fun _ : S => True) (fun u t => va_P Γ.1 vwCl (w1 u) t.heap ∧ va_D (va_A wc H.size) (w1 u)) (va_A wc H.size) a) (va_A wc H.size)) (hP : va_P Γ.1 vwCl ws H) (hD : va_D A0 ws) (hS : va_S A0 H0 H locs) (hA : ∀ q, H0.size ≤ q → A0 q) (isC isR : List Nat) (hC : isC.map (fun i => ws[i]?) = wc.map some) (hR : isR.map (fun i => ws[i]?) = wr.map some) (hn : va_nd isR = true) (hdis : ∀ i ∈ isR, i ∉ isC) (kk : ∀ (u : S) (H1 : Heap) (locs1 : List Loc), va_P Γ.1 vwCl (wr ++ w1 u) H1 → va_D A0 (wr ++ w1 u) → va_S A0 H0 H1 locs1 → W p l e R s m args below meth c H1 locs1 (cells + mc) (slots + ms) Q (F0 m (pc + 3) ls rest)) : W p l e R s m args below meth c H locs cells slots Q (F0 m pc ls st0) :=
  va_callv hr hS (fun q _ h => va_free hD hS hA isC hC q h) (va_free hD hS hA isC hC) (fun u t H1 locs1 ht _ _ hB _ hk1 hS1 => by
    obtain ⟨hP1, hD1⟩ := hB
    rw [ht] at hP1
    obtain ⟨x, y⟩ := va_join hP hD isC isR hC hR hn hdis hk1 (va_free hD hS hA isC hC) hP1 hD1
    exact kk u H1 locs1 x y hS1)
theorem wr_ofn {y : MethodName} {lv mc ms : Nat} {maxL sz : Nat} {av : List Value} {w0 : va_W} (hy : plainFor y = true) (hn : (lg_sl av).length ≤ maxL) {l0 : List (Nat × Value)} (hl0 : lv_args 0 av = l0) (body : ∀ p e R s m args below meth c Q A ls, kAt p l y cc maxL none s m args meth c Γ → R = (headSpec (wsq y cc maxL none) (rmX lv mc ms)).room → va_AO RX0 s → (∀ q : Nat, s.heap.size ≤ q → A q) → (∀ {pc ls H locs} (u : S), va_P Γ.1 vwCl (w1 u) H → va_D A (w1 u) → va_S A s.heap H locs → decode cc pc = .ok (.return_, 1) → W p l e R s m args below meth c H locs mc ms Q (F0 m pc ls [])) → va_P Γ.1 vwCl w0 s.heap → va_D A w0 → va_S A s.heap s.heap [] → lv_has ls maxL l0 → W p l e R s m args below meth c s.heap [] 0 0 Q (F0 m 0 ls [])) : WRn l y (wsq y cc maxL none) (rmX lv mc ms) mc ms Γ sz av w0 w1 := by
  refine va_MetF (cc := cc) (maxL := maxL) (ret := none) hy rfl ?_
  intro p e s m args below meth c s₁ B hml hv
  obtain ⟨rfl, rfl, hP, hD, hK, hO⟩ := hv
  have hl := lv_entry av (n := maxL) hn
  rw [hl0] at hl
  rw [lg_entry_eq]
  exact body p e _ s m _ below meth c _ (va_A w0 s.heap.size) _ ⟨B.exec, B.bytes, B.returns, hml, findClass_of_methodNamed B.named, fun w h => atoms_spec (ws := wsq y cc maxL none) B.pre w (List.mem_cons_of_mem _ h), B.notSynchronized, hK, (name_of_methodNamed B.named B.method).1⟩ rfl hO (fun q h => Or.inr h) (fun u hP hD hS hdg => W.vret B.exec B.bytes B.returns (fun t ht _ => ⟨⟨u, rfl, trivial, by rw [ht]; exact hP, hD⟩, hS.F ht⟩) hS.2.2 hdg B.notSynchronized) hP hD.self va_S.rf hl
/-- the class of an array, by the tables -/
theorem kn_cls {cA cB : ClassId} {t : FieldType} (h1 : va_RA s cA t) (h2 : va_RA s cB t) : cA = cB := by
  have f : ∀ {x : ClassId}, va_RA s x t → s.vm.findClass ("[" ++ t.toString) = some x := fun {x} h => by
    cases t with
    | object C => obtain ⟨kA, comp, -, -, -, h4⟩ := h; exact h4
    | _ => exact h
  exact Option.some.inj ((f h1).symm.trans (f h2))
theorem kn_newa {atype : ArrayType} {ty : FieldType} (k0 : Nat) {cA0 : ClassId} (ht : (gT Γ)[k0]? = some (cA0, ty)) (hexec : p.tables.exec = Jvm.exec) (hb : c.code = cc) (harr : (Cond.arrayClass (newarray.typeOf atype)).before args s = true) (hty : newarray.typeOf atype = ty) (hK : TK Γ s) (hP : va_P Γ.1 vwCl ws H) (hD : va_D A ws) (hS : va_S A H0 H locs) (hA : ∀ q, H0.size ≤ q → A q) {N' : Nat} {a0 : vp_A} (ha : ∀ cA : ClassId, vp_cell cA a0 = arrV cA N' (fun _ => defaultValue ty)) (hN : N' < 2147483648) (hbytes : N' * componentBytes ty ≤ 536870912) (hcells : cells + 1 ≤ R.cells) (hslots : slots + N' ≤ R.slots) (hdg : decode cc pc = .ok (.newarray atype, 2)) (kk : ∀ (q : Nat) (H1 : Heap), va_P Γ.1 vwCl (ws ++ [(q, .inl (cA0, a0))]) H1 → va_D A (ws ++ [(q, .inl (cA0, a0))]) → va_S A H0 H1 locs → W p l e R s m args below meth c H1 locs (cells + 1) (slots + N') Q (F0 m (pc + 2) ls (.ref q :: rest))) : W p l e R s m args below meth c H locs cells slots Q (F0 m pc ls (.int (nI N') :: rest)) :=
  va_newa hexec hb harr hty hK.1 hP hD hS hA ha (nI_pos hN) (nI_clamp hN) hbytes hcells hslots hdg (fun q cA H1 hK1 hP1 hD1 hS1 => by
    have e1 := (hK1.2 (gT Γ).length (cA, ty) (by rw [List.getElem?_append_right (Nat.le_refl _), Nat.sub_self]; rfl)).2
    obtain rfl := kn_cls e1 (hK.1.2 k0 _ ht).2
    exact kk q H1 hP1 hD1 hS1)
theorem kn_newq {own : String} {index : Nat} (hexec : p.tables.exec = Jvm.exec) (hb : c.code = cc) (hown : s.vm.findClass own = some m.cls) (hclink : (Cond.classLink own index RX0).before args s = true) (hO : va_AO RX0 s) (hK : TK Γ s) (hP : va_P Γ.1 vwCl ws H) (hD : va_D A ws) (hS : va_S A H0 H locs) (hA : ∀ q, H0.size ≤ q → A q) {N' : Nat} (hN : N' < 2147483648) (hbytes : N' * 4 ≤ 536870912) (hcells : cells + 1 ≤ R.cells) (hslots : slots + N' ≤ R.slots) (hdg : decode cc pc = .ok (.anewarray index, 3)) (kk : ∀ (q : Nat) (H1 : Heap), va_P Γ.1 vwCl (ws ++ [(q, .inl (Γ.2 4, N', .inr (.inr (.inr (.inr (fun _ => none))))))]) H1 → va_D A (ws ++ [(q, .inl (Γ.2 4, N', .inr (.inr (.inr (.inr (fun _ => none))))))]) → va_S A H0 H1 locs → W p l e R s m args below meth c H1 locs (cells + 1) (slots + N') Q (F0 m (pc + 3) ls (.ref q :: rest))) : W p l e R s m args below meth c H locs cells slots Q (F0 m pc ls (.int (nI N') :: rest)) :=
  va_newq hexec hb hown hclink hO hK.1 hP hD hS hA (nI_pos hN) (nI_clamp hN) hbytes hcells hslots hdg (fun q cA H1 hK1 hP1 hD1 hS1 => by
    have e1 := (hK1.2 (gT Γ).length (cA, .object RX0) (by rw [List.getElem?_append_right (Nat.le_refl _), Nat.sub_self]; rfl)).2
    obtain rfl := kn_cls e1 (hK.1.2 4 (Γ.2 4, .object RX0) rfl).2
    exact kk q H1 hP1 hD1 hS1)
end KIT4
