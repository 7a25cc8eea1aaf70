/-! methods that answer with a reference -/
def WRr {S : Type} (l : Launch) (y : MethodName) (ws : List Cond) (rm : Room) (Γ : kG) (av : List Value) (w0 : va_W) (w1 : S → va_W) (ra : Nat) (post : S → Prop) : Prop := Met l y ws rm (kPw Γ w0 av) (va_Qr post (fun u a t => a = ra ∧ kB Γ w1 u t) (kM w0)) 0 0 (kM w0)
section KIT3
variable {p : Program} {l : Launch} {e : Env} {R : Room} {s : State} {m : MethodId} {args : Array Value} {below : List Frame} {meth : Method} {c : Code} {H : Heap} {locs : List Loc} {cells slots : Nat} {Q : State → Prop}
variable {cc : ByteArray} {pc : Nat} {ls : Array Slot} {rest st0 : List Value} {A0 : Nat → Prop} {H0 : Heap} {a : Array Value} {Γ : kG}
variable {S : Type} {wc ws : va_W} {w1 : S → va_W}
theorem wr_finr {ra : Nat} {post : S → Prop} (hr : va_Run p l e R s m args below meth c H locs cells slots 0 0 (F0 m pc ls st0) rest (va_Qr post (fun u a t => a = ra ∧ kB Γ w1 u t) (kM wc) a) (kM wc)) (hP : va_P Γ.1 vwCl ws H) (hD : va_D A0 ws) (hS : va_S A0 H0 H locs) (is : List Nat) (hC : is.map (fun i => ws[i]?) = wc.map some) (ha : ∀ u, (w1 u).map Prod.fst = wc.map Prod.fst) (kk : ∀ (u : S) (H1 : Heap) (locs1 : List Loc), post u → va_P Γ.1 vwCl (kU is (w1 u) ws) H1 → va_D A0 (kU is (w1 u) ws) → va_S A0 H0 H1 locs1 → W p l e R s m args below meth c H1 locs1 cells slots Q (F0 m (pc + 3) ls (.ref ra :: rest))) : W p l e R s m args below meth c H locs cells slots Q (F0 m pc ls st0) :=
  va_callr hr hS (fun q _ h => kA_sub hD is hC q h) (kA_sub hD is hC) (fun u ra2 t H1 locs1 ht _ hw hB _ hk1 hS => by
    obtain ⟨rfl, hB⟩ := hB
    exact kk u H1 locs1 hw (kU_P hP hD is hC (ha u) (by rw [← ht]; exact hB) hk1) (kU_D hD is hC (ha u)) hS)
theorem wr_rret {ra : Nat} {n : String} {post : S → Prop} {A : Nat → Prop} (u : S) (hx : p.tables.exec = Jvm.exec) (hb : c.code = cc) (hr : meth.sig.returnType = some (.object n)) (hlk : meth.locks = false) (hP : va_P Γ.1 vwCl (w1 u) H) (hS : va_S A s.heap H locs) (hv : post u) (hdg : decode cc pc = .ok (.areturn, 1)) : W p l e R s m args below meth c H locs cells slots (MQ below (va_Qr post (fun u a t => a = ra ∧ kB Γ w1 u t) A) args s cells slots A) (F0 m pc ls [.ref ra]) :=
  W.aret (v := .ref ra) hx hb hr (Or.inl ⟨n, rfl⟩) (Or.inr ⟨ra, rfl⟩) (fun t ht _ => ⟨⟨u, ra, rfl, hv, rfl, by rw [kB, ht]; exact hP⟩, hS.F ht⟩) hS.2.2 hdg hlk
theorem wr_ofr {n : String} {y : MethodName} {lv : Nat} {maxL : Nat} {av : List Value} {w0 : va_W} {ra : Nat} {post : S → Prop} (hy : plainFor y = true) (hn : (lg_sl av).length ≤ maxL) {l0 : List (Nat × Value)} (hl0 : lv_args 0 av = l0) (body : ∀ p e R s m args below meth c Q A ls, kAt p l y cc maxL (some (.object n)) s m args meth c Γ → R = (headSpec (wsq y cc maxL (some (.object n))) (rmL lv)).room → (∀ {pc ls H locs} (u : S), va_P Γ.1 vwCl (w1 u) H → va_S A s.heap H locs → post u → decode cc pc = .ok (.areturn, 1) → W p l e R s m args below meth c H locs 0 0 Q (F0 m pc ls [.ref ra])) → va_P Γ.1 vwCl w0 s.heap → va_D A w0 → va_S A s.heap s.heap [] → lv_has ls maxL l0 → W p l e R s m args below meth c s.heap [] 0 0 Q (F0 m 0 ls [])) : WRr l y (wsq y cc maxL (some (.object n))) (rmL lv) Γ av w0 w1 ra post := by
  refine va_MetF (cc := cc) (maxL := maxL) (ret := some (.object n)) hy rfl ?_
  intro p e s m args below meth c s₁ B hml hv
  obtain ⟨rfl, hP, hD, hK⟩ := hv
  have hl := lv_entry av (n := maxL) hn
  rw [hl0] at hl
  rw [lg_entry_eq]
  exact body p e _ s m _ below meth c _ (kM w0) _ ⟨B.exec, B.bytes, B.returns, hml, findClass_of_methodNamed B.named, fun w h => atoms_spec (ws := wsq y cc maxL (some (.object n))) B.pre w (List.mem_cons_of_mem _ h), B.notSynchronized, hK, (name_of_methodNamed B.named B.method).1⟩ rfl (fun u hP hS hv hdg => wr_rret u B.exec B.bytes B.returns B.notSynchronized hP hS hv hdg) hP (va_D_kM hD) va_S.rf hl
end KIT3
theorem symG_g {g g2 : Nat → Nat} (h : eqG g g2) (hs : symG g) : symG g2 := fun i hi j hj => by rw [← h i hi, ← h j hj]; exact hs i hi j hj
def cnt (q : Nat → Bool) : Nat → Nat
  | 0 => 0
  | k + 1 => if q k then cnt q k + 1 else cnt q k
theorem eqG_lt {g g2 : Nat → Nat} (h : ∀ i, i < 14 → g i = g2 i) (hg : ∀ i, i < 14 → g2 i < 16384) : ∀ i, i < 14 → g i < 16384 := fun i hi => by rw [h i hi]; exact hg i hi
