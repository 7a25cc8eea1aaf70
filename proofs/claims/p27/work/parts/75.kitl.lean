abbrev wsw (y : MethodName) (c : ByteArray) (k : Nat) (r : Option FieldType) (hh : List (Nat × Nat × Nat × Nat)) : List Cond := Cond.codeWith y c k r hh :: wsAll
def kcW (y : MethodName) (c : ByteArray) (k : Nat) (r : Option FieldType) (hh : List (Nat × Nat × Nat × Nat)) (n : Nat) : Prop := .static y ∈ wsAll ∧ .initialized y.cls ∈ wsAll ∧ .codeWith y c k r hh ∈ wsAll ∧ kcD y n
theorem pay_w {y : MethodName} {c : ByteArray} {k : Nat} {r : Option FieldType} {hh : List (Nat × Nat × Nat × Nat)} (h5 : Cond.codeWith y c k r hh ∈ wsAll) : GoodIn wsAll (wsw y c k r hh) := fun w h => by
  have hm : w ∈ wsAll := by
    rcases List.mem_cons.mp h with rfl | h
    · exact h5
    · exact h
  exact ⟨hm, good_of_word (wsAll_in hm).2⟩
theorem kcwSW {R : Room} {s : State} {args : Array Value} {own : String} {idx k lv mc ms : Nat} {y : MethodName} {c : ByteArray} {r : Option FieldType} {hh : List (Nat × Nat × Nat × Nat)} (n : Nat) (hts : ∀ w ∈ wsAll, w.before args s = true) (kv : kcW y c k r hh n) (hl : Cond.methodLink own idx y ∈ wsAll) (hR : (rmX lv mc ms).frames + 1 ≤ R.frames ∧ 8 + (k + 11) + (rmX lv mc ms).locals ≤ R.locals) : vx_CSW R s args own idx y c k r hh (wsw y c k r hh) (rmX lv mc ms) mc ms n := by
  refine ⟨⟨rfl, rfl, hR.1, hR.2, pay_in hts (pay_w kv.2.2.1), List.mem_cons_self⟩, hts _ kv.2.2.1, hts _ kv.2.1, ⟨kv.2.2.2.1, kv.2.2.2.2.1⟩, fun sig h => ?_, hts _ hl, hts _ kv.1⟩
  have h2 := kv.2.2.2.2.2
  rw [h] at h2
  exact (Option.some.inj h2).symm
def XN (U : State) : Prop := va_Nc jIS jIO U ∧ va_Nc jIS jIA U ∧ va_Nc jIA jIO U
theorem XN.warm {s U : State} (h : XN s) (hW : s.WarmedH U.vm) : XN U := ⟨h.1.moved hW.alike, h.2.1.moved hW.alike, h.2.2.moved hW.alike⟩
theorem XN.call {U : State} {g : JFrame} {mk : MethodId} {a : Array Value} (h : XN U) : XN (U.calling g mk a) := ⟨va_Nc.moved (u := U) (U := U.calling g mk a) (Vm.Alike.refl U.vm) h.1, va_Nc.moved (u := U) (U := U.calling g mk a) (Vm.Alike.refl U.vm) h.2.1, va_Nc.moved (u := U) (U := U.calling g mk a) (Vm.Alike.refl U.vm) h.2.2⟩
def kPy (Γ : kG) (w0 : va_W) (av : List Value) : Array Value → State → Prop := fun v U => kPx Γ w0 av v U ∧ XN U
def WT (l : Launch) (y : MethodName) (ws : List Cond) (rm : Room) (Γ : kG) (av : List Value) (w0 : va_W) (k : Int32) : Prop := Met l y ws rm (kPy Γ w0 av) (va_Qi (fun (r : Int32) (_ : Unit) => r = k) (kB Γ (fun _ : Unit => w0)) (kM w0)) 1 6 (kM w0)
section KITL
variable {p : Program} {l : Launch} {e : Env} {R : Room} {s : State} {m : MethodId} {args : Array Value} {below : List Frame} {meth : Method} {c : Code} {H : Heap} {locs : List Loc} {cells slots : Nat} {Q : State → Prop}
variable {cc : ByteArray} {pc : Nat} {ls : Array Slot} {rest st0 : List Value} {A : Nat → Prop} {H0 : Heap} {a : Array Value} {Γ : kG}
theorem kPy_S {As : List Value} {wc : va_W} (hK : TK Γ s) (hP : va_P Γ.1 vwCl wc H) (hD : va_D A wc) (hX : XS A s s.heap) (hN : XN s) (hS : va_S A s.heap H locs) : PreS s H (kPy Γ wc As) As :=
  ⟨fun a U g mk q => ⟨(kPx_S hK hP hD hX hS).1 a U g mk q.1, q.2.call⟩, fun U hU hW => ⟨(kPx_S hK hP hD hX hS).2 U hU hW, hN.warm hW⟩⟩
theorem wl_ofi {S : Type} {w1 : S → va_W} {y : MethodName} {lv : Nat} {maxL : Nat} {hh : List (Nat × Nat × Nat × Nat)} {av : List Value} {w0 : va_W} {post : Int32 → S → Prop} (hy : plainName y.cls = true) (hn : (lg_sl av).length ≤ maxL) {l0 : List (Nat × Value)} (hl0 : lv_args 0 av = l0)
    (body : ∀ p e R s m args below meth c Q A ls, kAt p l y cc maxL (some .int) s m args meth c Γ → R = (headSpec (wsw y cc maxL (some .int) hh) (rmL lv)).room → (∀ {pc ls H locs} {v : Int32} (u : S), va_P Γ.1 vwCl (w1 u) H → va_S A s.heap H locs → post v u → decode cc pc = .ok (.ireturn, 1) → W p l e R s m args below meth c H locs 0 0 Q (F0 m pc ls [.int v])) → va_P Γ.1 vwCl w0 s.heap → va_D A w0 → va_S A s.heap s.heap [] → lv_has ls maxL l0 →
      W p l e R s m args below meth c s.heap [] 0 0 Q (F0 m 0 ls [])) : WRi l y (wsw y cc maxL (some .int) hh) (rmL lv) Γ av w0 w1 post := by
  refine va_MetW (cc := cc) (maxL := maxL) (ret := some .int) (hh := hh) hy rfl ?_
  intro p e s m args below meth c s₁ B hml hv
  obtain ⟨rfl, hP, hD, hK⟩ := hv
  have hl := lv_entry av (n := maxL) hn
  rw [hl0] at hl
  rw [lg_entry_eq]
  exact body p e _ s m _ below meth c _ (kM w0) _ ⟨B.exec, B.bytes, B.returns, hml, findClass_of_methodNamed B.named, fun w h => atoms_spec (ws := wsw y cc maxL (some .int) hh) B.pre w (List.mem_cons_of_mem _ h), B.notSynchronized, hK, (name_of_methodNamed B.named B.method).1⟩ rfl (fun u hP hS hv hdg => wr_iret u B.exec B.bytes B.returns B.notSynchronized hP hS hv hdg) hP (va_D_kM hD) va_S.rf hl
theorem wl_ofx {y : MethodName} {lv : Nat} {maxL : Nat} {hh : List (Nat × Nat × Nat × Nat)} {av : List Value} {w0 : va_W} {k : Int32} (hy : plainName y.cls = true) (hn : (lg_sl av).length ≤ maxL) {l0 : List (Nat × Value)} (hl0 : lv_args 0 av = l0)
    (body : ∀ p e R s m args below meth c Q A ls, kAt p l y cc maxL (some .int) s m args meth c Γ → R = (headSpec (wsw y cc maxL (some .int) hh) (rmX lv 1 6)).room → (c.exceptionTable.toList = tableOf hh ∧ XS A s s.heap ∧ XN s ∧ (∀ {pc ls H locs} {v : Int32} (_ : Unit), va_P Γ.1 vwCl w0 H → va_S A s.heap H locs → v = k → decode cc pc = .ok (.ireturn, 1) → W p l e R s m args below meth c H locs 1 6 Q (F0 m pc ls [.int v]))) → va_P Γ.1 vwCl w0 s.heap → va_D A w0 → va_S A s.heap s.heap [] → lv_has ls maxL l0 →
      W p l e R s m args below meth c s.heap [] 0 0 Q (F0 m 0 ls [])) : WT l y (wsw y cc maxL (some .int) hh) (rmX lv 1 6) Γ av w0 k := by
  refine va_MetW (cc := cc) (maxL := maxL) (ret := some .int) (hh := hh) hy rfl ?_
  intro p e s m args below meth c s₁ B hml hv
  obtain ⟨⟨⟨rfl, hP, hD, hK⟩, hX⟩, hN⟩ := hv
  have hl := lv_entry av (n := maxL) hn
  rw [hl0] at hl
  rw [lg_entry_eq]
  exact body p e _ s m _ below meth c _ (kM w0) _ ⟨B.exec, B.bytes, B.returns, hml, findClass_of_methodNamed B.named, fun w h => atoms_spec (ws := wsw y cc maxL (some .int) hh) B.pre w (List.mem_cons_of_mem _ h), B.notSynchronized, hK, (name_of_methodNamed B.named B.method).1⟩ rfl ⟨vx_table (x := y) B (atoms_spec (ws := wsw y cc maxL (some .int) hh) B.pre _ List.mem_cons_self), hX, hN, fun {pc ls H locs v} u hP hS hv hdg => wr_iret (w1 := fun _ : Unit => w0) u B.exec B.bytes B.returns B.notSynchronized hP hS hv hdg⟩ hP (va_D_kM hD) va_S.rf hl
theorem xl_call {E own : String} {ws wc : va_W} {hh : List (Nat × Nat × Nat × Nat)} (pre : List ExceptionTableEntry) (x : ExceptionTableEntry) (suf : List ExceptionTableEntry) (hr : vx_Run p l e R s m args below meth c H locs 0 0 1 6 (F0 m pc ls st0) rest (xQ a) (xX Γ wc E (kM wc)) (kM wc)) (hown : s.vm.findClass own = some m.cls) (htb : c.exceptionTable.toList = tableOf hh) (hXS : XS A s s.heap) (hP : va_P Γ.1 vwCl ws H) (hD : va_D A ws) (hS : va_S A s.heap H locs) (is : List Nat) (hC : is.map (fun i => ws[i]?) = wc.map some) (hU : kU is wc ws = ws)
    (hsp : tableOf hh = pre ++ x :: suf) (hcs : Cond.castable E E ∈ xbL) (hlk : (Cond.classLink own x.catchType E).before args s = true) (hpass : ∀ z ∈ pre, covers z pc = false ∨ (z.catchType ≠ 0 ∧ ∃ nm : String, (Cond.classLink own z.catchType nm).before args s = true ∧ va_Nc E nm s)) (hcv : covers x pc = true) (h0 : x.catchType ≠ 0)
    (kk : ∀ (q : Nat) (H : Heap) (locs : List Loc), va_P Γ.1 vwCl ws H → va_S A s.heap H locs → W p l e R s m args below meth c H locs 1 6 Q (F0 m x.handlerPc ls [.ref q])) : W p l e R s m args below meth c H locs 0 0 Q (F0 m pc ls st0) := by
  refine vx_callv hr hS (fun q _ h => h.elim) (kA_sub hD is hC) (fun q _ h => kA_sub hD is hC q h) ?_ ?_
  · intro E9 ce q9 u t H1 locs1 ht hal _ hB hle hk1 hS1 hc hv hcl
    obtain ⟨hE, hP1⟩ := hB
    subst hE
    refine vx_catch hown pre x suf (htb.trans hsp) hpass hcv h0 hlk (va_tabs (xbL_tab _ hcs) rfl (hXS.1 _ hcs)) hc hv hcl ?_
    refine kk q9 H1 locs1 ?_ hS1
    rw [← hU]
    rw [ht] at hP1
    exact kU_P hP hD is hC rfl hP1 hk1
  · intro u t H1 locs1 _ _ hF
    exact hF.elim
end KITL
