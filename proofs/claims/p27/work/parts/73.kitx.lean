abbrev jIA : String := "java/lang/IllegalArgumentException"
abbrev jIO : String := "java/lang/IndexOutOfBoundsException"
abbrev jIS : String := "java/lang/IllegalStateException"
abbrev jRE : List String := ["java/lang/RuntimeException", "java/lang/Exception"]
def iS (C : String) : MethodName := ⟨C, "<init>", "(Ljava/lang/String;)V"⟩
def xbL : List Cond := [.castable jIA jIA, .castable jIO jIO, .castable jIS jIS, .declares (iS "java/lang/RuntimeException"), .declares (iS "java/lang/Exception"), .declares (iS Bundle.tN)]
def xsL : List (Nat × String) := [(72, "there is no room for a further node"), (91, "the nodes can not be joined"), (107, "there is no edge between the nodes"), (122, "no node is there"), (140, "the character code is not 33 to 126"), (146, "the buffer is full"), (157, "the buffer has a syntax error"), (179, "there is no snapshot in the slot"), (182, "there is no saved state"), (221, "there is no such tree"), (254, "the rank is below 0"), (262, "the mask has others than nodes that are there"), (302, "there is no such node"), (304, "the node was taken"), (306, "the slot is out of range"), (308, "there is nothing of this number to tell")]
theorem xbad_IA : ∀ w ∈ (vx_atS RX6 142 jIA jRE).filter (fun w => !goodWord w), w ∈ xbL := by decide +kernel
theorem xbad_IO : ∀ w ∈ (vx_atS RX6 223 jIO jRE).filter (fun w => !goodWord w), w ∈ xbL := by decide +kernel
theorem xbad_IS : ∀ w ∈ (vx_atS RX6 74 jIS jRE).filter (fun w => !goodWord w), w ∈ xbL := by decide +kernel
theorem xgd_IA : ∀ w ∈ (vx_atS RX6 142 jIA jRE).filter goodWord, w ∈ wsAll := fun w h => wsAll_of ((by decide +kernel : ∀ w ∈ (vx_atS RX6 142 jIA jRE).filter goodWord, w ∈ lw_tbl) w h) (List.mem_filter.mp h).2
theorem xgd_IO : ∀ w ∈ (vx_atS RX6 223 jIO jRE).filter goodWord, w ∈ wsAll := fun w h => wsAll_of ((by decide +kernel : ∀ w ∈ (vx_atS RX6 223 jIO jRE).filter goodWord, w ∈ lw_tbl) w h) (List.mem_filter.mp h).2
theorem xgd_IS : ∀ w ∈ (vx_atS RX6 74 jIS jRE).filter goodWord, w ∈ wsAll := fun w h => wsAll_of ((by decide +kernel : ∀ w ∈ (vx_atS RX6 74 jIS jRE).filter goodWord, w ∈ lw_tbl) w h) (List.mem_filter.mp h).2
theorem xot_IA : ∀ w ∈ Cond.classLink RX6 138 jIA :: Cond.initialized jIA :: vx_atS RX6 142 jIA jRE, vx_ot w = true := by decide +kernel
theorem xot_IO : ∀ w ∈ Cond.classLink RX6 219 jIO :: Cond.initialized jIO :: vx_atS RX6 223 jIO jRE, vx_ot w = true := by decide +kernel
theorem xot_IS : ∀ w ∈ Cond.classLink RX6 70 jIS :: Cond.initialized jIS :: vx_atS RX6 74 jIS jRE, vx_ot w = true := by decide +kernel
theorem xk_IA : Cond.classLink RX6 138 jIA ∈ wsAll ∧ Cond.initialized jIA ∈ wsAll := ⟨wsAll_of (by decide +kernel) (by decide +kernel), wsAll_of (by decide +kernel) (by decide +kernel)⟩
theorem xk_IO : Cond.classLink RX6 219 jIO ∈ wsAll ∧ Cond.initialized jIO ∈ wsAll := ⟨wsAll_of (by decide +kernel) (by decide +kernel), wsAll_of (by decide +kernel) (by decide +kernel)⟩
theorem xk_IS : Cond.classLink RX6 70 jIS ∈ wsAll ∧ Cond.initialized jIS ∈ wsAll := ⟨wsAll_of (by decide +kernel) (by decide +kernel), wsAll_of (by decide +kernel) (by decide +kernel)⟩
def xE (ik ic : Nat) (E : String) : Prop := Bundle.fit E = true ∧ (Cond.classLink RX6 ik E ∈ wsAll ∧ Cond.initialized E ∈ wsAll) ∧ (∀ w ∈ (vx_atS RX6 ic E jRE).filter goodWord, w ∈ wsAll) ∧ (∀ w ∈ (vx_atS RX6 ic E jRE).filter (fun w => !goodWord w), w ∈ xbL) ∧ (∀ w ∈ Cond.classLink RX6 ik E :: Cond.initialized E :: vx_atS RX6 ic E jRE, vx_ot w = true)
theorem xE_IA : xE 138 142 jIA := ⟨by decide +kernel, xk_IA, xgd_IA, xbad_IA, xot_IA⟩
theorem xE_IO : xE 219 223 jIO := ⟨by decide +kernel, xk_IO, xgd_IO, xbad_IO, xot_IO⟩
theorem xE_IS : xE 70 74 jIS := ⟨by decide +kernel, xk_IS, xgd_IS, xbad_IS, xot_IS⟩
theorem jRE_fit : ∀ n ∈ jRE, Bundle.fit n = true := by decide +kernel
theorem xbL_tab : ∀ w ∈ xbL, w.onTables = true := by decide +kernel
def isXb : Cond → Bool
  | .castable .. => true
  | .declares .. => true
  | _ => false
theorem xbL_is : ∀ w ∈ xbL, isXb w = true := by decide +kernel
theorem xb_warm {s U : State} {w : Cond} (h : isXb w = true) (hW : s.WarmedH U.vm) (k : va_Nw w s) : va_Nw w U := by
  cases w <;> first | exact va_Nw.warmC hW k | exact va_Nw.warmD hW k | (exact absurd h (by simp [isXb]))
def XS (A : Nat → Prop) (U : State) (H : Heap) : Prop := (∀ w ∈ xbL, va_Nw w U) ∧ vx_Zq Bundle.tN "UNASSIGNED_STACK" Bundle.steD A U H ∧ vx_Zq Bundle.tN "SUPPRESSED_SENTINEL" Bundle.listD A U H ∧ (∀ q ∈ xsL, ∃ a : Nat, vk_R RX6 q.1 q.2 a U)
theorem XS.warm {A B : Nat → Prop} {s U : State} {H H1 : Heap} (h : XS A s H) (hW : s.WarmedH U.vm) (hAB : ∀ q, B q → A q) (hk : ∀ q : Nat, q < H.size → ¬ A q → H1[q]? = H[q]?) : XS B U H1 :=
  ⟨fun w hw => xb_warm (xbL_is w hw) hW (h.1 w hw), vx_Zq.narrow (vx_Zq.moved hW.alike (h.2.1.kept hk)) hAB, vx_Zq.narrow (vx_Zq.moved hW.alike (h.2.2.1.kept hk)) hAB, fun q hq => (h.2.2.2 q hq).elim fun a ha => ⟨a, vk_R.warm hW ha⟩⟩
theorem XS.call {A : Nat → Prop} {U : State} {H : Heap} {g : JFrame} {mk : MethodId} {a : Array Value} (h : XS A U H) : XS A (U.calling g mk a) H :=
  ⟨fun w hw => va_tabs (u := U) (U := U.calling g mk a) (xbL_tab w hw) rfl (h.1 w hw), vx_Zq.moved (u := U) (U := U.calling g mk a) (Vm.Alike.refl U.vm) h.2.1, vx_Zq.moved (u := U) (U := U.calling g mk a) (Vm.Alike.refl U.vm) h.2.2.1, fun q hq => (h.2.2.2 q hq).elim fun b hb => ⟨b, vk_R.same (u := U) (U := U.calling g mk a) rfl hb⟩⟩
def kPx (Γ : kG) (w0 : va_W) (av : List Value) : Array Value → State → Prop := fun v U => kPw Γ w0 av v U ∧ XS (kM w0) U U.heap
def xQ : Array Value → State → Outcome → State → Prop := va_Qv (fun _ : Unit => False) (fun _ _ => True) (fun _ => False)
def xX (Γ : kG) (w : va_W) (E : String) (A : Nat → Prop) : String → State → State → Prop := vx_X (fun _ : Unit => True) (fun E9 _ t => E9 = E ∧ va_P Γ.1 vwCl w t.heap) A
def WX (l : Launch) (y : MethodName) (ws : List Cond) (rm : Room) (Γ : kG) (av : List Value) (w0 : va_W) (E : String) : Prop := vx_Met l y ws rm (kPx Γ w0 av) xQ (xX Γ w0 E (kM w0)) 1 6 (kM w0)
section KITX
variable {p : Program} {l : Launch} {e : Env} {R : Room} {s : State} {m : MethodId} {args : Array Value} {below : List Frame} {meth : Method} {c : Code} {H : Heap} {locs : List Loc} {cells slots : Nat} {Q : State → Prop}
variable {cc : ByteArray} {pc : Nat} {ls : Array Slot} {rest st0 : List Value} {A : Nat → Prop} {H0 : Heap} {a : Array Value} {Γ : kG}
theorem kM_A {w : va_W} (hD : va_D A w) : ∀ q, kM w q → A q := by
  intro q hq
  obtain ⟨z, hz, rfl⟩ := List.mem_map.mp hq
  obtain ⟨i, hi⟩ := List.getElem?_of_mem hz
  exact hD.2 i z hi
theorem kPx_V {C : String} {b : Addr} {As : List Value} {wc : va_W} (hK : TK Γ s) (hv : ∃ cellB : Cell, H[b]? = some cellB ∧ cellB.vm.isStatics = false ∧ s.vm.findClass C = some cellB.cls) (hP : va_P Γ.1 vwCl wc H) (hD : va_D A wc) (hX : XS A s s.heap) (hS : va_S A s.heap H locs) : PreV s H C b (kPx Γ wc (.ref b :: As)) As :=
  ⟨fun a U g mk q => ⟨⟨q.1.1, q.1.2.1, q.1.2.2.1, q.1.2.2.2.call⟩, q.2.call⟩, hv, fun U hU hW => ⟨⟨rfl, by rw [hU]; exact hP, hD.weaken (fun _ _ _ _ => trivial), hK.warm hW⟩, by rw [hU]; exact hX.warm hW (kM_A hD) hS.2.1⟩⟩
theorem kPx_S {As : List Value} {wc : va_W} (hK : TK Γ s) (hP : va_P Γ.1 vwCl wc H) (hD : va_D A wc) (hX : XS A s s.heap) (hS : va_S A s.heap H locs) : PreS s H (kPx Γ wc As) As :=
  ⟨fun a U g mk q => ⟨⟨q.1.1, q.1.2.1, q.1.2.2.1, q.1.2.2.2.call⟩, q.2.call⟩, fun U hU hW => ⟨⟨rfl, by rw [hU]; exact hP, hD.weaken (fun _ _ _ _ => trivial), hK.warm hW⟩, by rw [hU]; exact hX.warm hW (kM_A hD) hS.2.1⟩⟩
theorem xt_prop {E : String} {ws wc : va_W} (hr : vx_Run p l e R s m args below meth c H locs 0 0 1 6 (F0 m pc ls st0) rest (xQ a) (xX Γ wc E (kM wc)) (kM wc)) (hlk : meth.locks = false) (htb : ∀ x ∈ c.exceptionTable.toList, False) (hP : va_P Γ.1 vwCl ws H) (hD : va_D A ws) (hS : va_S A s.heap H locs) (is : List Nat) (hC : is.map (fun i => ws[i]?) = wc.map some) (hU : kU is wc ws = ws) : W p l e R s m args below meth c H locs 0 0 (vx_MQ below xQ (xX Γ ws E A) args s 1 6 A) (F0 m pc ls st0) := by
  refine vx_callv hr hS (fun q _ h => h.elim) (kA_sub hD is hC) (fun q _ h => kA_sub hD is hC q h) ?_ ?_
  · intro E9 ce q9 u t H1 locs1 ht hal _ hB hle hk1 hS1 hc hv hcl
    obtain ⟨hE, hP1⟩ := hB
    subst hE
    refine vx_out (fun x hx => (htb x hx).elim) hlk hc hv hcl ?_ hS1.2.2 (Nat.le_refl _) (Nat.le_refl _)
    intro t' ht' _
    refine ⟨(), trivial, ⟨rfl, ?_⟩, hS1.F ht'⟩
    rw [ht', ← hU]
    rw [ht] at hP1
    exact kU_P hP hD is hC rfl hP1 hk1
  · intro u t H1 locs1 _ _ hF
    exact hF.elim
theorem xt_hx {E : String} {w : va_W} (hP : va_P Γ.1 vwCl w H) (hS : va_S A s.heap H locs) (t : State) (h1 : H.size ≤ t.heap.size) (h2 : ∀ q : Nat, q < H.size → t.heap[q]? = H[q]?) : xX Γ w E A E s t :=
  ⟨(), trivial, ⟨rfl, hP.kept fun k q hk => h2 q.1 (hP k q hk).lt⟩, Nat.le_trans hS.1 h1, fun q hq hA => (h2 q (Nat.lt_of_lt_of_le hq hS.1)).trans (hS.2.1 q hq hA)⟩
theorem xt_thr {E text : String} {ik ic is lv nL : Nat} {wz : List Cond} {w : va_W} (hx : p.tables.exec = Jvm.exec) (hb : c.code = cc) (hml : c.maxLocals = nL) (hown : s.vm.findClass RX6 = some m.cls) (hts : ∀ w ∈ wsAll, w.before args s = true) (hlk : meth.locks = false) (hls : l.stackTraces = false) (htb : ∀ x ∈ c.exceptionTable.toList, False) (hXS : XS A s s.heap) (hR : R = (headSpec wz (rmX lv 1 6)).room) (hlv : 6 ≤ lv) (hP : va_P Γ.1 vwCl w H) (hS : va_S A s.heap H locs) (hl : ls.size = nL) (hE : xE ik ic E) (hst : (is, text) ∈ xsL)
    (d0 : decode cc pc = .ok (.new ik, 3)) (d3 : decode cc (pc + 3) = .ok (.dup, 1)) (d4 : decode cc (pc + 4) = .ok (.ldc is, 2)) (d6 : decode cc (pc + 6) = .ok (.invokespecial ic, 3)) (d9 : decode cc (pc + 9) = .ok (.athrow, 1)) :
    W p l e R s m args below meth c H locs 0 0 (vx_MQ below xQ (xX Γ w E A) args s 1 6 A) (F0 m pc ls []) := by
  obtain ⟨sa, hsa⟩ := hXS.2.2.2 _ hst
  subst hR
  exact vx_throwS (names := jRE) (A := A) (sa := sa) hx hb hls hown hE.1 jRE_fit (hts _ hE.2.1.1) (hts _ hE.2.1.2) hsa (vx_hat (fun w h => hts w (hE.2.2.1 w h)) hE.2.2.2.1 (fun w h => va_tabs (xbL_tab w h) rfl (hXS.1 w h))) hE.2.2.2.2 hXS.2.1 hXS.2.2.1 hS (hl.trans hml.symm) d0 d3 d4 d6 d9 (fun x hx => (htb x hx).elim)
    (by show 2 + 3 < lv; omega) (by show 0 + (13 * (2 + 1) + 43) ≤ 64 * lv; omega) (by show 0 + 1 ≤ 1; omega) (by show 0 + 6 ≤ 6; omega) hlk (fun t _ h1 h2 => xt_hx hP hS t h1 h2) hS.2.2 (Nat.le_refl _) (Nat.le_refl _)
theorem xt_thrW {E text : String} {ik ic is lv nL : Nat} {wz : List Cond} {w : va_W} (hx : p.tables.exec = Jvm.exec) (hb : c.code = cc) (hml : c.maxLocals = nL) (hown : s.vm.findClass RX6 = some m.cls) (hts : ∀ w ∈ wsAll, w.before args s = true) (hlk : meth.locks = false) (hls : l.stackTraces = false) (htb : ∀ x ∈ c.exceptionTable.toList, False) (hXS : XS A s s.heap) (hR : R = (headSpec wz (rmX lv 1 6)).room) (hlv : 6 ≤ lv) (hP : va_P Γ.1 vwCl w H) (hS : va_S A s.heap H locs) (hl : ls.size = nL) (hE : xE ik ic E) (hst : (is, text) ∈ xsL)
    (d0 : decode cc pc = .ok (.new ik, 3)) (d3 : decode cc (pc + 3) = .ok (.dup, 1)) (d4 : decode cc (pc + 4) = .ok (.ldc_w is, 3)) (d7 : decode cc (pc + 7) = .ok (.invokespecial ic, 3)) (d10 : decode cc (pc + 10) = .ok (.athrow, 1)) :
    W p l e R s m args below meth c H locs 0 0 (vx_MQ below xQ (xX Γ w E A) args s 1 6 A) (F0 m pc ls []) := by
  obtain ⟨sa, hsa⟩ := hXS.2.2.2 _ hst
  subst hR
  exact vx_throwSW (names := jRE) (A := A) (sa := sa) hx hb hls hown hE.1 jRE_fit (hts _ hE.2.1.1) (hts _ hE.2.1.2) hsa (vx_hat (fun w h => hts w (hE.2.2.1 w h)) hE.2.2.2.1 (fun w h => va_tabs (xbL_tab w h) rfl (hXS.1 w h))) hE.2.2.2.2 hXS.2.1 hXS.2.2.1 hS (hl.trans hml.symm) d0 d3 d4 d7 d10 (fun x hx => (htb x hx).elim)
    (by show 2 + 3 < lv; omega) (by show 0 + (13 * (2 + 1) + 43) ≤ 64 * lv; omega) (by show 0 + 1 ≤ 1; omega) (by show 0 + 6 ≤ 6; omega) hlk (fun t _ h1 h2 => xt_hx hP hS t h1 h2) hS.2.2 (Nat.le_refl _) (Nat.le_refl _)
theorem xt_of {y : MethodName} {lv maxL : Nat} {av : List Value} {w0 : va_W} {E : String} {ret : Option FieldType} (hy : plainName y.cls = true) (hn : (lg_sl av).length ≤ maxL) {l0 : List (Nat × Value)} (hl0 : lv_args 0 av = l0)
    (body : ∀ p e R s m args below meth c Q A ls, kAt p l y cc maxL ret s m args meth c Γ → R = (headSpec (wsq y cc maxL ret) (rmX lv 1 6)).room → (Q = vx_MQ below xQ (xX Γ w0 E A) args s 1 6 A ∧ (∀ x ∈ c.exceptionTable.toList, False) ∧ XS A s s.heap) → va_P Γ.1 vwCl w0 s.heap → va_D A w0 → va_S A s.heap s.heap [] → lv_has ls maxL l0 →
      W p l e R s m args below meth c s.heap [] 0 0 Q (F0 m 0 ls [])) : WX l y (wsq y cc maxL ret) (rmX lv 1 6) Γ av w0 E := by
  refine vx_ofW (cc := cc) (maxL := maxL) (ret := ret) hy rfl ?_
  intro p e s m args below meth c s₁ B hml ht hv
  obtain ⟨⟨rfl, hP, hD, hK⟩, hX⟩ := hv
  have hl := lv_entry av (n := maxL) hn
  rw [hl0] at hl
  rw [lg_entry_eq]
  exact body p e _ s m _ below meth c _ (kM w0) _ ⟨B.exec, B.bytes, B.returns, hml, findClass_of_methodNamed B.named, fun w h => atoms_spec (ws := wsq y cc maxL ret) B.pre w (List.mem_cons_of_mem _ h), B.notSynchronized, hK, (name_of_methodNamed B.named B.method).1⟩ rfl ⟨rfl, ht, hX⟩ hP (va_D_kM hD) va_S.rf hl
end KITX
