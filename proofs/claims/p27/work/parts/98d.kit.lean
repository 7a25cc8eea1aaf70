section KITW
variable {p : Program} {l : Launch} {e : Env} {R : Room} {s : State} {m : MethodId} {args : Array Value} {below : List Frame} {meth : Method} {c : Code} {H : Heap} {locs : List Loc} {cells slots : Nat} {Q : State → Prop}
variable {cc : ByteArray} {pc : Nat} {ls : Array Slot} {rest : List Value}
theorem nb_icmp_gt (hx : p.tables.exec = Jvm.exec) (hcc : c.code = cc) {a b : Nat} {off : Int} {tgt : Nat} (ha : a < 2147483648) (hb : b < 2147483648) (hdg : decode cc pc = .ok (.if_icmp .gt off, 3)) (ht : (pc : Int) + off = (tgt : Int))
    (kt : b < a → W p l e R s m args below meth c H locs cells slots Q (F0 m tgt ls rest)) (kf : a ≤ b → W p l e R s m args below meth c H locs cells slots Q (F0 m (pc + 3) ls rest)) : W p l e R s m args below meth c H locs cells slots Q (F0 m pc ls (.int (nI b) :: .int (nI a) :: rest)) :=
  lv_icmp_gt hx hcc hdg ht (fun h => kt ((nI_ltI hb ha).mp h)) (fun h => kf (by have h2 := mt (nI_ltI hb ha).mpr h; omega))
end KITW
section KITV
variable {p : Program} {l : Launch} {e : Env} {R : Room} {s : State} {m : MethodId} {args : Array Value} {below : List Frame} {meth : Method} {c : Code} {H : Heap} {locs : List Loc} {cells slots : Nat} {Q : State → Prop} {A : Nat → Prop} {Γ : kG}
theorem kPs_S {b L k : Nat} {xs : Nat → Int32} (hK : TK Γ s) (hX : va_X b L xs s s.heap) (hbl : b < s.heap.size) (hbA : ¬ A b) (hS : va_S A s.heap H locs) : PreS s H (kPs Γ b L xs k) [.ref b, .int (nI k)] :=
  ⟨fun a U g mk q => ⟨q.1, va_X.moved (u := U) (U := U.calling g mk a) (Vm.Alike.refl U.vm) q.2.1, q.2.2.call⟩, fun U hU hW => ⟨rfl, by rw [hU]; exact (va_X.moved hW.alike hX).kept (hS.2.1 b hbl hbA), hK.warm hW⟩⟩
end KITV
section KCALL2
variable {R : Room} {s : State} {args : Array Value} {own host : String} {idx k lv mc ms : Nat} {y : MethodName} {c : ByteArray} {r : Option FieldType} {rm : Room}
theorem kcwI (n : Nat) (hts : ∀ w ∈ wsAll, w.before args s = true) (kv : kcI y c k n) (hl : Cond.methodLink own idx y ∈ wsAll) (hR : (rmX lv mc ms).frames + 1 ≤ R.frames ∧ 8 + (k + 11) + (rmX lv mc ms).locals ≤ R.locals) : CallB R s args own idx y c k none (wsq y c k none) (rmX lv mc ms) mc ms n ∧ y.name = "<init>" ∧ (Cond.instanceMethod y).before args s = true :=
  ⟨callB_of n hts (pay_q kv.2.2.2.1) rfl rfl rfl (hts _ kv.2.2.1) (hts _ hl) kv.2.2.2.2 hR, kv.2.1, hts _ kv.1⟩
end KCALL2
