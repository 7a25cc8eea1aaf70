def nwL : List Cond := [
.fieldLinkNest "TreeKayles" 119 "TreeKayles$Forest" "there" "I" "TreeKayles",
  .fieldLinkNest "TreeKayles" 143 "TreeKayles$Text" "size" "I" "TreeKayles",
  .fieldLinkNest "TreeKayles" 181 "TreeKayles$History" "size" "I" "TreeKayles",
  .fieldLinkNest "TreeKayles" 242 "TreeKayles$Forest" "moves" "I" "TreeKayles",
  .fieldLinkNest "TreeKayles" 66 "TreeKayles$Forest" "nodes" "I" "TreeKayles",
  .fieldLinkNest "TreeKayles" 93 "TreeKayles$Forest" "graph" "LTreeKayles$Graph;" "TreeKayles",
  .methodLinkNest "TreeKayles" 100 ⟨"TreeKayles$Forest", "treeCount", "()I"⟩ "TreeKayles",
  .methodLinkNest "TreeKayles" 104 ⟨"TreeKayles$Forest", "hasEdge", "(II)Z"⟩ "TreeKayles",
  .methodLinkNest "TreeKayles" 112 ⟨"TreeKayles$Graph", "unlink", "(II)V"⟩ "TreeKayles",
  .methodLinkNest "TreeKayles" 115 ⟨"TreeKayles$Forest", "choose", "(I)I"⟩ "TreeKayles",
  .methodLinkNest "TreeKayles" 135 ⟨"TreeKayles$Forest", "startAgain", "()V"⟩ "TreeKayles",
  .methodLinkNest "TreeKayles" 148 ⟨"TreeKayles$Text", "put", "(I)V"⟩ "TreeKayles",
  .methodLinkNest "TreeKayles" 151 ⟨"TreeKayles$Text", "wipe", "()V"⟩ "TreeKayles",
  .methodLinkNest "TreeKayles" 154 ⟨"TreeKayles$Text", "firstWrong", "()I"⟩ "TreeKayles",
  .methodLinkNest "TreeKayles" 159 ⟨"TreeKayles$Forest", "wipe", "()V"⟩ "TreeKayles",
  .methodLinkNest "TreeKayles" 160 ⟨"TreeKayles$Text", "lesserAt", "(I)I"⟩ "TreeKayles",
  .methodLinkNest "TreeKayles" 163 ⟨"TreeKayles$Forest", "canBeWritten", "()Z"⟩ "TreeKayles",
  .methodLinkNest "TreeKayles" 167 ⟨"TreeKayles$Forest", "lesserNeighbour", "(I)I"⟩ "TreeKayles",
  .methodLinkNest "TreeKayles" 170 ⟨"TreeKayles$Text", "putLesser", "(I)V"⟩ "TreeKayles",
  .methodLinkNest "TreeKayles" 176 ⟨"TreeKayles$Forest", "copyFrom", "(LTreeKayles$Forest;)V"⟩ "TreeKayles",
  .methodLinkNest "TreeKayles" 184 ⟨"TreeKayles$History", "restore", "(LTreeKayles$Forest;)V"⟩ "TreeKayles",
  .methodLinkNest "TreeKayles" 190 ⟨"TreeKayles$Forest", "isThere", "(I)Z"⟩ "TreeKayles",
  .methodLinkNest "TreeKayles" 194 ⟨"TreeKayles$Graph", "around", "(I)I"⟩ "TreeKayles",
  .methodLinkNest "TreeKayles" 197 ⟨"TreeKayles$Forest", "treeNumber", "(I)I"⟩ "TreeKayles",
  .methodLinkNest "TreeKayles" 204 ⟨"TreeKayles$Forest", "leftAfter", "(I)I"⟩ "TreeKayles",
  .methodLinkNest "TreeKayles" 207 ⟨"TreeKayles$Outcomes", "valueFor", "(I)I"⟩ "TreeKayles",
  .methodLinkNest "TreeKayles" 213 ⟨"TreeKayles$Outcomes", "isMisereWonFor", "(I)Z"⟩ "TreeKayles",
  .methodLinkNest "TreeKayles" 216 ⟨"TreeKayles$Forest", "treeAt", "(I)I"⟩ "TreeKayles",
  .methodLinkNest "TreeKayles" 230 ⟨"TreeKayles$Graph", "longestWay", "(I)I"⟩ "TreeKayles",
  .methodLinkNest "TreeKayles" 233 ⟨"TreeKayles$Graph", "edgesIn", "(I)I"⟩ "TreeKayles",
  .methodLinkNest "TreeKayles" 248 ⟨"TreeKayles$Outcomes", "shortestFor", "(I)I"⟩ "TreeKayles",
  .methodLinkNest "TreeKayles" 251 ⟨"TreeKayles$Outcomes", "longestFor", "(I)I"⟩ "TreeKayles",
  .methodLinkNest "TreeKayles" 256 ⟨"TreeKayles$Graph", "copyFrom", "(LTreeKayles$Graph;)V"⟩ "TreeKayles",
  .methodLinkNest "TreeKayles" 259 ⟨"TreeKayles$Outcomes", "follow", "(LTreeKayles$Graph;)V"⟩ "TreeKayles",
  .methodLinkNest "TreeKayles" 26 ⟨"TreeKayles$History", "<init>", "()V"⟩ "TreeKayles",
  .methodLinkNest "TreeKayles" 310 ⟨"TreeKayles$Shapes", "classFor", "(LTreeKayles$Graph;I)I"⟩ "TreeKayles",
  .methodLinkNest "TreeKayles" 317 ⟨"TreeKayles$Graph", "reach", "(II)I"⟩ "TreeKayles",
  .methodLinkNest "TreeKayles" 33 ⟨"TreeKayles$Text", "<init>", "()V"⟩ "TreeKayles",
  .methodLinkNest "TreeKayles" 40 ⟨"TreeKayles$Shapes", "<init>", "()V"⟩ "TreeKayles",
  .methodLinkNest "TreeKayles" 47 ⟨"TreeKayles$Outcomes", "<init>", "()V"⟩ "TreeKayles",
  .methodLinkNest "TreeKayles" 57 ⟨"TreeKayles$Graph", "<init>", "()V"⟩ "TreeKayles",
  .methodLinkNest "TreeKayles" 80 ⟨"TreeKayles$History", "save", "(LTreeKayles$Forest;)V"⟩ "TreeKayles",
  .methodLinkNest "TreeKayles" 84 ⟨"TreeKayles$Forest", "grow", "(I)V"⟩ "TreeKayles",
  .methodLinkNest "TreeKayles" 87 ⟨"TreeKayles$Forest", "canBeJoined", "(II)Z"⟩ "TreeKayles",
  .methodLinkNest "TreeKayles" 9 ⟨"TreeKayles$Forest", "<init>", "()V"⟩ "TreeKayles",
  .methodLinkNest "TreeKayles" 96 ⟨"TreeKayles$Graph", "link", "(II)V"⟩ "TreeKayles",
  .methodLinkNest "TreeKayles$Forest" 11 ⟨"TreeKayles$Graph", "<init>", "()V"⟩ "TreeKayles",
  .methodLinkNest "TreeKayles$Forest" 28 ⟨"TreeKayles$Graph", "copyFrom", "(LTreeKayles$Graph;)V"⟩ "TreeKayles",
  .methodLinkNest "TreeKayles$Forest" 32 ⟨"TreeKayles$Graph", "wipe", "()V"⟩ "TreeKayles",
  .methodLinkNest "TreeKayles$Forest" 35 ⟨"TreeKayles$Graph", "link", "(II)V"⟩ "TreeKayles",
  .methodLinkNest "TreeKayles$Forest" 39 ⟨"TreeKayles", "bit", "(I)I"⟩ "TreeKayles",
  .methodLinkNest "TreeKayles$Forest" 51 ⟨"TreeKayles", "has", "(II)Z"⟩ "TreeKayles",
  .methodLinkNest "TreeKayles$Forest" 55 ⟨"TreeKayles$Graph", "takenWith", "(I)I"⟩ "TreeKayles",
  .methodLinkNest "TreeKayles$Forest" 62 ⟨"TreeKayles$Graph", "around", "(I)I"⟩ "TreeKayles",
  .methodLinkNest "TreeKayles$Forest" 65 ⟨"TreeKayles$Graph", "reach", "(II)I"⟩ "TreeKayles",
  .methodLinkNest "TreeKayles$Graph" 19 ⟨"TreeKayles", "bit", "(I)I"⟩ "TreeKayles",
  .methodLinkNest "TreeKayles$Graph" 43 ⟨"TreeKayles", "has", "(II)Z"⟩ "TreeKayles",
  .methodLinkNest "TreeKayles$History" 24 ⟨"TreeKayles$Forest", "<init>", "()V"⟩ "TreeKayles",
  .methodLinkNest "TreeKayles$History" 31 ⟨"TreeKayles$Forest", "copyFrom", "(LTreeKayles$Forest;)V"⟩ "TreeKayles",
  .methodLinkNest "TreeKayles$Outcomes" 11 ⟨"TreeKayles$Graph", "<init>", "()V"⟩ "TreeKayles",
  .methodLinkNest "TreeKayles$Outcomes" 22 ⟨"TreeKayles$Graph", "isLike", "(LTreeKayles$Graph;)Z"⟩ "TreeKayles",
  .methodLinkNest "TreeKayles$Outcomes" 26 ⟨"TreeKayles$Graph", "copyFrom", "(LTreeKayles$Graph;)V"⟩ "TreeKayles",
  .methodLinkNest "TreeKayles$Outcomes" 51 ⟨"TreeKayles$Graph", "reach", "(II)I"⟩ "TreeKayles",
  .methodLinkNest "TreeKayles$Outcomes" 64 ⟨"TreeKayles", "has", "(II)Z"⟩ "TreeKayles",
  .methodLinkNest "TreeKayles$Outcomes" 67 ⟨"TreeKayles$Graph", "takenWith", "(I)I"⟩ "TreeKayles",
  .methodLinkNest "TreeKayles$Outcomes" 83 ⟨"TreeKayles$Graph", "around", "(I)I"⟩ "TreeKayles",
  .methodLinkNest "TreeKayles$Shapes" 15 ⟨"TreeKayles", "has", "(II)Z"⟩ "TreeKayles",
  .methodLinkNest "TreeKayles$Shapes" 29 ⟨"TreeKayles", "bit", "(I)I"⟩ "TreeKayles",
  .methodLinkNest "TreeKayles$Shapes" 33 ⟨"TreeKayles$Graph", "around", "(I)I"⟩ "TreeKayles"]
theorem nwL_in : ∀ w ∈ nwL, w ∈ lw_tbl := by decide +kernel
theorem nwL_at (i : Nat) {x : Cond} (h : nwL[i]? = some x) : x ∈ nwL := List.mem_of_getElem? h
def bI (b : Bool) : Int32 := if b then 1 else 0
theorem bI_nar (b : Bool) : narrow .boolean (.int (bI b)) = .int (bI b) := by cases b <;> rfl
def isNw : Cond → Bool
  | .fieldLinkNest .. => true
  | .methodLinkNest .. => true
  | _ => false
theorem nwL_is : ∀ w ∈ nwL, isNw w = true := by decide +kernel
theorem nw_warm {s U : State} {w : Cond} (h : isNw w = true) (hW : s.WarmedH U.vm) (k : va_Nw w s) : va_Nw w U := by
  cases w <;> first | exact va_Nw.warmF hW k | exact va_Nw.warmM hW k | (exact absurd h (by simp [isNw]))
theorem nw_call {U V : State} {w : Cond} (h : isNw w = true) (e : U.vm = V.vm) (k : va_Nw w U) : va_Nw w V := by
  cases w <;> first | exact va_Nw.same rfl e k | (exact absurd h (by simp [isNw]))
def nestAll (U : State) : Prop := ∀ w ∈ nwL, va_Nw w U
abbrev kG : Type := va_G × (Nat → ClassId)
/-- the kinds of arrays, by their classes -/
abbrev gT (Γ : kG) : List (ClassId × FieldType) := [(Γ.2 0, .int), (Γ.2 1, .boolean), (Γ.2 0, .int), (Γ.2 0, .int), (Γ.2 4, .object "TreeKayles$Forest")]
def TK (Γ : kG) (U : State) : Prop := va_K Γ.1 vwCl (gT Γ) U ∧ nestAll U
theorem TK.warm {Γ : kG} {s U : State} (h : TK Γ s) (hW : s.WarmedH U.vm) : TK Γ U := ⟨va_K.moved hW.alike h.1, fun w hw => nw_warm (nwL_is w hw) hW (h.2 w hw)⟩
theorem TK.call {Γ : kG} {U : State} {g : JFrame} {mk : MethodId} {a : Array Value} (h : TK Γ U) : TK Γ (U.calling g mk a) := ⟨va_K.moved (u := U) (U := U.calling g mk a) (Vm.Alike.refl U.vm) h.1, fun w hw => nw_call (U := U) (V := U.calling g mk a) (nwL_is w hw) rfl (h.2 w hw)⟩
theorem TK.nw {Γ : kG} {U : State} (h : TK Γ U) (w : Cond) (hw : w ∈ nwL) : va_Nw w U := h.2 w hw
/-- rooms by levels -/
def rmX (lv mc ms : Nat) : Room := { frames := lv, cells := mc, slots := ms, locals := 64 * lv }
abbrev rmL (lv : Nat) : Room := rmX lv 0 0
abbrev wsq (y : MethodName) (c : ByteArray) (k : Nat) (r : Option FieldType) : List Cond := Cond.code y c k r :: wsAll
section KCALLS
variable {R : Room} {s : State} {args : Array Value} {own host : String} {idx k lv mc ms : Nat} {y : MethodName} {c : ByteArray} {r : Option FieldType} {rm : Room}
theorem pay_q (h5 : Cond.code y c k r ∈ wsAll) : GoodIn wsAll (wsq y c k r) := fun w h => by
  have hm : w ∈ wsAll := by
    rcases List.mem_cons.mp h with rfl | h
    · exact h5
    · exact h
  exact ⟨hm, good_of_word (wsAll_in hm).2⟩
theorem kcwV (n : Nat) (hts : ∀ w ∈ wsAll, w.before args s = true) (kv : kcV y c k r n) (hl : Cond.methodLink own idx y ∈ wsAll) (hR : (rmX lv mc ms).frames + 1 ≤ R.frames ∧ 8 + (k + 11) + (rmX lv mc ms).locals ≤ R.locals) : CallW R s args own y.cls idx y c k r (wsq y c k r) (rmX lv mc ms) mc ms n :=
  ⟨callB_of n hts (pay_q kv.2.2.2.1) rfl rfl rfl (hts _ kv.2.2.1) (hts _ hl) kv.2.2.2.2 hR, hts _ kv.1, hts _ kv.2.1⟩
theorem kcwVN (n : Nat) (hts : ∀ w ∈ wsAll, w.before args s = true) (kv : kcV y c k r n) (hl : va_Nw (.methodLinkNest own idx y host) s) (hR : (rmX lv mc ms).frames + 1 ≤ R.frames ∧ 8 + (k + 11) + (rmX lv mc ms).locals ≤ R.locals) : va_CN R s args own idx y host c k r (wsq y c k r) (rmX lv mc ms) mc ms n ∧ (Cond.instanceMethod y).before args s = true ∧ (Cond.selects y.cls y y).before args s = true :=
  ⟨va_cnB n hts (pay_q kv.2.2.2.1) rfl rfl rfl hl (hts _ kv.2.2.1) kv.2.2.2.2 hR, hts _ kv.1, hts _ kv.2.1⟩
theorem kcwS (n : Nat) (hts : ∀ w ∈ wsAll, w.before args s = true) (kv : kcS y c k r n) (hl : Cond.methodLink own idx y ∈ wsAll) (hR : (rmX lv mc ms).frames + 1 ≤ R.frames ∧ 8 + (k + 11) + (rmX lv mc ms).locals ≤ R.locals) : CallB R s args own idx y c k r (wsq y c k r) (rmX lv mc ms) mc ms n ∧ (Cond.static y).before args s = true :=
  ⟨callB_of n hts (pay_q kv.2.2.1) rfl rfl rfl (hts _ kv.2.1) (hts _ hl) kv.2.2.2 hR, hts _ kv.1⟩
theorem kcwSN (n : Nat) (hts : ∀ w ∈ wsAll, w.before args s = true) (kv : kcS y c k r n) (hl : va_Nw (.methodLinkNest own idx y host) s) (hR : (rmX lv mc ms).frames + 1 ≤ R.frames ∧ 8 + (k + 11) + (rmX lv mc ms).locals ≤ R.locals) : va_CN R s args own idx y host c k r (wsq y c k r) (rmX lv mc ms) mc ms n ∧ (Cond.static y).before args s = true ∧ True :=
  ⟨va_cnB n hts (pay_q kv.2.2.1) rfl rfl rfl hl (hts _ kv.2.1) kv.2.2.2 hR, hts _ kv.1, trivial⟩
theorem kcwIN (n : Nat) (hts : ∀ w ∈ wsAll, w.before args s = true) (kv : kcI y c k n) (hl : va_Nw (.methodLinkNest own idx y host) s) (hR : (rmX lv mc ms).frames + 1 ≤ R.frames ∧ 8 + (k + 11) + (rmX lv mc ms).locals ≤ R.locals) : va_CN R s args own idx y host c k none (wsq y c k none) (rmX lv mc ms) mc ms n ∧ y.name = "<init>" ∧ (Cond.instanceMethod y).before args s = true :=
  ⟨va_cnB n hts (pay_q kv.2.2.2.1) rfl rfl rfl hl (hts _ kv.2.2.1) kv.2.2.2.2 hR, kv.2.1, hts _ kv.1⟩
end KCALLS
/-- the addresses of a list of cells -/
def kM (w : va_W) (q : Nat) : Prop := q ∈ w.map Prod.fst
theorem kM_of {w : va_W} {k : Nat} {q : Nat × va_E} (h : w[k]? = some q) : kM w q.1 := List.mem_map.mpr ⟨q, List.mem_of_getElem? h, rfl⟩
theorem va_D_fst {A : Nat → Prop} {w w' : va_W} (h : w'.map Prod.fst = w.map Prod.fst) (hD : va_D A w) : va_D A w' := by
  have key : ∀ (k : Nat) (q : Nat × va_E), w'[k]? = some q → ∃ q0, w[k]? = some q0 ∧ q0.1 = q.1 := by
    intro k q hk
    have h2 : (w'.map Prod.fst)[k]? = some q.1 := by rw [List.getElem?_map, hk]; rfl
    rw [h, List.getElem?_map] at h2
    cases hq : w[k]? with
    | none => rw [hq] at h2; cases h2
    | some q0 => rw [hq] at h2; exact ⟨q0, rfl, Option.some.inj h2⟩
  refine ⟨fun i j x y hi hj hxy => ?_, fun k q hk => ?_⟩
  · obtain ⟨x0, h1, h2⟩ := key i x hi
    obtain ⟨y0, h3, h4⟩ := key j y hj
    exact hD.1 i j x0 y0 h1 h3 (h2.trans (hxy.trans h4.symm))
  · obtain ⟨q0, h1, h2⟩ := key k q hk
    rw [← h2]
    exact hD.2 k q0 h1
theorem va_D_kM {w : va_W} (h : va_D (fun _ => True) w) : va_D (kM w) w := ⟨h.1, fun _ _ hk => kM_of hk⟩
/-- cells at some places replaced -/
def kU : List Nat → va_W → va_W → va_W
  | i :: is, c :: w, ws => kU is w (ws.set i c)
  | _, _, ws => ws
theorem kU_fst : ∀ (is : List Nat) (w ws : va_W), w.map (fun q => some q.1) = is.map (fun i => (ws[i]?).map Prod.fst) → (kU is w ws).map Prod.fst = ws.map Prod.fst
  | [], [], ws, _ => rfl
  | [], _ :: _, ws, _ => rfl
  | _ :: _, [], ws, h => by simp at h
  | i :: is, c :: w, ws, h => by
    simp only [List.map_cons, List.cons.injEq] at h
    obtain ⟨h1, h2⟩ := h
    have e : (ws.set i c).map Prod.fst = ws.map Prod.fst := by
      apply List.ext_getElem?
      intro k
      rw [List.getElem?_map, List.getElem?_map, List.getElem?_set]
      by_cases hk : i = k
      · subst hk
        cases hw : ws[i]? with
        | none =>
          rw [hw] at h1
          simp at h1
        | some q =>
          rw [hw] at h1
          have hl : i < ws.length := (List.getElem?_eq_some_iff.mp hw).1
          simp only [Option.map_some] at h1
          simp [hl, Option.some.inj h1]
      · simp [hk]
    have hf : ∀ j : Nat, ((ws.set i c)[j]?).map Prod.fst = (ws[j]?).map Prod.fst := by
      intro j
      have := congrArg (fun l : List Nat => l[j]?) e
      simpa only [List.getElem?_map] using this
    show (kU is w (ws.set i c)).map Prod.fst = _
    rw [kU_fst is w (ws.set i c) (by rw [h2]; exact List.map_congr_left (fun j _ => (hf j).symm)), e]
theorem kU_get : ∀ (is : List Nat) (w ws : va_W) (k : Nat) (q : Nat × va_E), (kU is w ws)[k]? = some q → q ∈ w ∨ (k ∉ is.take w.length ∧ ws[k]? = some q)
  | [], _, ws, k, q, h => Or.inr ⟨by simp, h⟩
  | _ :: _, [], ws, k, q, h => Or.inr ⟨by simp, h⟩
  | i :: is, c :: w, ws, k, q, h => by
    rcases kU_get is w (ws.set i c) k q h with h1 | ⟨h1, h2⟩
    · exact Or.inl (List.mem_cons_of_mem _ h1)
    · rw [List.getElem?_set] at h2
      by_cases hk : i = k
      · subst hk
        rw [if_pos rfl] at h2
        by_cases hl : i < ws.length
        · rw [if_pos hl] at h2
          obtain rfl := Option.some.inj h2
          exact Or.inl List.mem_cons_self
        · rw [if_neg hl] at h2
          cases h2
      · rw [if_neg hk] at h2
        refine Or.inr ⟨?_, h2⟩
        simp only [List.length_cons, List.take_succ_cons, List.mem_cons, not_or]
        exact ⟨fun e => hk e.symm, h1⟩
/-- contracts -/
def kPc (Γ : kG) (H0 : Heap) (av : List Value) : Array Value → State → Prop := fun v U => v = av.toArray ∧ U.heap = H0 ∧ TK Γ U
def ROQ (r : Int32) : Array Value → State → Outcome → State → Prop := fun _ st oc t => oc = .returned (some (.int r)) ∧ t.heap = st.heap
/-- a method that reads: its answer, an int -/
def RO (l : Launch) (y : MethodName) (ws : List Cond) (rm : Room) (Γ : kG) (H0 : Heap) (av : List Value) (r : Int32) : Prop := Met l y ws rm (kPc Γ H0 av) (ROQ r) 0 0 (fun _ => False)
def kPw (Γ : kG) (w0 : va_W) (av : List Value) : Array Value → State → Prop := fun v U => v = av.toArray ∧ va_P Γ.1 vwCl w0 U.heap ∧ va_D (fun _ => True) w0 ∧ TK Γ U
abbrev kB (Γ : kG) {S : Type} (w1 : S → va_W) (u : S) (t : State) : Prop := va_P Γ.1 vwCl (w1 u) t.heap
/-- methods that write within their cells -/
def WRi {S : Type} (l : Launch) (y : MethodName) (ws : List Cond) (rm : Room) (Γ : kG) (av : List Value) (w0 : va_W) (w1 : S → va_W) (post : Int32 → S → Prop) : Prop := Met l y ws rm (kPw Γ w0 av) (va_Qi post (kB Γ w1) (kM w0)) 0 0 (kM w0)
def WRv {S : Type} (l : Launch) (y : MethodName) (ws : List Cond) (rm : Room) (Γ : kG) (av : List Value) (w0 : va_W) (w1 : S → va_W) (post : S → Prop) : Prop := Met l y ws rm (kPw Γ w0 av) (va_Qv post (kB Γ w1) (kM w0)) 0 0 (kM w0)
section KIT2
variable {p : Program} {l : Launch} {e : Env} {R : Room} {s : State} {m : MethodId} {args : Array Value} {below : List Frame} {meth : Method} {c : Code} {H : Heap} {locs : List Loc} {cells slots : Nat} {Q : State → Prop}
variable {cc : ByteArray} {pc : Nat} {ls : Array Slot} {rest st0 : List Value} {A0 : Nat → Prop} {H0 : Heap} {a : Array Value} {Γ : kG}
theorem kPc_V {C : String} {b : Addr} {As : List Value} (hK : TK Γ s) (hv : ∃ cellB : Cell, H[b]? = some cellB ∧ cellB.vm.isStatics = false ∧ s.vm.findClass C = some cellB.cls) : PreV s H C b (kPc Γ H (.ref b :: As)) As := ⟨fun a U g mk q => ⟨q.1, q.2.1, q.2.2.call⟩, hv, fun U hU hW => ⟨rfl, hU, hK.warm hW⟩⟩
theorem kPc_S {As : List Value} (hK : TK Γ s) : PreS s H (kPc Γ H As) As := ⟨fun a U g mk q => ⟨q.1, q.2.1, q.2.2.call⟩, fun U hU hW => ⟨rfl, hU, hK.warm hW⟩⟩
theorem kPw_V {C : String} {b : Addr} {As : List Value} {wc : va_W} (hK : TK Γ s) (hv : ∃ cellB : Cell, H[b]? = some cellB ∧ cellB.vm.isStatics = false ∧ s.vm.findClass C = some cellB.cls) (hP : va_P Γ.1 vwCl wc H) (hD : va_D A0 wc) : PreV s H C b (kPw Γ wc (.ref b :: As)) As := ⟨fun a U g mk q => ⟨q.1, q.2.1, q.2.2.1, q.2.2.2.call⟩, hv, fun U hU hW => ⟨rfl, by rw [hU]; exact hP, hD.weaken (fun _ _ _ _ => trivial), hK.warm hW⟩⟩
theorem kPw_S {As : List Value} {wc : va_W} (hK : TK Γ s) (hP : va_P Γ.1 vwCl wc H) (hD : va_D A0 wc) : PreS s H (kPw Γ wc As) As := ⟨fun a U g mk q => ⟨q.1, q.2.1, q.2.2.1, q.2.2.2.call⟩, fun U hU hW => ⟨rfl, by rw [hU]; exact hP, hD.weaken (fun _ _ _ _ => trivial), hK.warm hW⟩⟩
theorem ro_fin {r : Int32} (hr : va_Run p l e R s m args below meth c H locs cells slots 0 0 (F0 m pc ls st0) rest (ROQ r a) (fun _ => False)) (hS : va_S A0 H0 H locs)
    (kk : ∀ locs1, va_S A0 H0 H locs1 → W p l e R s m args below meth c H locs1 cells slots Q (F0 m (pc + 3) ls (.int r :: rest))) : W p l e R s m args below meth c H locs cells slots Q (F0 m pc ls st0) := by
  intro T hT X
  obtain ⟨v, st₀, t, T', L, h0, X', hL, e1, e2, ⟨hv, hz⟩, st⟩ := hr T hT X
  cases hv
  have hT' : T'.heap = H := e1.trans (hz.trans h0)
  obtain ⟨t2, a1, b1⟩ := kk (locs ++ L) ⟨hS.1, hS.2.1, fun q hq => by
      rcases List.mem_append.mp hq with h | h
      · exact hS.2.2 q h
      · exact (hL q h).elim⟩ T' hT' X'
  exact ⟨t2, st t2 a1, b1⟩
theorem kA_sub {A0 : Nat → Prop} {ws wc : va_W} (hD : va_D A0 ws) (is : List Nat) (hC : is.map (fun i => ws[i]?) = wc.map some) : ∀ q, kM wc q → A0 q := by
  intro q hq
  obtain ⟨x, hx, rfl⟩ := List.mem_map.mp hq
  obtain ⟨k, hk⟩ := List.getElem?_of_mem hx
  have h2 : (is.map (fun i => ws[i]?))[k]? = some (some x) := by rw [hC, List.getElem?_map, hk]; rfl
  rw [List.getElem?_map] at h2
  cases hi : is[k]? with
  | none => rw [hi] at h2; cases h2
  | some i =>
    rw [hi] at h2
    exact hD.2 i x (Option.some.inj h2)
theorem kU_P {A0 : Nat → Prop} {ws wc w1 : va_W} {H1 : Heap} (hP : va_P Γ.1 vwCl ws H) (hD : va_D A0 ws) (is : List Nat) (hC : is.map (fun i => ws[i]?) = wc.map some) (ha : w1.map Prod.fst = wc.map Prod.fst) (hP1 : va_P Γ.1 vwCl w1 H1) (hk : ∀ q : Nat, q < H.size → ¬ kM wc q → H1[q]? = H[q]?) : va_P Γ.1 vwCl (kU is w1 ws) H1 := by
  intro k q hq
  have hlen : w1.length = is.length := by
    have h1 := congrArg List.length ha
    have h2 := congrArg List.length hC
    simp only [List.length_map] at h1 h2
    omega
  rcases kU_get is w1 ws k q hq with h | ⟨h1, h2⟩
  · obtain ⟨j, hj⟩ := List.getElem?_of_mem h
    exact hP1 j q hj
  · rw [hlen, List.take_length] at h1
    refine (hP k q h2).kept (hk q.1 ((hP k q h2).lt) (fun hm => h1 ?_))
    obtain ⟨x, hx, hxq⟩ := List.mem_map.mp hm
    obtain ⟨j, hj⟩ := List.getElem?_of_mem hx
    have h3 : (is.map (fun i => ws[i]?))[j]? = some (some x) := by rw [hC, List.getElem?_map, hj]; rfl
    rw [List.getElem?_map] at h3
    cases hi : is[j]? with
    | none => rw [hi] at h3; cases h3
    | some i =>
      rw [hi] at h3
      have e := hD.1 i k x q (Option.some.inj h3) h2 hxq
      rw [← e]
      exact List.mem_of_getElem? hi
theorem kU_D {A0 : Nat → Prop} {ws wc w1 : va_W} (hD : va_D A0 ws) (is : List Nat) (hC : is.map (fun i => ws[i]?) = wc.map some) (ha : w1.map Prod.fst = wc.map Prod.fst) : va_D A0 (kU is w1 ws) := by
  refine va_D_fst (kU_fst is w1 ws ?_) hD
  have h1 : w1.map (fun q => some q.1) = (w1.map Prod.fst).map some := by rw [List.map_map]; rfl
  have h2 : is.map (fun i => (ws[i]?).map Prod.fst) = (is.map (fun i => ws[i]?)).map (Option.map Prod.fst) := by rw [List.map_map]; rfl
  rw [h1, h2, ha, hC, List.map_map, List.map_map]
  rfl
variable {S : Type} {wc ws : va_W} {w1 : S → va_W}
theorem wr_fini {post : Int32 → S → Prop} (hr : va_Run p l e R s m args below meth c H locs cells slots 0 0 (F0 m pc ls st0) rest (va_Qi post (kB Γ w1) (kM wc) a) (kM wc)) (hP : va_P Γ.1 vwCl ws H) (hD : va_D A0 ws) (hS : va_S A0 H0 H locs) (is : List Nat) (hC : is.map (fun i => ws[i]?) = wc.map some) (ha : ∀ u, (w1 u).map Prod.fst = wc.map Prod.fst)
    (kk : ∀ (r : Int32) (u : S) (H1 : Heap) (locs1 : List Loc), post r u → va_P Γ.1 vwCl (kU is (w1 u) ws) H1 → va_D A0 (kU is (w1 u) ws) → va_S A0 H0 H1 locs1 → W p l e R s m args below meth c H1 locs1 cells slots Q (F0 m (pc + 3) ls (.int r :: rest))) : W p l e R s m args below meth c H locs cells slots Q (F0 m pc ls st0) :=
  va_calli hr hS (fun q _ h => kA_sub hD is hC q h) (kA_sub hD is hC) (fun r u t H1 locs1 ht _ hw hB _ hk1 hS => kk r u H1 locs1 hw (kU_P hP hD is hC (ha u) (by rw [← ht]; exact hB) hk1) (kU_D hD is hC (ha u)) hS)
theorem wr_finv {post : S → Prop} (hr : va_Run p l e R s m args below meth c H locs cells slots 0 0 (F0 m pc ls st0) rest (va_Qv post (kB Γ w1) (kM wc) a) (kM wc)) (hP : va_P Γ.1 vwCl ws H) (hD : va_D A0 ws) (hS : va_S A0 H0 H locs) (is : List Nat) (hC : is.map (fun i => ws[i]?) = wc.map some) (ha : ∀ u, (w1 u).map Prod.fst = wc.map Prod.fst)
    (kk : ∀ (u : S) (H1 : Heap) (locs1 : List Loc), post u → va_P Γ.1 vwCl (kU is (w1 u) ws) H1 → va_D A0 (kU is (w1 u) ws) → va_S A0 H0 H1 locs1 → W p l e R s m args below meth c H1 locs1 cells slots Q (F0 m (pc + 3) ls rest)) : W p l e R s m args below meth c H locs cells slots Q (F0 m pc ls st0) :=
  va_callv hr hS (fun q _ h => kA_sub hD is hC q h) (kA_sub hD is hC) (fun u t H1 locs1 ht _ hw hB _ hk1 hS => kk u H1 locs1 hw (kU_P hP hD is hC (ha u) (by rw [← ht]; exact hB) hk1) (kU_D hD is hC (ha u)) hS)
/-- how a method's walk begins -/
def kAt (p : Program) (l : Launch) (y : MethodName) (cc : ByteArray) (maxL : Nat) (ret : Option FieldType) (s : State) (m : MethodId) (args : Array Value) (meth : Method) (c : Code) (Γ : kG) : Prop :=
  p.tables.exec = Jvm.exec ∧ c.code = cc ∧ meth.sig.returnType = ret ∧ c.maxLocals = maxL ∧ s.vm.findClass y.cls = some m.cls ∧ (∀ w ∈ wsAll, w.before args s = true) ∧ meth.locks = false ∧ TK Γ s ∧ meth.name = y.name
/-- ends -/
theorem ro_iret {r v : Int32} (hx : p.tables.exec = Jvm.exec) (hb : c.code = cc) (hr : meth.sig.returnType = some .int) (hlk : meth.locks = false) (hh : s.heap = H) (hS : va_S (fun _ => False) H0 H locs) (hv : v = r) (hdg : decode cc pc = .ok (.ireturn, 1)) : W p l e R s m args below meth c H locs 0 0 (MQ below (ROQ r) args s 0 0 (fun _ => False)) (F0 m pc ls [.int v]) := by
  subst hv
  exact W.iret (v := v) hx hb hr (fun t ht _ => ⟨rfl, ht.trans hh.symm⟩) hS.2.2 hdg hlk
theorem ro_zret {r v : Int32} (hx : p.tables.exec = Jvm.exec) (hb : c.code = cc) (hr : meth.sig.returnType = some .boolean) (hlk : meth.locks = false) (hh : s.heap = H) (hS : va_S (fun _ => False) H0 H locs) (hv : v = r) (hn : narrow .boolean (.int r) = .int r) (hdg : decode cc pc = .ok (.ireturn, 1)) : W p l e R s m args below meth c H locs 0 0 (MQ below (ROQ r) args s 0 0 (fun _ => False)) (F0 m pc ls [.int v]) := by
  subst hv
  exact W.zret (v := v) hx hb hr hn (fun t ht _ => ⟨rfl, ht.trans hh.symm⟩) hS.2.2 hdg hlk
theorem wr_iret {post : Int32 → S → Prop} {A : Nat → Prop} {v : Int32} (u : S) (hx : p.tables.exec = Jvm.exec) (hb : c.code = cc) (hr : meth.sig.returnType = some .int) (hlk : meth.locks = false) (hP : va_P Γ.1 vwCl (w1 u) H) (hS : va_S A s.heap H locs) (hv : post v u) (hdg : decode cc pc = .ok (.ireturn, 1)) : W p l e R s m args below meth c H locs cells slots (MQ below (va_Qi post (kB Γ w1) A) args s cells slots A) (F0 m pc ls [.int v]) :=
  W.iret (v := v) hx hb hr (fun t ht _ => ⟨⟨v, u, rfl, hv, by rw [kB, ht]; exact hP⟩, hS.F ht⟩) hS.2.2 hdg hlk
theorem wr_zret {post : Int32 → S → Prop} {A : Nat → Prop} {v : Int32} (u : S) (hx : p.tables.exec = Jvm.exec) (hb : c.code = cc) (hr : meth.sig.returnType = some .boolean) (hlk : meth.locks = false) (hP : va_P Γ.1 vwCl (w1 u) H) (hS : va_S A s.heap H locs) (hv : post v u) (hn : narrow .boolean (.int v) = .int v) (hdg : decode cc pc = .ok (.ireturn, 1)) : W p l e R s m args below meth c H locs cells slots (MQ below (va_Qi post (kB Γ w1) A) args s cells slots A) (F0 m pc ls [.int v]) :=
  W.zret (v := v) hx hb hr hn (fun t ht _ => ⟨⟨v, u, rfl, hv, by rw [kB, ht]; exact hP⟩, hS.F ht⟩) hS.2.2 hdg hlk
theorem wr_vret {post : S → Prop} {A : Nat → Prop} (u : S) (hx : p.tables.exec = Jvm.exec) (hb : c.code = cc) (hr : meth.sig.returnType = none) (hlk : meth.locks = false) (hP : va_P Γ.1 vwCl (w1 u) H) (hS : va_S A s.heap H locs) (hv : post u) (hdg : decode cc pc = .ok (.return_, 1)) : W p l e R s m args below meth c H locs cells slots (MQ below (va_Qv post (kB Γ w1) A) args s cells slots A) (F0 m pc ls []) :=
  W.vret hx hb hr (fun t ht _ => ⟨⟨u, rfl, hv, by rw [kB, ht]; exact hP⟩, hS.F ht⟩) hS.2.2 hdg hlk
theorem rm_le {wz : List Cond} {a b k mc ms mc' ms' : Nat} (hR : R = (headSpec wz (rmX b mc' ms')).room) (h : a + 1 ≤ b) (hk : k ≤ 40) : (rmX a mc ms).frames + 1 ≤ R.frames ∧ 8 + (k + 11) + (rmX a mc ms).locals ≤ R.locals := by
  subst hR
  show a + 1 ≤ b ∧ 8 + (k + 11) + 64 * a ≤ 64 * b
  omega
theorem ro_ofi {y : MethodName} {lv : Nat} {maxL : Nat} {av : List Value} {r : Int32} (hy : plainFor y = true) (hn : (lg_sl av).length ≤ maxL) {l0 : List (Nat × Value)} (hl0 : lv_args 0 av = l0)
    (body : ∀ p e R s m args below meth c Q ls, kAt p l y cc maxL (some .int) s m args meth c Γ → R = (headSpec (wsq y cc maxL (some .int)) (rmL lv)).room → (∀ {pc ls locs v}, va_S (fun _ => False) H0 H0 locs → v = r → decode cc pc = .ok (.ireturn, 1) → W p l e R s m args below meth c H0 locs 0 0 Q (F0 m pc ls [.int v])) → s.heap = H0 → va_S (fun _ => False) H0 H0 [] → lv_has ls maxL l0 →
      W p l e R s m args below meth c H0 [] 0 0 Q (F0 m 0 ls [])) : RO l y (wsq y cc maxL (some .int)) (rmL lv) Γ H0 av r := by
  refine va_MetF (cc := cc) (maxL := maxL) (ret := some .int) hy rfl ?_
  intro p e s m args below meth c s₁ B hml hv
  obtain ⟨rfl, hh, hK⟩ := hv
  have hl := lv_entry av (n := maxL) hn
  rw [hl0] at hl
  rw [lg_entry_eq]
  rw [hh]
  exact body p e _ s m _ below meth c _ _ ⟨B.exec, B.bytes, B.returns, hml, findClass_of_methodNamed B.named, fun w h => atoms_spec (ws := wsq y cc maxL (some .int)) B.pre w (List.mem_cons_of_mem _ h), B.notSynchronized, hK, (name_of_methodNamed B.named B.method).1⟩ rfl (fun hS hv hdg => ro_iret B.exec B.bytes B.returns B.notSynchronized hh hS hv hdg) hh va_S.rf hl
theorem ro_ofz {y : MethodName} {lv : Nat} {maxL : Nat} {av : List Value} {r : Bool} (hy : plainFor y = true) (hn : (lg_sl av).length ≤ maxL) {l0 : List (Nat × Value)} (hl0 : lv_args 0 av = l0)
    (body : ∀ p e R s m args below meth c Q ls, kAt p l y cc maxL (some .boolean) s m args meth c Γ → R = (headSpec (wsq y cc maxL (some .boolean)) (rmL lv)).room → (∀ {pc ls locs v}, va_S (fun _ => False) H0 H0 locs → v = bI r → decode cc pc = .ok (.ireturn, 1) → W p l e R s m args below meth c H0 locs 0 0 Q (F0 m pc ls [.int v])) → s.heap = H0 → va_S (fun _ => False) H0 H0 [] → lv_has ls maxL l0 →
      W p l e R s m args below meth c H0 [] 0 0 Q (F0 m 0 ls [])) : RO l y (wsq y cc maxL (some .boolean)) (rmL lv) Γ H0 av (bI r) := by
  refine va_MetF (cc := cc) (maxL := maxL) (ret := some .boolean) hy rfl ?_
  intro p e s m args below meth c s₁ B hml hv
  obtain ⟨rfl, hh, hK⟩ := hv
  have hl := lv_entry av (n := maxL) hn
  rw [hl0] at hl
  rw [lg_entry_eq]
  rw [hh]
  exact body p e _ s m _ below meth c _ _ ⟨B.exec, B.bytes, B.returns, hml, findClass_of_methodNamed B.named, fun w h => atoms_spec (ws := wsq y cc maxL (some .boolean)) B.pre w (List.mem_cons_of_mem _ h), B.notSynchronized, hK, (name_of_methodNamed B.named B.method).1⟩ rfl (fun hS hv hdg => ro_zret B.exec B.bytes B.returns B.notSynchronized hh hS hv (by cases r <;> rfl) hdg) hh va_S.rf hl
theorem wr_ofi {S : Type} {w1 : S → va_W} {y : MethodName} {lv : Nat} {maxL : Nat} {av : List Value} {w0 : va_W} {post : Int32 → S → Prop} (hy : plainFor y = true) (hn : (lg_sl av).length ≤ maxL) {l0 : List (Nat × Value)} (hl0 : lv_args 0 av = l0)
    (body : ∀ p e R s m args below meth c Q A ls, kAt p l y cc maxL (some .int) s m args meth c Γ → R = (headSpec (wsq y cc maxL (some .int)) (rmL lv)).room → (∀ {pc ls H locs} {v : Int32} (u : S), va_P Γ.1 vwCl (w1 u) H → va_S A s.heap H locs → post v u → decode cc pc = .ok (.ireturn, 1) → W p l e R s m args below meth c H locs 0 0 Q (F0 m pc ls [.int v])) → va_P Γ.1 vwCl w0 s.heap → va_D A w0 → va_S A s.heap s.heap [] → lv_has ls maxL l0 →
      W p l e R s m args below meth c s.heap [] 0 0 Q (F0 m 0 ls [])) : WRi l y (wsq y cc maxL (some .int)) (rmL lv) Γ av w0 w1 post := by
  refine va_MetF (cc := cc) (maxL := maxL) (ret := some .int) hy rfl ?_
  intro p e s m args below meth c s₁ B hml hv
  obtain ⟨rfl, hP, hD, hK⟩ := hv
  have hl := lv_entry av (n := maxL) hn
  rw [hl0] at hl
  rw [lg_entry_eq]
  exact body p e _ s m _ below meth c _ (kM w0) _ ⟨B.exec, B.bytes, B.returns, hml, findClass_of_methodNamed B.named, fun w h => atoms_spec (ws := wsq y cc maxL (some .int)) B.pre w (List.mem_cons_of_mem _ h), B.notSynchronized, hK, (name_of_methodNamed B.named B.method).1⟩ rfl (fun u hP hS hv hdg => wr_iret u B.exec B.bytes B.returns B.notSynchronized hP hS hv hdg) hP (va_D_kM hD) va_S.rf hl
theorem wr_ofz {S : Type} {w1 : S → va_W} {y : MethodName} {lv : Nat} {maxL : Nat} {av : List Value} {w0 : va_W} {post : Int32 → S → Prop} (hy : plainFor y = true) (hn : (lg_sl av).length ≤ maxL) {l0 : List (Nat × Value)} (hl0 : lv_args 0 av = l0)
    (body : ∀ p e R s m args below meth c Q A ls, kAt p l y cc maxL (some .boolean) s m args meth c Γ → R = (headSpec (wsq y cc maxL (some .boolean)) (rmL lv)).room → (∀ {pc ls H locs} {v : Int32} (u : S), va_P Γ.1 vwCl (w1 u) H → va_S A s.heap H locs → post v u → (∃ b : Bool, v = bI b) → decode cc pc = .ok (.ireturn, 1) → W p l e R s m args below meth c H locs 0 0 Q (F0 m pc ls [.int v])) → va_P Γ.1 vwCl w0 s.heap → va_D A w0 → va_S A s.heap s.heap [] → lv_has ls maxL l0 →
      W p l e R s m args below meth c s.heap [] 0 0 Q (F0 m 0 ls [])) : WRi l y (wsq y cc maxL (some .boolean)) (rmL lv) Γ av w0 w1 post := by
  refine va_MetF (cc := cc) (maxL := maxL) (ret := some .boolean) hy rfl ?_
  intro p e s m args below meth c s₁ B hml hv
  obtain ⟨rfl, hP, hD, hK⟩ := hv
  have hl := lv_entry av (n := maxL) hn
  rw [hl0] at hl
  rw [lg_entry_eq]
  exact body p e _ s m _ below meth c _ (kM w0) _ ⟨B.exec, B.bytes, B.returns, hml, findClass_of_methodNamed B.named, fun w h => atoms_spec (ws := wsq y cc maxL (some .boolean)) B.pre w (List.mem_cons_of_mem _ h), B.notSynchronized, hK, (name_of_methodNamed B.named B.method).1⟩ rfl (fun u hP hS hv hz hdg => wr_zret u B.exec B.bytes B.returns B.notSynchronized hP hS hv (by obtain ⟨b, rfl⟩ := hz; exact bI_nar b) hdg) hP (va_D_kM hD) va_S.rf hl
theorem wr_ofv {S : Type} {w1 : S → va_W} {y : MethodName} {lv : Nat} {maxL : Nat} {av : List Value} {w0 : va_W} {post : S → Prop} (hy : plainFor y = true) (hn : (lg_sl av).length ≤ maxL) {l0 : List (Nat × Value)} (hl0 : lv_args 0 av = l0)
    (body : ∀ p e R s m args below meth c Q A ls, kAt p l y cc maxL (none) s m args meth c Γ → R = (headSpec (wsq y cc maxL none) (rmL lv)).room → (∀ {pc ls H locs} (u : S), va_P Γ.1 vwCl (w1 u) H → va_S A s.heap H locs → post u → decode cc pc = .ok (.return_, 1) → W p l e R s m args below meth c H locs 0 0 Q (F0 m pc ls [])) → va_P Γ.1 vwCl w0 s.heap → va_D A w0 → va_S A s.heap s.heap [] → lv_has ls maxL l0 →
      W p l e R s m args below meth c s.heap [] 0 0 Q (F0 m 0 ls [])) : WRv l y (wsq y cc maxL none) (rmL lv) Γ av w0 w1 post := by
  refine va_MetF (cc := cc) (maxL := maxL) (ret := none) hy rfl ?_
  intro p e s m args below meth c s₁ B hml hv
  obtain ⟨rfl, hP, hD, hK⟩ := hv
  have hl := lv_entry av (n := maxL) hn
  rw [hl0] at hl
  rw [lg_entry_eq]
  exact body p e _ s m _ below meth c _ (kM w0) _ ⟨B.exec, B.bytes, B.returns, hml, findClass_of_methodNamed B.named, fun w h => atoms_spec (ws := wsq y cc maxL none) B.pre w (List.mem_cons_of_mem _ h), B.notSynchronized, hK, (name_of_methodNamed B.named B.method).1⟩ rfl (fun u hP hS hv hdg => wr_vret u B.exec B.bytes B.returns B.notSynchronized hP hS hv hdg) hP (va_D_kM hD) va_S.rf hl
end KIT2
