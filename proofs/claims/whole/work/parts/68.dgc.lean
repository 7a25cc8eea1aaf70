/-! the class's hash -/
noncomputable def jnT (g : Nat → Nat) (th n i j : Nat) : Int32 := if cjB g th n i j then nI (V (lk2 g i j true) th) else -1
noncomputable def ec1 (g : Nat → Nat) (th n mv hs : Nat) : Nat → Int64 := hF (cnT g th n mv hs) 3221
noncomputable def ec2 (g : Nat → Nat) (th : Nat) (h : Int64) : Nat → Int64 := hF (fun k => ndT g th (k / 6) (k % 6)) h
noncomputable def ec3 (g : Nat → Nat) (th : Nat) (h : Int64) : Nat → Int64 := hF (fun k => tvT g th (k / 6) (k % 6)) h
noncomputable def ec4 (g : Nat → Nat) (th n : Nat) (h : Int64) : Int64 := 31 * (31 * (31 * h + (bst (wnP g th) n).toInt64) + (nI (laS true g th)).toInt64) + (nI (laS false g th)).toInt64
noncomputable def ec5 (g : Nat → Nat) (th n : Nat) (h : Int64) : Nat → Int64 := hF (fun k => mrC g th n (nI k)) h
noncomputable def ec6 (g : Nat → Nat) (th n : Nat) (h : Int64) : Int64 := if 0 < n then 31 * h + (jnT g th n 0 (n - 1)).toInt64 else h
def ec7 (g : Nat → Nat) (th n : Nat) (h : Int64) : Int64 := 31 * h + (shD (cnt (wnP g th) n) (pc th)).toInt64
def ec8 (kp : Nat → Nat) (h : Int64) : Nat → Int64 := hF (fun k => nI (kp k)) h
def ec9 (tx : Nat → Nat) (h : Int64) : Nat → Int64 := hF (fun k => nI (tx k)) h
noncomputable def dgT (g : Nat → Nat) (th n mv hs : Nat) (kp : Nat → Nat) (sz : Nat) (tx : Nat → Nat) : Int64 := ec9 tx (31 * ec8 kp (ec7 g th n (ec6 g th n (ec5 g th n (ec4 g th n (ec3 g th (ec2 g th (ec1 g th n mv hs 12) (6 * n)) (6 * trC g th))) 4))) 2 + (nI sz).toInt64) sz
theorem hF_6 {F : Nat → Nat → Int32} {h : Int64} {v w : Nat} (hw : w < 6) : hF (fun k => F (k / 6) (k % 6)) h (6 * v + (w + 1)) = 31 * hF (fun k => F (k / 6) (k % 6)) h (6 * v + w) + (F v w).toInt64 := by
  show 31 * hF _ h (6 * v + w) + (F ((6 * v + w) / 6) ((6 * v + w) % 6)).toInt64 = _
  rw [show (6 * v + w) / 6 = v by omega, show (6 * v + w) % 6 = w by omega]
theorem ec2_s {g : Nat → Nat} {th v w : Nat} {h : Int64} (hw : w < 6) : ec2 g th h (6 * v + (w + 1)) = 31 * ec2 g th h (6 * v + w) + (ndT g th v w).toInt64 := hF_6 (F := ndT g th) hw
theorem ec3_s {g : Nat → Nat} {th v w : Nat} {h : Int64} (hw : w < 6) : ec3 g th h (6 * v + (w + 1)) = 31 * ec3 g th h (6 * v + w) + (tvT g th v w).toInt64 := hF_6 (F := tvT g th) hw
