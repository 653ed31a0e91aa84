/-! actions, each sound over the machine -/
/-- a callee's run that returns, as a contract: μ's name, code .. come by M -/
abbrev JM5 : Type := MethodName × ByteArray × Nat × Option FieldType × Option (List (Nat × Nat × Nat × Nat))
def jword (M : JM5) : Cond := match M.2.2.2.2 with
  | none => .code M.1 M.2.1 M.2.2.1 M.2.2.2.1
  | some hh => .codeWith M.1 M.2.1 M.2.2.1 M.2.2.2.1 hh
def jws (M : JM5) : List Cond := jword M :: GW
/-- what a start says of the state -/
def jPre (D : va_G) (g : Nat → ClassId) (a : Nat → Nat) (h : JH) (sz : Nat) (U : State) : Prop := U.heap.size = sz ∧ jK D g U ∧ jR D g a h.1 h.2.2.2 U.heap ∧ jZ (jA a h.1 sz) U U.heap
def jPost (D : va_G) (g : Nat → ClassId) (a : Nat → Nat) (h h1 : JH) (sz : Nat) (r : Option Value) (st : State) (oc : Outcome) (t : State) : Prop :=
  (∃ a' : Nat → Nat, oc = .returned (r.map (tv a')) ∧ (∀ q, q < h.1 → a' q = a q) ∧ (h1.1 = h.1 → a' = a) ∧ (∀ q, h.1 ≤ q → q < h1.1 → sz ≤ a' q) ∧ jR D g a' h1.1 h1.2.2.2 t.heap) ∧ va_F (jA a h.1 sz) st t
def jLe (h h1 : JH) : Prop := h.1 ≤ h1.1 ∧ h.2.1 ≤ h1.2.1 ∧ h.2.2.1 ≤ h1.2.2.1
def Con (M : JM5) (d : Nat) (as : List Value) (h : JH) (r : Option Value) (h1 : JH) : Prop := jLe h h1 ∧ ∀ (l : Launch) (D : va_G) (g : Nat → ClassId) (a : Nat → Nat) (sz : Nat), l.stackTraces = false →
  Met l M.1 (jws M) { frames := d, cells := h1.2.1 - h.2.1, slots := h1.2.2.1 - h.2.2.1, locals := 36 * d } (va_Pc (as.map (tv a)) (jPre D g a h sz)) (fun _ st oc t => jPost D g a h h1 sz r st oc t) (h1.2.1 - h.2.1) (h1.2.2.1 - h.2.2.1) (jA a h.1 sz)
def jXC (D : va_G) (g : Nat → ClassId) (a : Nat → Nat) (h : JH) (sz : Nat) (E0 : String) : String → State → State → Prop := fun E st t => E = E0 ∧ jR D g a h.1 h.2.2.2 t.heap ∧ va_F (jA a h.1 sz) st t
def ConX (M : JM5) (d : Nat) (as : List Value) (h : JH) (E : String) (h1 : JH) : Prop := (jLe h h1 ∧ h1.1 = h.1) ∧ ∀ (l : Launch) (D : va_G) (g : Nat → ClassId) (a : Nat → Nat) (sz : Nat), l.stackTraces = false →
  vx_Met l M.1 (jws M) { frames := d, cells := h1.2.1 - h.2.1, slots := h1.2.2.1 - h.2.2.1, locals := 36 * d } (va_Pc (as.map (tv a)) (jPre D g a h sz)) (fun _ _ _ _ => False) (jXC D g a h1 sz E) (h1.2.1 - h.2.1) (h1.2.2.1 - h.2.2.1) (jA a h.1 sz)
/-- a call's two ways on -/
def jCall (tab : Nat → JM5) (cc : ByteArray) (dd : Nat) (X : JX) (μ : Nat) (as : List Value) (f' : JF) (ct : List (String × Int32)) (f : JF) (h : JH) : Prop := ∀ d, dd = d + 1 →
  (∀ r h1, Con (tab μ) d as h r h1 → (h1.1 = h.1 ∨ jfr h.1 f' = true) → h1.2.1 ≤ (match X with | (_, _, _, _, (_, _, cE, _), _) => cE) → h1.2.2.1 ≤ (match X with | (_, _, _, _, (_, _, _, sE), _) => sE) → jW X (f'.1, f'.2.1, r.toList ++ f'.2.2) h1 → jW X f h) ∧
  (∀ E k h1, ConX (tab μ) d as h E h1 → (E, k) ∈ ct → h1.2.1 ≤ (match X with | (_, _, _, _, (_, _, cE, _), _) => cE) → h1.2.2.1 ≤ (match X with | (_, _, _, _, (_, _, _, sE), _) => sE) → jEnd cc X (some (.int k)) h1 → jW X f h)
def jDo (tab : Nat → JM5) (cc : ByteArray) (dd : Nat) (X : JX) (f : JF) (h : JH) (r : Option ((JF × JH) ⊕ ((Nat × List Value × JF × List (String × Int32)) ⊕ JO))) : Prop := match r with
  | none => True
  | some (.inl (f', h')) => h'.2.1 ≤ (match X with | (_, _, _, _, (_, _, cE, _), _) => cE) → h'.2.2.1 ≤ (match X with | (_, _, _, _, (_, _, _, sE), _) => sE) → jW X f' h' → jW X f h
  | some (.inr (.inl (μ, as, f', ct))) => jCall tab cc dd X μ as f' ct f h
  | some (.inr (.inr (.inl v))) => jEnd cc X v h → jW X f h
  | some (.inr (.inr (.inr E))) => 6 ≤ dd → jEndX X E h → jW X f h
/-- an action is sound at a place of a method's code -/
def JOk (tab : Nat → JM5) (cc : ByteArray) (own : String) (nm : String × List (Nat × Nat × Nat × Nat)) (nL : Nat) (scr : Option (Nat × (Nat → Int32))) (pc : Nat) (act : JA) : Prop :=
  (∀ l st h f' h', act (pc, l, st) h = some (.inl (f', h')) → jLe h h') ∧ ∀ dd X, 1 ≤ dd → jC cc own nm nL dd scr X → ∀ l st h, jDo tab cc dd X (pc, l, st) h (act (pc, l, st) h)
theorem jLe.rf {h : JH} : jLe h h := ⟨Nat.le_refl _, Nat.le_refl _, Nat.le_refl _⟩
theorem jLe.trans {h h1 h2 : JH} (p : jLe h h1) (q : jLe h1 h2) : jLe h h2 := ⟨Nat.le_trans p.1 q.1, Nat.le_trans p.2.1 q.2.1, Nat.le_trans p.2.2 q.2.2⟩
section JOPS
variable {tab : Nat → JM5} {cc : ByteArray} {own : String} {nm : String × List (Nat × Nat × Nat × Nat)} {nL : Nat} {scr : Option (Nat × (Nat → Int32))} {pc : Nat}
/-! the stack alone -/
def a_stk (len : Nat) (sem : List Value → Option (List Value)) : JA := fun f h => match sem f.2.2 with
  | some st => some (.inl ((f.1 + len, f.2.1, st), h))
  | none => none
def jStk (cc : ByteArray) (pc len : Nat) (sem : List Value → Option (List Value)) : Prop := ∀ (p : Program) (l : Launch) (e : Env) (R : Room) (s : State) (m : MethodId) (args : Array Value) (below : List Frame) (meth : Method) (c : Code) (H : Heap) (locs : List Loc) (cells slots : Nat) (Q : State → Prop) (ls : Array Slot) (a : Nat → Nat) (st st' : List Value),
  p.tables.exec = Jvm.exec → c.code = cc → sem st = some st' → W p l e R s m args below meth c H locs cells slots Q (F0 m (pc + len) ls (st'.map (tv a))) → W p l e R s m args below meth c H locs cells slots Q (F0 m pc ls (st.map (tv a)))
theorem k_stk {len : Nat} {sem : List Value → Option (List Value)} (hk : jStk cc pc len sem) : JOk tab cc own nm nL scr pc (a_stk len sem) := by
  refine ⟨fun l st h f' h' e => ?_, fun dd X _ C l st h => ?_⟩
  · unfold a_stk at e
    split at e
    · cases e
      exact jLe.rf
    · cases e
  · show jDo tab cc dd X (pc, l, st) h (match sem st with
      | some st => some (.inl ((pc + len, l, st), h))
      | none => none)
    cases hs : sem st with
    | none => trivial
    | some st' =>
      obtain ⟨⟨p, ln, e, R, s⟩, ⟨m, args, below, meth, c⟩, ⟨D, g⟩, ⟨A, n, n0, a0⟩, ⟨c0, s0, cE, sE⟩, Q⟩ := X
      intro _ _ k a ls H locs cells slots h1 h2 h3 h4
      exact hk p ln e R s m args below meth c H locs cells slots Q ls a st st' C.1 C.2.1 hs (k a ls H locs cells slots h1 h2 h3 h4)
def s_push (v : Value) : List Value → Option (List Value) := fun st => some (v :: st)
def s_iadd : List Value → Option (List Value) := fun st => match st with
  | .int y :: .int x :: r => some (.int (x + y) :: r)
  | _ => none
def s_isub : List Value → Option (List Value) := fun st => match st with
  | .int y :: .int x :: r => some (.int (x - y) :: r)
  | _ => none
def s_imul : List Value → Option (List Value) := fun st => match st with
  | .int y :: .int x :: r => some (.int (x * y) :: r)
  | _ => none
def s_iand : List Value → Option (List Value) := fun st => match st with
  | .int y :: .int x :: r => some (.int (x &&& y) :: r)
  | _ => none
def s_idiv : List Value → Option (List Value) := fun st => match st with
  | .int y :: .int x :: r => if y = 0 then none else some (.int (x / y) :: r)
  | _ => none
def s_irem : List Value → Option (List Value) := fun st => match st with
  | .int y :: .int x :: r => if y = 0 then none else some (.int (x - x / y * y) :: r)
  | _ => none
def s_ladd : List Value → Option (List Value) := fun st => match st with
  | .long y :: .long x :: r => some (.long (x + y) :: r)
  | _ => none
def s_lsub : List Value → Option (List Value) := fun st => match st with
  | .long y :: .long x :: r => some (.long (x - y) :: r)
  | _ => none
def s_lmul : List Value → Option (List Value) := fun st => match st with
  | .long y :: .long x :: r => some (.long (x * y) :: r)
  | _ => none
def s_i2l : List Value → Option (List Value) := fun st => match st with
  | .int x :: r => some (.long x.toInt64 :: r)
  | _ => none
def s_i2d : List Value → Option (List Value) := fun st => match st with
  | .int x :: r => some (.double (FP.i2d x) :: r)
  | _ => none
def s_dup : List Value → Option (List Value) := fun st => match st with
  | v :: r => if v.category = 1 then some (v :: v :: r) else none
  | _ => none
def s_dup2 : List Value → Option (List Value) := fun st => match st with
  | v :: w :: r => if v.category = 1 ∧ w.category = 1 then some (v :: w :: v :: w :: r) else none
  | _ => none
theorem k_iconst {n : Int} {v : Int32} (hd : decode cc pc = .ok (.iconst n, 1)) (hv : Int32.ofInt n = v) : JOk tab cc own nm nL scr pc (a_stk 1 (s_push (.int v))) := k_stk (by
  intro p l e R s m args below meth c H locs cells slots Q ls a st st' hx hb hs k
  cases hs
  exact lv_iconst hx hb hd hv k)
theorem k_bipush {n : Int} {v : Int32} (hd : decode cc pc = .ok (.bipush n, 2)) (hv : (Int8.ofInt n).toInt32 = v) : JOk tab cc own nm nL scr pc (a_stk 2 (s_push (.int v))) := k_stk (by
  intro p l e R s m args below meth c H locs cells slots Q ls a st st' hx hb hs k
  cases hs
  exact lv_bipush hx hb hd hv k)
theorem k_sipush {n : Int} {v : Int32} (hd : decode cc pc = .ok (.sipush n, 3)) (hv : (Int16.ofInt n).toInt32 = v) : JOk tab cc own nm nL scr pc (a_stk 3 (s_push (.int v))) := k_stk (by
  intro p l e R s m args below meth c H locs cells slots Q ls a st st' hx hb hs k
  cases hs
  exact lv_sipush hx hb hd hv k)
theorem k_lconst {n : Fin 2} {v : Int64} (hd : decode cc pc = .ok (.lconst n, 1)) (hv : Int64.ofNat (n : Nat) = v) : JOk tab cc own nm nL scr pc (a_stk 1 (s_push (.long v))) := k_stk (by
  intro p l e R s m args below meth c H locs cells slots Q ls a st st' hx hb hs k
  cases hs
  exact lv_lconst hx hb hd hv k)
theorem k_dconst0 (hd : decode cc pc = .ok (.dconst 0, 1)) : JOk tab cc own nm nL scr pc (a_stk 1 (s_push (.double FP.dconst0))) := k_stk (by
  intro p l e R s m args below meth c H locs cells slots Q ls a st st' hx hb hs k
  cases hs
  exact lv_dconst0 hx hb hd k)
theorem k_iadd (hd : decode cc pc = .ok (.iadd, 1)) : JOk tab cc own nm nL scr pc (a_stk 1 s_iadd) := k_stk (by
  intro p l e R s m args below meth c H locs cells slots Q ls a st st' hx hb hs k
  unfold s_iadd at hs
  split at hs
  · cases hs
    exact lv_iadd hx hb hd k
  · cases hs)
theorem k_isub (hd : decode cc pc = .ok (.isub, 1)) : JOk tab cc own nm nL scr pc (a_stk 1 s_isub) := k_stk (by
  intro p l e R s m args below meth c H locs cells slots Q ls a st st' hx hb hs k
  unfold s_isub at hs
  split at hs
  · cases hs
    exact lv_isub hx hb hd k
  · cases hs)
theorem k_imul (hd : decode cc pc = .ok (.imul, 1)) : JOk tab cc own nm nL scr pc (a_stk 1 s_imul) := k_stk (by
  intro p l e R s m args below meth c H locs cells slots Q ls a st st' hx hb hs k
  unfold s_imul at hs
  split at hs
  · cases hs
    exact lv_imul hx hb hd k
  · cases hs)
theorem k_iand (hd : decode cc pc = .ok (.iand, 1)) : JOk tab cc own nm nL scr pc (a_stk 1 s_iand) := k_stk (by
  intro p l e R s m args below meth c H locs cells slots Q ls a st st' hx hb hs k
  unfold s_iand at hs
  split at hs
  · cases hs
    exact lv_iand hx hb hd k
  · cases hs)
theorem k_idiv (hd : decode cc pc = .ok (.idiv, 1)) : JOk tab cc own nm nL scr pc (a_stk 1 s_idiv) := k_stk (by
  intro p l e R s m args below meth c H locs cells slots Q ls a st st' hx hb hs k
  unfold s_idiv at hs
  split at hs
  · split at hs
    · cases hs
    · cases hs
      exact lv_idiv hx hb hd (by assumption) k
  · cases hs)
theorem k_irem (hd : decode cc pc = .ok (.irem, 1)) : JOk tab cc own nm nL scr pc (a_stk 1 s_irem) := k_stk (by
  intro p l e R s m args below meth c H locs cells slots Q ls a st st' hx hb hs k
  unfold s_irem at hs
  split at hs
  · split at hs
    · cases hs
    · cases hs
      exact lv_irem hx hb hd (by assumption) k
  · cases hs)
theorem k_ladd (hd : decode cc pc = .ok (.ladd, 1)) : JOk tab cc own nm nL scr pc (a_stk 1 s_ladd) := k_stk (by
  intro p l e R s m args below meth c H locs cells slots Q ls a st st' hx hb hs k
  unfold s_ladd at hs
  split at hs
  · cases hs
    exact lv_ladd hx hb hd k
  · cases hs)
theorem k_lsub (hd : decode cc pc = .ok (.lsub, 1)) : JOk tab cc own nm nL scr pc (a_stk 1 s_lsub) := k_stk (by
  intro p l e R s m args below meth c H locs cells slots Q ls a st st' hx hb hs k
  unfold s_lsub at hs
  split at hs
  · cases hs
    exact lv_lsub hx hb hd k
  · cases hs)
theorem k_lmul (hd : decode cc pc = .ok (.lmul, 1)) : JOk tab cc own nm nL scr pc (a_stk 1 s_lmul) := k_stk (by
  intro p l e R s m args below meth c H locs cells slots Q ls a st st' hx hb hs k
  unfold s_lmul at hs
  split at hs
  · cases hs
    exact lv_lmul hx hb hd k
  · cases hs)
theorem k_i2l (hd : decode cc pc = .ok (.i2l, 1)) : JOk tab cc own nm nL scr pc (a_stk 1 s_i2l) := k_stk (by
  intro p l e R s m args below meth c H locs cells slots Q ls a st st' hx hb hs k
  unfold s_i2l at hs
  split at hs
  · cases hs
    exact lv_i2l hx hb hd rfl k
  · cases hs)
theorem k_i2d (hd : decode cc pc = .ok (.i2d, 1)) : JOk tab cc own nm nL scr pc (a_stk 1 s_i2d) := k_stk (by
  intro p l e R s m args below meth c H locs cells slots Q ls a st st' hx hb hs k
  unfold s_i2d at hs
  split at hs
  · cases hs
    exact lv_i2d hx hb hd k
  · cases hs)
theorem k_dup (hd : decode cc pc = .ok (.dup, 1)) : JOk tab cc own nm nL scr pc (a_stk 1 s_dup) := k_stk (by
  intro p l e R s m args below meth c H locs cells slots Q ls a st st' hx hb hs k
  unfold s_dup at hs
  split at hs
  · split at hs
    · cases hs
      exact lv_dup hx hb hd (by rw [tv_cat]; assumption) k
    · cases hs
  · cases hs)
theorem k_dup2 (hd : decode cc pc = .ok (.dup2, 1)) : JOk tab cc own nm nL scr pc (a_stk 1 s_dup2) := k_stk (by
  intro p l e R s m args below meth c H locs cells slots Q ls a st st' hx hb hs k
  unfold s_dup2 at hs
  split at hs
  · split at hs
    · rename_i hc
      cases hs
      exact lv_dup2_11 hx hb hd (by rw [tv_cat]; exact hc.1) (by rw [tv_cat]; exact hc.2) k
    · cases hs
  · cases hs)
/-- a double that is no NaN -/
def jnn (r : UInt64) : Bool := decide (r &&& 0x7fffffffffffffff ≤ 0x7ff0000000000000)
def s_dadd : List Value → Option (List Value) := fun st => match st with
  | .double y :: .double x :: r => if jnn (FP.dadd x y) = true then some (.double (FP.dadd x y) :: r) else none
  | _ => none
def s_ddiv : List Value → Option (List Value) := fun st => match st with
  | .double y :: .double x :: r => if jnn (FP.ddiv x y) = true then some (.double (FP.ddiv x y) :: r) else none
  | _ => none
def s_dcmp (op : CmpOp) : List Value → Option (List Value) := fun st => match st with
  | .double y :: .double x :: r => some (.int (Op.cmpValue (FP.dcmp x y) op) :: r)
  | _ => none
def s_lcmp : List Value → Option (List Value) := fun st => match st with
  | .long y :: .long x :: r => some (.int (lg_cmp x y) :: r)
  | _ => none
theorem k_dadd (hd : decode cc pc = .ok (.dadd, 1)) : JOk tab cc own nm nL scr pc (a_stk 1 s_dadd) := k_stk (by
  intro p l e R s m args below meth c H locs cells slots Q ls a st st' hx hb hs k
  unfold s_dadd at hs
  split at hs
  · split at hs
    · rename_i hc
      cases hs
      exact lv_dadd hx hb hd (by unfold vf_n64; exact of_decide_eq_true hc) k
    · cases hs
  · cases hs)
theorem k_ddiv (hd : decode cc pc = .ok (.ddiv, 1)) : JOk tab cc own nm nL scr pc (a_stk 1 s_ddiv) := k_stk (by
  intro p l e R s m args below meth c H locs cells slots Q ls a st st' hx hb hs k
  unfold s_ddiv at hs
  split at hs
  · split at hs
    · rename_i hc
      cases hs
      exact lv_ddiv hx hb hd (by unfold vf_n64; exact of_decide_eq_true hc) k
    · cases hs
  · cases hs)
theorem k_dcmp {op : CmpOp} (hd : decode cc pc = .ok (.dcmp op, 1)) : JOk tab cc own nm nL scr pc (a_stk 1 (s_dcmp op)) := k_stk (by
  intro p l e R s m args below meth c H locs cells slots Q ls a st st' hx hb hs k
  unfold s_dcmp at hs
  split at hs
  · cases hs
    exact lv_dcmp hx hb hd k
  · cases hs)
theorem k_lcmp (hd : decode cc pc = .ok (.lcmp, 1)) : JOk tab cc own nm nL scr pc (a_stk 1 s_lcmp) := k_stk (by
  intro p l e R s m args below meth c H locs cells slots Q ls a st st' hx hb hs k
  unfold s_lcmp at hs
  split at hs
  · cases hs
    exact W.lcmp hx hb hd k
  · cases hs)
/-! actions that leave the heap: a general way in -/
def jLoc (tab : Nat → JM5) (cc : ByteArray) (own : String) (nm : String × List (Nat × Nat × Nat × Nat)) (nL : Nat) (scr : Option (Nat × (Nat → Int32))) (pc : Nat) (act : JA) : Prop := ∀ l st h f' h', act (pc, l, st) h = some (.inl (f', h')) → h' = h ∧
  ∀ dd (p : Program) (l0 : Launch) (e : Env) (R : Room) (s : State) (m : MethodId) (args : Array Value) (below : List Frame) (meth : Method) (c : Code) (D : va_G) (g : Nat → ClassId) (A : Nat → Prop) (n n0 : Nat) (a0 : Nat → Nat) (c0 s0 cE sE : Nat) (Q : State → Prop), 1 ≤ dd →
    jC cc own nm nL dd scr ((p, l0, e, R, s), (m, args, below, meth, c), (D, g), (A, n, n0, a0), (c0, s0, cE, sE), Q) →
    ∀ (a : Nat → Nat) (ls : Array Slot) (H : Heap) (locs : List Loc) (cells slots : Nat), lv_has ls n (l.map (fun q => (q.1, tv a q.2))) →
    jQ ((p, l0, e, R, s), (m, args, below, meth, c), (D, g), (A, n, n0, a0), (c0, s0, cE, sE), Q) a h H locs cells slots → h.2.1 ≤ cE → h.2.2.1 ≤ sE →
    (∀ ls' : Array Slot, lv_has ls' n (f'.2.1.map (fun q => (q.1, tv a q.2))) → W p l0 e R s m args below meth c H locs cells slots Q (F0 m f'.1 ls' (f'.2.2.map (tv a)))) → W p l0 e R s m args below meth c H locs cells slots Q (F0 m pc ls (st.map (tv a)))
theorem k_loc {act : JA} (h0 : ∀ f h y, act f h ≠ some (.inr y)) (hk : jLoc tab cc own nm nL scr pc act) : JOk tab cc own nm nL scr pc act := by
  refine ⟨fun l st h f' h' e => ?_, fun dd X hdd C l st h => ?_⟩
  · obtain ⟨rfl, -⟩ := hk l st h f' h' e
    exact jLe.rf
  · obtain ⟨⟨p, ln, e, R, s⟩, ⟨m, args, below, meth, c⟩, ⟨D, g⟩, ⟨A, n, n0, a0⟩, ⟨c0, s0, cE, sE⟩, Q⟩ := X
    cases hs : act (pc, l, st) h with
    | none => trivial
    | some y =>
      obtain ⟨f', h'⟩ | y := y
      · obtain ⟨rfl, q⟩ := hk l st h f' h' hs
        intro _ _ k a ls H locs cells slots h1 h2 h3 h4
        exact q dd p ln e R s m args below meth c D g A n n0 a0 c0 s0 cE sE Q hdd C a ls H locs cells slots h1 h2 h3 h4 (fun ls' h5 => k a ls' H locs cells slots h5 h2 h3 h4)
      · exact absurd hs (h0 _ _ y)
def a_ild (len i : Nat) : JA := fun f h => match jlv f.2.1 i with
  | some (.int x) => some (.inl ((f.1 + len, f.2.1, .int x :: f.2.2), h))
  | _ => none
def a_ald (len i : Nat) : JA := fun f h => match jlv f.2.1 i with
  | some (.ref x) => some (.inl ((f.1 + len, f.2.1, .ref x :: f.2.2), h))
  | _ => none
def a_lld (len i : Nat) : JA := fun f h => match jlv f.2.1 i with
  | some (.long x) => some (.inl ((f.1 + len, f.2.1, .long x :: f.2.2), h))
  | _ => none
def a_dld (len i : Nat) : JA := fun f h => match jlv f.2.1 i with
  | some (.double x) => some (.inl ((f.1 + len, f.2.1, .double x :: f.2.2), h))
  | _ => none
def a_ist (len i : Nat) : JA := fun f h => match f.2.2 with
  | .int x :: r => some (.inl ((f.1 + len, (i, .int x) :: f.2.1.filter (fun q => !(q.1 == i) && !(q.1 + 1 == i && q.2.category == 2)), r), h))
  | _ => none
def a_ast (len i : Nat) : JA := fun f h => match f.2.2 with
  | .ref x :: r => some (.inl ((f.1 + len, (i, .ref x) :: f.2.1.filter (fun q => !(q.1 == i) && !(q.1 + 1 == i && q.2.category == 2)), r), h))
  | _ => none
def a_lst (len i : Nat) : JA := fun f h => match f.2.2 with
  | .long x :: r => some (.inl ((f.1 + len, (i, .long x) :: f.2.1.filter (fun q => !(q.1 == i) && (!(q.1 == i + 1) && !(q.1 + 1 == i && q.2.category == 2))), r), h))
  | _ => none
def a_dst (len i : Nat) : JA := fun f h => match f.2.2 with
  | .double x :: r => some (.inl ((f.1 + len, (i, .double x) :: f.2.1.filter (fun q => !(q.1 == i) && (!(q.1 == i + 1) && !(q.1 + 1 == i && q.2.category == 2))), r), h))
  | _ => none
def a_iinc (i : Nat) (d : Int32) : JA := fun f h => match jlv f.2.1 i with
  | some (.int x) => some (.inl ((f.1 + 3, (i, .int (x + d)) :: f.2.1.filter (fun q => !(q.1 == i) && !(q.1 + 1 == i && q.2.category == 2)), f.2.2), h))
  | _ => none
def a_goto (t : Nat) : JA := fun f h => some (.inl ((t, f.2.1, f.2.2), h))
def a_ldc2 (v : Int64) : JA := fun f h => some (.inl ((f.1 + 3, f.2.1, .long v :: f.2.2), h))
theorem k_ild {i : Nat} (hd : decode cc pc = .ok (.iload i, 2)) : JOk tab cc own nm nL scr pc (a_ild 2 i) := k_loc (fun f h y e => by unfold a_ild at e; split at e <;> cases e) (by
  intro l st h f' h' e
  unfold a_ild at e
  split at e
  · rename_i x hx
    cases e
    refine ⟨rfl, fun dd p l0 e R s m args below meth c D g A n n0 a0 c0 s0 cE sE Q hdd C a ls H locs cells slots hl hq h1 h2 k => ?_⟩
    exact lv_iload C.1 C.2.1 hd (jlv_at hl hx) (k ls hl)
  · cases e)
theorem k_ild_n {n : Fin 4} {i : Nat} (hd : decode cc pc = .ok (.iload_n n, 1)) (hi : (n : Nat) = i) : JOk tab cc own nm nL scr pc (a_ild 1 i) := k_loc (fun f h y e => by unfold a_ild at e; split at e <;> cases e) (by
  intro l st h f' h' e
  unfold a_ild at e
  split at e
  · rename_i x hx
    cases e
    refine ⟨rfl, fun dd p l0 e R s m args below meth c D g A n n0 a0 c0 s0 cE sE Q hdd C a ls H locs cells slots hl hq h1 h2 k => ?_⟩
    exact lv_iload_n C.1 C.2.1 hd hi (jlv_at hl hx) (k ls hl)
  · cases e)
theorem k_ald {i : Nat} (hd : decode cc pc = .ok (.aload i, 2)) : JOk tab cc own nm nL scr pc (a_ald 2 i) := k_loc (fun f h y e => by unfold a_ald at e; split at e <;> cases e) (by
  intro l st h f' h' e
  unfold a_ald at e
  split at e
  · rename_i x hx
    cases e
    refine ⟨rfl, fun dd p l0 e R s m args below meth c D g A n n0 a0 c0 s0 cE sE Q hdd C a ls H locs cells slots hl hq h1 h2 k => ?_⟩
    exact lv_aload C.1 C.2.1 hd (jlv_at hl hx) (k ls hl)
  · cases e)
theorem k_ald_n {n : Fin 4} {i : Nat} (hd : decode cc pc = .ok (.aload_n n, 1)) (hi : (n : Nat) = i) : JOk tab cc own nm nL scr pc (a_ald 1 i) := k_loc (fun f h y e => by unfold a_ald at e; split at e <;> cases e) (by
  intro l st h f' h' e
  unfold a_ald at e
  split at e
  · rename_i x hx
    cases e
    refine ⟨rfl, fun dd p l0 e R s m args below meth c D g A n n0 a0 c0 s0 cE sE Q hdd C a ls H locs cells slots hl hq h1 h2 k => ?_⟩
    exact lv_aload_n C.1 C.2.1 hd hi (jlv_at hl hx) (k ls hl)
  · cases e)
theorem k_lld {i : Nat} (hd : decode cc pc = .ok (.lload i, 2)) : JOk tab cc own nm nL scr pc (a_lld 2 i) := k_loc (fun f h y e => by unfold a_lld at e; split at e <;> cases e) (by
  intro l st h f' h' e
  unfold a_lld at e
  split at e
  · rename_i x hx
    cases e
    refine ⟨rfl, fun dd p l0 e R s m args below meth c D g A n n0 a0 c0 s0 cE sE Q hdd C a ls H locs cells slots hl hq h1 h2 k => ?_⟩
    exact lv_lload C.1 C.2.1 hd (jlv_at hl hx) (k ls hl)
  · cases e)
theorem k_lld_n {n : Fin 4} {i : Nat} (hd : decode cc pc = .ok (.lload_n n, 1)) (hi : (n : Nat) = i) : JOk tab cc own nm nL scr pc (a_lld 1 i) := k_loc (fun f h y e => by unfold a_lld at e; split at e <;> cases e) (by
  intro l st h f' h' e
  unfold a_lld at e
  split at e
  · rename_i x hx
    cases e
    refine ⟨rfl, fun dd p l0 e R s m args below meth c D g A n n0 a0 c0 s0 cE sE Q hdd C a ls H locs cells slots hl hq h1 h2 k => ?_⟩
    exact lv_lload_n C.1 C.2.1 hd hi (jlv_at hl hx) (k ls hl)
  · cases e)
theorem k_dld {i : Nat} (hd : decode cc pc = .ok (.dload i, 2)) : JOk tab cc own nm nL scr pc (a_dld 2 i) := k_loc (fun f h y e => by unfold a_dld at e; split at e <;> cases e) (by
  intro l st h f' h' e
  unfold a_dld at e
  split at e
  · rename_i x hx
    cases e
    refine ⟨rfl, fun dd p l0 e R s m args below meth c D g A n n0 a0 c0 s0 cE sE Q hdd C a ls H locs cells slots hl hq h1 h2 k => ?_⟩
    exact lv_dload C.1 C.2.1 hd (jlv_at hl hx) (k ls hl)
  · cases e)
theorem k_dld_n {n : Fin 4} {i : Nat} (hd : decode cc pc = .ok (.dload_n n, 1)) (hi : (n : Nat) = i) : JOk tab cc own nm nL scr pc (a_dld 1 i) := k_loc (fun f h y e => by unfold a_dld at e; split at e <;> cases e) (by
  intro l st h f' h' e
  unfold a_dld at e
  split at e
  · rename_i x hx
    cases e
    refine ⟨rfl, fun dd p l0 e R s m args below meth c D g A n n0 a0 c0 s0 cE sE Q hdd C a ls H locs cells slots hl hq h1 h2 k => ?_⟩
    exact lv_dload_n C.1 C.2.1 hd hi (jlv_at hl hx) (k ls hl)
  · cases e)
theorem k_ist {i : Nat} (hd : decode cc pc = .ok (.istore i, 2)) (hi2 : i < nL) : JOk tab cc own nm nL scr pc (a_ist 2 i) := k_loc (fun f h y e => by unfold a_ist at e; split at e <;> cases e) (by
  intro l st h f' h' e
  unfold a_ist at e
  split at e
  · rename_i x r hx
    cases e
    cases hx
    refine ⟨rfl, fun dd p l0 e R s m args below meth c D g A n n0 a0 c0 s0 cE sE Q hdd C a ls H locs cells slots hl hq h1 h2 k => ?_⟩
    exact lv_istore C.1 C.2.1 hd hl (by rw [C.2.2.2.1.2]; exact hi2) (tv_store1 a i (.int x) l) (fun ls' h' => k ls' h')
  · cases e)
theorem k_ist_n {n : Fin 4} {i : Nat} (hd : decode cc pc = .ok (.istore_n n, 1)) (hi : (n : Nat) = i) (hi2 : i < nL) : JOk tab cc own nm nL scr pc (a_ist 1 i) := k_loc (fun f h y e => by unfold a_ist at e; split at e <;> cases e) (by
  intro l st h f' h' e
  unfold a_ist at e
  split at e
  · rename_i x r hx
    cases e
    cases hx
    refine ⟨rfl, fun dd p l0 e R s m args below meth c D g A n n0 a0 c0 s0 cE sE Q hdd C a ls H locs cells slots hl hq h1 h2 k => ?_⟩
    exact lv_istore_n C.1 C.2.1 hd hi hl (by rw [C.2.2.2.1.2]; exact hi2) (tv_store1 a i (.int x) l) (fun ls' h' => k ls' h')
  · cases e)
theorem k_ast {i : Nat} (hd : decode cc pc = .ok (.astore i, 2)) (hi2 : i < nL) : JOk tab cc own nm nL scr pc (a_ast 2 i) := k_loc (fun f h y e => by unfold a_ast at e; split at e <;> cases e) (by
  intro l st h f' h' e
  unfold a_ast at e
  split at e
  · rename_i x r hx
    cases e
    cases hx
    refine ⟨rfl, fun dd p l0 e R s m args below meth c D g A n n0 a0 c0 s0 cE sE Q hdd C a ls H locs cells slots hl hq h1 h2 k => ?_⟩
    exact lv_astore C.1 C.2.1 hd hl (by rw [C.2.2.2.1.2]; exact hi2) (tv_store1 a i (.ref x) l) (fun ls' h' => k ls' h')
  · cases e)
theorem k_ast_n {n : Fin 4} {i : Nat} (hd : decode cc pc = .ok (.astore_n n, 1)) (hi : (n : Nat) = i) (hi2 : i < nL) : JOk tab cc own nm nL scr pc (a_ast 1 i) := k_loc (fun f h y e => by unfold a_ast at e; split at e <;> cases e) (by
  intro l st h f' h' e
  unfold a_ast at e
  split at e
  · rename_i x r hx
    cases e
    cases hx
    refine ⟨rfl, fun dd p l0 e R s m args below meth c D g A n n0 a0 c0 s0 cE sE Q hdd C a ls H locs cells slots hl hq h1 h2 k => ?_⟩
    exact lv_astore_n C.1 C.2.1 hd hi hl (by rw [C.2.2.2.1.2]; exact hi2) (tv_store1 a i (.ref x) l) (fun ls' h' => k ls' h')
  · cases e)
theorem k_lst {i : Nat} (hd : decode cc pc = .ok (.lstore i, 2)) (hi2 : i + 1 < nL) : JOk tab cc own nm nL scr pc (a_lst 2 i) := k_loc (fun f h y e => by unfold a_lst at e; split at e <;> cases e) (by
  intro l st h f' h' e
  unfold a_lst at e
  split at e
  · rename_i x r hx
    cases e
    cases hx
    refine ⟨rfl, fun dd p l0 e R s m args below meth c D g A n n0 a0 c0 s0 cE sE Q hdd C a ls H locs cells slots hl hq h1 h2 k => ?_⟩
    exact lv_lstore C.1 C.2.1 hd hl (by rw [C.2.2.2.1.2]; exact hi2) (tv_store2 a i (.long x) l) (fun ls' h' => k ls' h')
  · cases e)
theorem k_lst_n {n : Fin 4} {i : Nat} (hd : decode cc pc = .ok (.lstore_n n, 1)) (hi : (n : Nat) = i) (hi2 : i + 1 < nL) : JOk tab cc own nm nL scr pc (a_lst 1 i) := k_loc (fun f h y e => by unfold a_lst at e; split at e <;> cases e) (by
  intro l st h f' h' e
  unfold a_lst at e
  split at e
  · rename_i x r hx
    cases e
    cases hx
    refine ⟨rfl, fun dd p l0 e R s m args below meth c D g A n n0 a0 c0 s0 cE sE Q hdd C a ls H locs cells slots hl hq h1 h2 k => ?_⟩
    exact lv_lstore_n C.1 C.2.1 hd hi hl (by rw [C.2.2.2.1.2]; exact hi2) (tv_store2 a i (.long x) l) (fun ls' h' => k ls' h')
  · cases e)
theorem k_dst {i : Nat} (hd : decode cc pc = .ok (.dstore i, 2)) (hi2 : i + 1 < nL) : JOk tab cc own nm nL scr pc (a_dst 2 i) := k_loc (fun f h y e => by unfold a_dst at e; split at e <;> cases e) (by
  intro l st h f' h' e
  unfold a_dst at e
  split at e
  · rename_i x r hx
    cases e
    cases hx
    refine ⟨rfl, fun dd p l0 e R s m args below meth c D g A n n0 a0 c0 s0 cE sE Q hdd C a ls H locs cells slots hl hq h1 h2 k => ?_⟩
    exact lv_dstore C.1 C.2.1 hd hl (by rw [C.2.2.2.1.2]; exact hi2) (tv_store2 a i (.double x) l) (fun ls' h' => k ls' h')
  · cases e)
theorem k_dst_n {n : Fin 4} {i : Nat} (hd : decode cc pc = .ok (.dstore_n n, 1)) (hi : (n : Nat) = i) (hi2 : i + 1 < nL) : JOk tab cc own nm nL scr pc (a_dst 1 i) := k_loc (fun f h y e => by unfold a_dst at e; split at e <;> cases e) (by
  intro l st h f' h' e
  unfold a_dst at e
  split at e
  · rename_i x r hx
    cases e
    cases hx
    refine ⟨rfl, fun dd p l0 e R s m args below meth c D g A n n0 a0 c0 s0 cE sE Q hdd C a ls H locs cells slots hl hq h1 h2 k => ?_⟩
    exact lv_dstore_n C.1 C.2.1 hd hi hl (by rw [C.2.2.2.1.2]; exact hi2) (tv_store2 a i (.double x) l) (fun ls' h' => k ls' h')
  · cases e)
theorem k_iinc {i : Nat} {n : Int} {d : Int32} (hd : decode cc pc = .ok (.iinc i n, 3)) (hn : Int32.ofInt n = d) (hi2 : i < nL) : JOk tab cc own nm nL scr pc (a_iinc i d) := k_loc (fun f h y e => by unfold a_iinc at e; split at e <;> cases e) (by
  intro l st h f' h' e
  unfold a_iinc at e
  split at e
  · rename_i x hx
    cases e
    refine ⟨rfl, fun dd p l0 e R s m args below meth c D g A n n0 a0 c0 s0 cE sE Q hdd C a ls H locs cells slots hl hq h1 h2 k => ?_⟩
    obtain ⟨k0, hk0⟩ := jlv_k (a := a) hx
    exact lv_iinc (v := x + d) C.1 C.2.1 hd hl hk0 (by rw [hn]) (by rw [C.2.2.2.1.2]; exact hi2) (tv_store1 a i (.int (x + d)) l) (fun ls' h' => k ls' h')
  · cases e)
theorem k_goto {off : Int} {t : Nat} (hd : decode cc pc = .ok (.goto off, 3)) (ht : (pc : Int) + off = (t : Int)) : JOk tab cc own nm nL scr pc (a_goto t) := k_loc (fun f h y e => by unfold a_goto at e; cases e) (by
  intro l st h f' h' e
  unfold a_goto at e
  cases e
  refine ⟨rfl, fun dd p l0 e R s m args below meth c D g A n n0 a0 c0 s0 cE sE Q hdd C a ls H locs cells slots hl hq h1 h2 k => ?_⟩
  exact lv_goto C.1 C.2.1 hd ht (k ls hl))
theorem k_ldc2 {i : Nat} {v : Int64} (hd : decode cc pc = .ok (.ldc2_w i, 3)) (hw : Cond.constantLong own i v ∈ GW) : JOk tab cc own nm nL scr pc (a_ldc2 v) := k_loc (fun f h y e => by unfold a_ldc2 at e; cases e) (by
  intro l st h f' h' e
  unfold a_ldc2 at e
  cases e
  refine ⟨rfl, fun dd p l0 e R s m args below meth c D g A n n0 a0 c0 s0 cE sE Q hdd C a ls H locs cells slots hl hq h1 h2 k => ?_⟩
  exact lv_ldc2 C.1 C.2.1 C.2.2.1 (C.2.2.2.2.1 _ hw) hd (k ls hl))
/-! branches -/
def a_br (t : Nat) (sem : List Value → Option (Bool × List Value)) : JA := fun f h => match sem f.2.2 with
  | some (b, st) => some (.inl ((bif b then t else f.1 + 3, f.2.1, st), h))
  | none => none
def b_if_eq : List Value → Option (Bool × List Value) := fun st => match st with
  | .int x :: r => some (decide (x = 0), r)
  | _ => none
theorem k_if_eq {off : Int} {t : Nat} (hd : decode cc pc = .ok (.ifCond .eq off, 3)) (ht : (pc : Int) + off = (t : Int)) : JOk tab cc own nm nL scr pc (a_br t b_if_eq) := k_loc (fun f h y e => by unfold a_br at e; split at e <;> cases e) (by
  intro l st h f' h' e
  unfold a_br b_if_eq at e
  dsimp only at e
  split at e
  · rename_i b st' hs
    cases e
    refine ⟨rfl, fun dd p l0 e R s m args below meth c D g A n n0 a0 c0 s0 cE sE Q hdd C a ls H locs cells slots hl hq h1 h2 k => ?_⟩
    split at hs
    · cases hs
      refine lv_if_eq C.1 C.2.1 hd ht (fun hc => ?_) (fun hc => ?_)
      · have k' := k ls hl
        simp only [decide_eq_true hc, cond_true] at k'
        exact k'
      · have k' := k ls hl
        simp only [decide_eq_false hc, cond_false] at k'
        exact k'
    · cases hs
  · cases e)
def b_icmp_eq : List Value → Option (Bool × List Value) := fun st => match st with
  | .int y :: .int x :: r => some (decide (x = y), r)
  | _ => none
theorem k_icmp_eq {off : Int} {t : Nat} (hd : decode cc pc = .ok (.if_icmp .eq off, 3)) (ht : (pc : Int) + off = (t : Int)) : JOk tab cc own nm nL scr pc (a_br t b_icmp_eq) := k_loc (fun f h y e => by unfold a_br at e; split at e <;> cases e) (by
  intro l st h f' h' e
  unfold a_br b_icmp_eq at e
  dsimp only at e
  split at e
  · rename_i b st' hs
    cases e
    refine ⟨rfl, fun dd p l0 e R s m args below meth c D g A n n0 a0 c0 s0 cE sE Q hdd C a ls H locs cells slots hl hq h1 h2 k => ?_⟩
    split at hs
    · cases hs
      refine lv_icmp_eq C.1 C.2.1 hd ht (fun hc => ?_) (fun hc => ?_)
      · have k' := k ls hl
        simp only [decide_eq_true hc, cond_true] at k'
        exact k'
      · have k' := k ls hl
        simp only [decide_eq_false hc, cond_false] at k'
        exact k'
    · cases hs
  · cases e)
def b_if_ne : List Value → Option (Bool × List Value) := fun st => match st with
  | .int x :: r => some (decide (¬ x = 0), r)
  | _ => none
theorem k_if_ne {off : Int} {t : Nat} (hd : decode cc pc = .ok (.ifCond .ne off, 3)) (ht : (pc : Int) + off = (t : Int)) : JOk tab cc own nm nL scr pc (a_br t b_if_ne) := k_loc (fun f h y e => by unfold a_br at e; split at e <;> cases e) (by
  intro l st h f' h' e
  unfold a_br b_if_ne at e
  dsimp only at e
  split at e
  · rename_i b st' hs
    cases e
    refine ⟨rfl, fun dd p l0 e R s m args below meth c D g A n n0 a0 c0 s0 cE sE Q hdd C a ls H locs cells slots hl hq h1 h2 k => ?_⟩
    split at hs
    · cases hs
      refine lv_if_ne C.1 C.2.1 hd ht (fun hc => ?_) (fun hc => ?_)
      · have k' := k ls hl
        simp only [decide_eq_true hc, cond_true] at k'
        exact k'
      · have k' := k ls hl
        simp only [decide_eq_false (not_not_intro hc), cond_false] at k'
        exact k'
    · cases hs
  · cases e)
def b_icmp_ne : List Value → Option (Bool × List Value) := fun st => match st with
  | .int y :: .int x :: r => some (decide (¬ x = y), r)
  | _ => none
theorem k_icmp_ne {off : Int} {t : Nat} (hd : decode cc pc = .ok (.if_icmp .ne off, 3)) (ht : (pc : Int) + off = (t : Int)) : JOk tab cc own nm nL scr pc (a_br t b_icmp_ne) := k_loc (fun f h y e => by unfold a_br at e; split at e <;> cases e) (by
  intro l st h f' h' e
  unfold a_br b_icmp_ne at e
  dsimp only at e
  split at e
  · rename_i b st' hs
    cases e
    refine ⟨rfl, fun dd p l0 e R s m args below meth c D g A n n0 a0 c0 s0 cE sE Q hdd C a ls H locs cells slots hl hq h1 h2 k => ?_⟩
    split at hs
    · cases hs
      refine lv_icmp_ne C.1 C.2.1 hd ht (fun hc => ?_) (fun hc => ?_)
      · have k' := k ls hl
        simp only [decide_eq_true hc, cond_true] at k'
        exact k'
      · have k' := k ls hl
        simp only [decide_eq_false (not_not_intro hc), cond_false] at k'
        exact k'
    · cases hs
  · cases e)
def b_if_lt : List Value → Option (Bool × List Value) := fun st => match st with
  | .int x :: r => some (decide (x < 0), r)
  | _ => none
theorem k_if_lt {off : Int} {t : Nat} (hd : decode cc pc = .ok (.ifCond .lt off, 3)) (ht : (pc : Int) + off = (t : Int)) : JOk tab cc own nm nL scr pc (a_br t b_if_lt) := k_loc (fun f h y e => by unfold a_br at e; split at e <;> cases e) (by
  intro l st h f' h' e
  unfold a_br b_if_lt at e
  dsimp only at e
  split at e
  · rename_i b st' hs
    cases e
    refine ⟨rfl, fun dd p l0 e R s m args below meth c D g A n n0 a0 c0 s0 cE sE Q hdd C a ls H locs cells slots hl hq h1 h2 k => ?_⟩
    split at hs
    · cases hs
      refine lv_if_lt C.1 C.2.1 hd ht (fun hc => ?_) (fun hc => ?_)
      · have k' := k ls hl
        simp only [decide_eq_true hc, cond_true] at k'
        exact k'
      · have k' := k ls hl
        simp only [decide_eq_false hc, cond_false] at k'
        exact k'
    · cases hs
  · cases e)
def b_icmp_lt : List Value → Option (Bool × List Value) := fun st => match st with
  | .int y :: .int x :: r => some (decide (x < y), r)
  | _ => none
theorem k_icmp_lt {off : Int} {t : Nat} (hd : decode cc pc = .ok (.if_icmp .lt off, 3)) (ht : (pc : Int) + off = (t : Int)) : JOk tab cc own nm nL scr pc (a_br t b_icmp_lt) := k_loc (fun f h y e => by unfold a_br at e; split at e <;> cases e) (by
  intro l st h f' h' e
  unfold a_br b_icmp_lt at e
  dsimp only at e
  split at e
  · rename_i b st' hs
    cases e
    refine ⟨rfl, fun dd p l0 e R s m args below meth c D g A n n0 a0 c0 s0 cE sE Q hdd C a ls H locs cells slots hl hq h1 h2 k => ?_⟩
    split at hs
    · cases hs
      refine lv_icmp_lt C.1 C.2.1 hd ht (fun hc => ?_) (fun hc => ?_)
      · have k' := k ls hl
        simp only [decide_eq_true hc, cond_true] at k'
        exact k'
      · have k' := k ls hl
        simp only [decide_eq_false hc, cond_false] at k'
        exact k'
    · cases hs
  · cases e)
def b_if_ge : List Value → Option (Bool × List Value) := fun st => match st with
  | .int x :: r => some (decide (0 ≤ x), r)
  | _ => none
theorem k_if_ge {off : Int} {t : Nat} (hd : decode cc pc = .ok (.ifCond .ge off, 3)) (ht : (pc : Int) + off = (t : Int)) : JOk tab cc own nm nL scr pc (a_br t b_if_ge) := k_loc (fun f h y e => by unfold a_br at e; split at e <;> cases e) (by
  intro l st h f' h' e
  unfold a_br b_if_ge at e
  dsimp only at e
  split at e
  · rename_i b st' hs
    cases e
    refine ⟨rfl, fun dd p l0 e R s m args below meth c D g A n n0 a0 c0 s0 cE sE Q hdd C a ls H locs cells slots hl hq h1 h2 k => ?_⟩
    split at hs
    · cases hs
      refine lv_if_ge C.1 C.2.1 hd ht (fun hc => ?_) (fun hc => ?_)
      · have k' := k ls hl
        simp only [decide_eq_true hc, cond_true] at k'
        exact k'
      · have k' := k ls hl
        simp only [decide_eq_false hc, cond_false] at k'
        exact k'
    · cases hs
  · cases e)
def b_icmp_ge : List Value → Option (Bool × List Value) := fun st => match st with
  | .int y :: .int x :: r => some (decide (y ≤ x), r)
  | _ => none
theorem k_icmp_ge {off : Int} {t : Nat} (hd : decode cc pc = .ok (.if_icmp .ge off, 3)) (ht : (pc : Int) + off = (t : Int)) : JOk tab cc own nm nL scr pc (a_br t b_icmp_ge) := k_loc (fun f h y e => by unfold a_br at e; split at e <;> cases e) (by
  intro l st h f' h' e
  unfold a_br b_icmp_ge at e
  dsimp only at e
  split at e
  · rename_i b st' hs
    cases e
    refine ⟨rfl, fun dd p l0 e R s m args below meth c D g A n n0 a0 c0 s0 cE sE Q hdd C a ls H locs cells slots hl hq h1 h2 k => ?_⟩
    split at hs
    · cases hs
      refine lv_icmp_ge C.1 C.2.1 hd ht (fun hc => ?_) (fun hc => ?_)
      · have k' := k ls hl
        simp only [decide_eq_true hc, cond_true] at k'
        exact k'
      · have k' := k ls hl
        simp only [decide_eq_false hc, cond_false] at k'
        exact k'
    · cases hs
  · cases e)
def b_if_gt : List Value → Option (Bool × List Value) := fun st => match st with
  | .int x :: r => some (decide (0 < x), r)
  | _ => none
theorem k_if_gt {off : Int} {t : Nat} (hd : decode cc pc = .ok (.ifCond .gt off, 3)) (ht : (pc : Int) + off = (t : Int)) : JOk tab cc own nm nL scr pc (a_br t b_if_gt) := k_loc (fun f h y e => by unfold a_br at e; split at e <;> cases e) (by
  intro l st h f' h' e
  unfold a_br b_if_gt at e
  dsimp only at e
  split at e
  · rename_i b st' hs
    cases e
    refine ⟨rfl, fun dd p l0 e R s m args below meth c D g A n n0 a0 c0 s0 cE sE Q hdd C a ls H locs cells slots hl hq h1 h2 k => ?_⟩
    split at hs
    · cases hs
      refine lv_if_gt C.1 C.2.1 hd ht (fun hc => ?_) (fun hc => ?_)
      · have k' := k ls hl
        simp only [decide_eq_true hc, cond_true] at k'
        exact k'
      · have k' := k ls hl
        simp only [decide_eq_false hc, cond_false] at k'
        exact k'
    · cases hs
  · cases e)
def b_icmp_gt : List Value → Option (Bool × List Value) := fun st => match st with
  | .int y :: .int x :: r => some (decide (y < x), r)
  | _ => none
theorem k_icmp_gt {off : Int} {t : Nat} (hd : decode cc pc = .ok (.if_icmp .gt off, 3)) (ht : (pc : Int) + off = (t : Int)) : JOk tab cc own nm nL scr pc (a_br t b_icmp_gt) := k_loc (fun f h y e => by unfold a_br at e; split at e <;> cases e) (by
  intro l st h f' h' e
  unfold a_br b_icmp_gt at e
  dsimp only at e
  split at e
  · rename_i b st' hs
    cases e
    refine ⟨rfl, fun dd p l0 e R s m args below meth c D g A n n0 a0 c0 s0 cE sE Q hdd C a ls H locs cells slots hl hq h1 h2 k => ?_⟩
    split at hs
    · cases hs
      refine lv_icmp_gt C.1 C.2.1 hd ht (fun hc => ?_) (fun hc => ?_)
      · have k' := k ls hl
        simp only [decide_eq_true hc, cond_true] at k'
        exact k'
      · have k' := k ls hl
        simp only [decide_eq_false hc, cond_false] at k'
        exact k'
    · cases hs
  · cases e)
def b_if_le : List Value → Option (Bool × List Value) := fun st => match st with
  | .int x :: r => some (decide (x ≤ 0), r)
  | _ => none
theorem k_if_le {off : Int} {t : Nat} (hd : decode cc pc = .ok (.ifCond .le off, 3)) (ht : (pc : Int) + off = (t : Int)) : JOk tab cc own nm nL scr pc (a_br t b_if_le) := k_loc (fun f h y e => by unfold a_br at e; split at e <;> cases e) (by
  intro l st h f' h' e
  unfold a_br b_if_le at e
  dsimp only at e
  split at e
  · rename_i b st' hs
    cases e
    refine ⟨rfl, fun dd p l0 e R s m args below meth c D g A n n0 a0 c0 s0 cE sE Q hdd C a ls H locs cells slots hl hq h1 h2 k => ?_⟩
    split at hs
    · cases hs
      refine lv_if_le C.1 C.2.1 hd ht (fun hc => ?_) (fun hc => ?_)
      · have k' := k ls hl
        simp only [decide_eq_true hc, cond_true] at k'
        exact k'
      · have k' := k ls hl
        simp only [decide_eq_false hc, cond_false] at k'
        exact k'
    · cases hs
  · cases e)
def b_icmp_le : List Value → Option (Bool × List Value) := fun st => match st with
  | .int y :: .int x :: r => some (decide (x ≤ y), r)
  | _ => none
theorem k_icmp_le {off : Int} {t : Nat} (hd : decode cc pc = .ok (.if_icmp .le off, 3)) (ht : (pc : Int) + off = (t : Int)) : JOk tab cc own nm nL scr pc (a_br t b_icmp_le) := k_loc (fun f h y e => by unfold a_br at e; split at e <;> cases e) (by
  intro l st h f' h' e
  unfold a_br b_icmp_le at e
  dsimp only at e
  split at e
  · rename_i b st' hs
    cases e
    refine ⟨rfl, fun dd p l0 e R s m args below meth c D g A n n0 a0 c0 s0 cE sE Q hdd C a ls H locs cells slots hl hq h1 h2 k => ?_⟩
    split at hs
    · cases hs
      refine lv_icmp_le C.1 C.2.1 hd ht (fun hc => ?_) (fun hc => ?_)
      · have k' := k ls hl
        simp only [decide_eq_true hc, cond_true] at k'
        exact k'
      · have k' := k ls hl
        simp only [decide_eq_false hc, cond_false] at k'
        exact k'
    · cases hs
  · cases e)
/-! switches over 0, 1, .. -/
def a_sw (ts : List Nat) (d : Nat) : JA := fun f h => match f.2.2 with
  | .int x :: r => some (.inl ((if x < 0 then d else ts.getD x.toNatClampNeg d, f.2.1, r), h))
  | _ => none
theorem j_clamp {x : Int32} (h : ¬ x < 0) : x.toInt = (x.toNatClampNeg : Int) := by
  have hz0 : (0 : Int) ≤ x.toInt := by
    have := Int32.not_lt.mp h
    simpa using Int32.le_iff_toInt_le.mp this
  show x.toInt = ((x.toInt.toNat : Nat) : Int)
  omega
theorem k_tsw {dflt : Int} {offs : Array Int} {hi : Int} {len d : Nat} {ts : List Nat} (hd : decode cc pc = .ok (.tableswitch dflt 0 hi offs, len)) (hdf : (pc : Int) + dflt = (d : Int)) (hhi : hi + 1 = (ts.length : Int)) (hts : offs.toList.map (fun o => (pc : Int) + o) = ts.map (fun t : Nat => (t : Int))) : JOk tab cc own nm nL scr pc (a_sw ts d) := k_loc (fun f h y e => by unfold a_sw at e; split at e <;> cases e) (by
  intro l st h f' h' e
  unfold a_sw at e
  split at e
  · rename_i x r hx
    cases e
    cases hx
    refine ⟨rfl, fun dd p l0 e R s m args below meth c D g A n n0 a0 c0 s0 cE sE Q hdd C a ls H locs cells slots hl hq h1 h2 k => ?_⟩
    have k' := k ls hl
    dsimp only at k'
    by_cases h0 : x < 0
    · rw [if_pos h0] at k'
      refine lv_tableOut C.1 C.2.1 hd (Or.inl ?_) hdf k'
      have := Int32.lt_iff_toInt_lt.mp h0
      simpa using this
    · rw [if_neg h0] at k'
      have hc := j_clamp h0
      by_cases h9 : x.toNatClampNeg < ts.length
      · have e9 : ts.getD x.toNatClampNeg d = ts[x.toNatClampNeg] := by rw [List.getD_eq_getElem?_getD, List.getElem?_eq_getElem h9]; rfl
        rw [e9] at k'
        have hl9 : offs.toList.length = ts.length := by
          have := congrArg List.length hts
          simpa using this
        have ho : x.toNatClampNeg < offs.toList.length := by omega
        refine lv_tableIn (off := offs.toList[x.toNatClampNeg]) C.1 C.2.1 hd (by omega) (by omega) (by
          rw [show (x.toInt - 0).toNat = x.toNatClampNeg by omega, ← Array.getElem?_toList, List.getElem?_eq_getElem ho]) ?_ k'
        have h8 : (offs.toList.map (fun o => (pc : Int) + o))[x.toNatClampNeg]? = (ts.map (fun t : Nat => (t : Int)))[x.toNatClampNeg]? := by rw [hts]
        rw [List.getElem?_map, List.getElem?_map, List.getElem?_eq_getElem ho, List.getElem?_eq_getElem h9] at h8
        exact Option.some.inj h8
      · rw [List.getD_eq_getElem?_getD, List.getElem?_eq_none (by omega)] at k'
        exact lv_tableOut C.1 C.2.1 hd (Or.inr (by omega)) hdf k'
  · cases e)
theorem k_tswL {dflt : Int} {offs : Array Int} {hi : Int} {lo len d : Nat} {ts tl : List Nat} (hd : decode cc pc = .ok (.tableswitch dflt (lo : Int) hi offs, len)) (hdf : (pc : Int) + dflt = (d : Int)) (hhi : hi + 1 = (ts.length : Int)) (htl : ts = List.replicate lo d ++ tl) (hts : offs.toList.map (fun o => (pc : Int) + o) = tl.map (fun t : Nat => (t : Int))) : JOk tab cc own nm nL scr pc (a_sw ts d) := k_loc (fun f h y e => by unfold a_sw at e; split at e <;> cases e) (by
  intro l st h f' h' e
  unfold a_sw at e
  split at e
  · rename_i x r hx
    cases e
    cases hx
    refine ⟨rfl, fun dd p l0 e R s m args below meth c D g A n n0 a0 c0 s0 cE sE Q hdd C a ls H locs cells slots hl hq h1 h2 k => ?_⟩
    have k' := k ls hl
    dsimp only at k'
    by_cases h0 : x < 0
    · rw [if_pos h0] at k'
      refine lv_tableOut C.1 C.2.1 hd (Or.inl ?_) hdf k'
      have := Int32.lt_iff_toInt_lt.mp h0
      have h00 : (0 : Int32).toInt = 0 := rfl
      omega
    · rw [if_neg h0] at k'
      have hc := j_clamp h0
      have hlen : ts.length = lo + tl.length := by rw [htl]; simp
      by_cases h8 : x.toNatClampNeg < lo
      · have e9 : ts.getD x.toNatClampNeg d = d := by
          rw [htl, List.getD_eq_getElem?_getD, List.getElem?_append_left (by simpa using h8), List.getElem?_replicate, if_pos h8]
          rfl
        rw [e9] at k'
        exact lv_tableOut C.1 C.2.1 hd (Or.inl (by omega)) hdf k'
      · by_cases h9 : x.toNatClampNeg - lo < tl.length
        · have e9 : ts.getD x.toNatClampNeg d = tl[x.toNatClampNeg - lo] := by
            rw [htl, List.getD_eq_getElem?_getD, List.getElem?_append_right (by simp; omega), List.length_replicate, List.getElem?_eq_getElem h9]
            rfl
          rw [e9] at k'
          have hl9 : offs.toList.length = tl.length := by
            have := congrArg List.length hts
            simpa using this
          have ho : x.toNatClampNeg - lo < offs.toList.length := by omega
          refine lv_tableIn (off := offs.toList[x.toNatClampNeg - lo]) C.1 C.2.1 hd (by omega) (by omega) (by
            rw [show (x.toInt - (lo : Int)).toNat = x.toNatClampNeg - lo by omega, ← Array.getElem?_toList, List.getElem?_eq_getElem ho]) ?_ k'
          have h8 : (offs.toList.map (fun o => (pc : Int) + o))[x.toNatClampNeg - lo]? = (tl.map (fun t : Nat => (t : Int)))[x.toNatClampNeg - lo]? := by rw [hts]
          rw [List.getElem?_map, List.getElem?_map, List.getElem?_eq_getElem ho, List.getElem?_eq_getElem h9] at h8
          exact Option.some.inj h8
        · rw [List.getD_eq_getElem?_getD, List.getElem?_eq_none (by omega)] at k'
          exact lv_tableOut C.1 C.2.1 hd (Or.inr (by omega)) hdf k'
  · cases e)
theorem k_lsw2 {dflt o0 o1 : Int} {len d t0 t1 : Nat} (hd : decode cc pc = .ok (.lookupswitch dflt #[(0, o0), (1, o1)], len)) (hdf : (pc : Int) + dflt = (d : Int)) (h0 : (pc : Int) + o0 = (t0 : Int)) (h1 : (pc : Int) + o1 = (t1 : Int)) : JOk tab cc own nm nL scr pc (a_sw [t0, t1] d) := k_loc (fun f h y e => by unfold a_sw at e; split at e <;> cases e) (by
  intro l st h f' h' e
  unfold a_sw at e
  split at e
  · rename_i x r hx
    cases e
    cases hx
    refine ⟨rfl, fun dd p l0 e R s m args below meth c D g A n n0 a0 c0 s0 cE sE Q hdd C a ls H locs cells slots hl hq g1 g2 k => ?_⟩
    have k' := k ls hl
    dsimp only at k'
    by_cases c0 : x = 0
    · subst c0
      exact lv_lookup (off := o0) (tgt := t0) C.1 C.2.1 hd (by simp) (by simp [Op.lookupswitch.offset]) h0 k'
    · by_cases c1 : x = 1
      · subst c1
        exact lv_lookup (off := o1) (tgt := t1) C.1 C.2.1 hd (by simp) (by simp [Op.lookupswitch.offset]) h1 k'
      · have e9 : (if x < 0 then d else [t0, t1].getD x.toNatClampNeg d) = d := by
          by_cases hn : x < 0
          · rw [if_pos hn]
          · rw [if_neg hn]
            have hc := j_clamp hn
            have n0 : x.toNatClampNeg ≠ 0 := fun q => c0 (Int32.toInt_inj.mp (by rw [hc, q]; rfl))
            have n1 : x.toNatClampNeg ≠ 1 := fun q => c1 (Int32.toInt_inj.mp (by rw [hc, q]; rfl))
            rw [List.getD_eq_getElem?_getD, List.getElem?_eq_none (by simp; omega)]
            rfl
        rw [e9] at k'
        exact lv_lookup (off := dflt) (tgt := d) C.1 C.2.1 hd (by simp) (by rw [lv_osw c0 (by rfl), lv_osw c1 (by rfl)]; rfl) hdf k'
  · cases e)
end JOPS
