/-! THE LIGHT MACHINE: the program's own cells by numbers (1, 2, ..; 0 is the script), a frame as (pc, locals, stack), a code table of actions. Its runs are plain values; each action is sound over the machine (JOk), and so is a method's whole run (Con, ConX). -/
abbrev JC : Type := (Nat × vp_A) ⊕ (Nat × List Value)
abbrev JM : Type := Nat → JC
abbrev JH : Type := Nat × Nat × Nat × JM
abbrev JF : Type := Nat × List (Nat × Value) × List Value
abbrev JO : Type := Option Value ⊕ String
abbrev JA : Type := JF → JH → Option ((JF × JH) ⊕ ((Nat × List Value × JF × List (String × Int32)) ⊕ JO))
/-- a value by the cells' addresses -/
def tv (a : Nat → Nat) (v : Value) : Value := match v with
  | .ref q => .ref (a q)
  | w => w
def tx (a : Nat → Nat) (y : vp_A) : vp_A := match y with
  | (n, .inr (.inr (.inr (.inr f)))) => (n, .inr (.inr (.inr (.inr (fun j => (f j).map a)))))
  | z => z
def te (g : Nat → ClassId) (a : Nat → Nat) (c : JC) : va_E := match c with
  | .inl (t, y) => .inl (g t, tx a y)
  | .inr (c, fs) => .inr (c, fs.map (tv a))
def vwf (n : Nat) (v : Value) : Prop := match v with
  | .ref q => q < n
  | _ => True
def jwf (n : Nat) (c : JC) : Prop := match c with
  | .inl (_, _, .inr (.inr (.inr (.inr f)))) => ∀ (j q : Nat), f j = some q → q < n
  | .inl _ => True
  | .inr (_, fs) => ∀ v ∈ fs, vwf n v
def vfb (n : Nat) (v : Value) : Bool := match v with
  | .ref q => decide (q < n)
  | _ => true
/-- all references of a frame are below n -/
def jfr (n : Nat) (f : JF) : Bool := f.2.1.all (fun q => vfb n q.2) && f.2.2.all (vfb n)
def jT (t : Nat) : FieldType := match t with
  | 0 => .int
  | 1 => .int
  | 2 => .int
  | 3 => .object "StandTugs$Stand"
  | 4 => .object "StandTugs$Tug"
  | 5 => .object "StandTugs$Aircraft"
  | _ => .object "StandTugs$Field"
def jtys (g : Nat → ClassId) : List (ClassId × FieldType) := (List.range 7).map fun t => (g t, jT t)
theorem jtys_at (g : Nat → ClassId) {t : Nat} (h : t < 7) : (jtys g)[t]? = some (g t, jT t) := by
  unfold jtys
  rw [List.getElem?_map, List.getElem?_range h]
  rfl
def jR (D : va_G) (g : Nat → ClassId) (a : Nat → Nat) (n : Nat) (M : JM) (H : Heap) : Prop :=
  (∀ q, 0 < q → q < n → va_at D vwCl (a q, te g a (M q)) H) ∧ (∀ q r, 0 < q → q < n → 0 < r → r < n → a q = a r → q = r) ∧ (∀ q, 0 < q → q < n → jwf n (M q)) ∧ 0 < n ∧ ∀ q, q = 0 ∨ n ≤ q → M q = .inr (99, [])
/-- which cells a run may change: its own, and new ones -/
def jA (a : Nat → Nat) (n sz : Nat) : Nat → Prop := fun x => (∃ q, 0 < q ∧ q < n ∧ a q = x) ∨ sz ≤ x
theorem tv_cat (a : Nat → Nat) (v : Value) : (tv a v).category = v.category := by cases v <;> rfl
theorem tv_catsum (a : Nat → Nat) (vs : List Value) : ((vs.map (tv a)).map fun v => v.category) = vs.map fun v => v.category := by
  rw [List.map_map]
  exact List.map_congr_left fun v _ => tv_cat a v
theorem tv_congr {a a' : Nat → Nat} {n : Nat} {v : Value} (h : ∀ q, q < n → a' q = a q) (hv : vwf n v) : tv a' v = tv a v := by
  cases v with
  | ref q => exact congrArg Value.ref (h q hv)
  | _ => rfl
theorem vwf_of {n : Nat} {v : Value} (h : vfb n v = true) : vwf n v := by
  cases v with
  | ref q => exact (of_decide_eq_true (p := q < n) h)
  | _ => trivial
theorem vwf_mono {n m : Nat} {v : Value} (h : n ≤ m) (hv : vwf n v) : vwf m v := by
  cases v with
  | ref q => exact Nat.lt_of_lt_of_le hv h
  | _ => trivial
theorem jwf_mono {n m : Nat} {c : JC} (h : n ≤ m) (hc : jwf n c) : jwf m c := by
  obtain ⟨t, k, f | f | f | f | f⟩ | ⟨c, fs⟩ := c
  · trivial
  · trivial
  · trivial
  · trivial
  · exact fun j q e => Nat.lt_of_lt_of_le (hc j q e) h
  · exact fun v hv => vwf_mono h (hc v hv)
theorem te_congr {g : Nat → ClassId} {a a' : Nat → Nat} {n : Nat} {c : JC} (h : ∀ q, q < n → a' q = a q) (hc : jwf n c) : te g a' c = te g a c := by
  obtain ⟨t, k, f | f | f | f | f⟩ | ⟨c, fs⟩ := c
  · rfl
  · rfl
  · rfl
  · rfl
  · show Sum.inl (g t, k, _) = Sum.inl (g t, k, _)
    have e : (fun j => (f j).map a') = fun j => (f j).map a := by
      funext j
      cases hj : f j with
      | none => rfl
      | some q => exact congrArg some (h q (hc j q hj))
    rw [e]
  · show Sum.inr (c, fs.map (tv a')) = Sum.inr (c, fs.map (tv a))
    rw [List.map_congr_left fun v hv => tv_congr h (hc v hv)]
theorem tvs_congr {a a' : Nat → Nat} {n : Nat} {vs : List Value} (h : ∀ q, q < n → a' q = a q) (hv : vs.all (vfb n) = true) : vs.map (tv a') = vs.map (tv a) :=
  List.map_congr_left fun v hm => tv_congr h (vwf_of (List.all_eq_true.mp hv v hm))
theorem tvl_congr {a a' : Nat → Nat} {n : Nat} {l : List (Nat × Value)} (h : ∀ q, q < n → a' q = a q) (hv : l.all (fun q => vfb n q.2) = true) : l.map (fun q => (q.1, tv a' q.2)) = l.map (fun q => (q.1, tv a q.2)) :=
  List.map_congr_left fun v hm => by rw [tv_congr h (vwf_of (List.all_eq_true.mp hv v hm))]
theorem lv_args_tv (a : Nat → Nat) : ∀ (vs : List Value) (i : Nat), lv_args i (vs.map (tv a)) = (lv_args i vs).map (fun q => (q.1, tv a q.2))
  | [], _ => rfl
  | v :: vs, i => by
    show (i, tv a v) :: lv_args (if (tv a v).category = 2 then i + 2 else i + 1) (vs.map (tv a)) = (i, tv a v) :: (lv_args (if v.category = 2 then i + 2 else i + 1) vs).map _
    rw [tv_cat, lv_args_tv a vs]
/-- storing keeps step with the addresses -/
theorem tv_store1 (a : Nat → Nat) (i : Nat) (v : Value) (l : List (Nat × Value)) : (i, tv a v) :: (l.map (fun q => (q.1, tv a q.2))).filter (fun q => !(q.1 == i) && !(q.1 + 1 == i && q.2.category == 2)) = ((i, v) :: l.filter (fun q => !(q.1 == i) && !(q.1 + 1 == i && q.2.category == 2))).map (fun q => (q.1, tv a q.2)) := by
  rw [List.map_cons, List.filter_map]
  congr 3
  funext q
  simp only [Function.comp, tv_cat]
theorem tv_store2 (a : Nat → Nat) (i : Nat) (v : Value) (l : List (Nat × Value)) : (i, tv a v) :: (l.map (fun q => (q.1, tv a q.2))).filter (fun q => !(q.1 == i) && (!(q.1 == i + 1) && !(q.1 + 1 == i && q.2.category == 2))) = ((i, v) :: l.filter (fun q => !(q.1 == i) && (!(q.1 == i + 1) && !(q.1 + 1 == i && q.2.category == 2)))).map (fun q => (q.1, tv a q.2)) := by
  rw [List.map_cons, List.filter_map]
  congr 3
  funext q
  simp only [Function.comp, tv_cat]
def jlv (l : List (Nat × Value)) (i : Nat) : Option Value := match l with
  | [] => none
  | q :: r => if q.1 = i then some q.2 else jlv r i
theorem jlv_mem {i : Nat} {v : Value} : ∀ {l : List (Nat × Value)}, jlv l i = some v → (i, v) ∈ l
  | [], h => by cases h
  | q :: r, h => by
    unfold jlv at h
    by_cases e : q.1 = i
    · rw [if_pos e] at h
      cases h
      rw [← e]
      exact List.mem_cons_self
    · rw [if_neg e] at h
      exact List.mem_cons_of_mem _ (jlv_mem h)
theorem jlv_at {ls : Array Slot} {nL : Nat} {a : Nat → Nat} {l : List (Nat × Value)} {i : Nat} {v : Value} (hl : lv_has ls nL (l.map (fun q => (q.1, tv a q.2)))) (h : jlv l i = some v) : ls[i]? = some (.val (tv a v)) :=
  hl.2.2 (i, tv a v) (List.mem_map.mpr ⟨(i, v), jlv_mem h, rfl⟩)
theorem jlv_k {a : Nat → Nat} {l : List (Nat × Value)} {i : Nat} {v : Value} (h : jlv l i = some v) : ∃ k : Nat, (l.map (fun q => (q.1, tv a q.2)))[k]? = some (i, tv a v) :=
  List.getElem?_of_mem (List.mem_map.mpr ⟨(i, v), jlv_mem h, rfl⟩)
/-- exceptions that a handler of another kind lets pass -/
def NCS : List (String × String) := []
/-! what the tables say at a state, and where the exceptions' statics lie -/
def jK (D : va_G) (g : Nat → ClassId) (U : State) : Prop := va_K D vwCl (jtys g) U ∧ (∀ w ∈ NW, va_Nw w U) ∧ (∀ C ∈ AOS, va_AO C U) ∧ (∀ z ∈ STR, ∃ sa, vk_R z.1 z.2.1 z.2.2 sa U) ∧ ∀ z ∈ NCS, va_Nc z.1 z.2 U
theorem jK.warm {D : va_G} {g : Nat → ClassId} {s U : State} (hW : s.WarmedH U.vm) (h : jK D g s) : jK D g U := by
  refine ⟨va_K.moved hW.alike h.1, fun w hw => ?_, fun C hC => va_AO.moved hW.alike (h.2.2.1 C hC), fun z hz => ?_, fun z hz => va_Nc.moved hW.alike (h.2.2.2.2 z hz)⟩
  · rcases nw_form w hw with ⟨a, i, x, k, rfl⟩ | ⟨a, b, rfl⟩ | ⟨x, rfl⟩
    · exact va_Nw.warmM hW (h.2.1 _ hw)
    · exact va_Nw.warmC hW (h.2.1 _ hw)
    · exact va_Nw.warmD hW (h.2.1 _ hw)
  · obtain ⟨sa, q⟩ := h.2.2.2.1 z hz
    exact ⟨sa, vk_R.warm hW q⟩
def jZ (A : Nat → Prop) (U : State) (H : Heap) : Prop := vx_Zq Bundle.tN "UNASSIGNED_STACK" Bundle.steD A U H ∧ vx_Zq Bundle.tN "SUPPRESSED_SENTINEL" Bundle.listD A U H
/-- a run's fixed surroundings -/
abbrev JX : Type := (Program × Launch × Env × Room × State) × (MethodId × Array Value × List Frame × Method × Code) × (va_G × (Nat → ClassId)) × ((Nat → Prop) × Nat × Nat × (Nat → Nat)) × (Nat × Nat × Nat × Nat) × (State → Prop)
def jC (cc : ByteArray) (own : String) (nm : String × List (Nat × Nat × Nat × Nat)) (nL0 dd : Nat) (scr : Option (Nat × (Nat → Int32))) (X : JX) : Prop := match X with
  | ((p, l, _, R, s), (m, args, _, meth, c), (D, g), (A, nL, n0, a0), (c0, s0, cE, sE), _) =>
    p.tables.exec = Jvm.exec ∧ c.code = cc ∧ s.vm.findClass own = some m.cls ∧ (c.maxLocals = nL ∧ nL = nL0) ∧ (∀ w ∈ GW, w.before args s = true) ∧ jK D g s ∧ jZ A s s.heap ∧
    (dd ≤ R.frames ∧ 36 * dd ≤ R.locals ∧ cE ≤ c0 + R.cells ∧ sE ≤ s0 + R.slots) ∧ ((∀ q, 0 < q → q < n0 → A (a0 q)) ∧ ∀ x, s.heap.size ≤ x → A x) ∧
    (∀ L xs, scr = some (L, xs) → va_X (a0 0) L xs s s.heap ∧ a0 0 < s.heap.size ∧ ¬ A (a0 0) ∧ 0 < n0) ∧ l.stackTraces = false ∧ meth.locks = false ∧ (nm.1 = "<init>" → meth.name = "<init>") ∧ (nm.2 ≠ [] → c.exceptionTable.toList = tableOf nm.2)
def jQ (X : JX) (a : Nat → Nat) (h : JH) (H : Heap) (locs : List Loc) (cells slots : Nat) : Prop := match X with
  | ((_, _, _, _, s), _, (D, g), (A, _, n0, a0), (c0, s0, _, _), _) =>
    jR D g a h.1 h.2.2.2 H ∧ va_S A s.heap H locs ∧ (∀ q, q < n0 → a q = a0 q) ∧ (h.1 = n0 → a = a0) ∧ (∀ q, n0 ≤ q → q < h.1 → s.heap.size ≤ a q) ∧ n0 ≤ h.1 ∧ h.2.1 = c0 + cells ∧ h.2.2.1 = s0 + slots
/-- from this frame over this heap the machine comes to its end -/
def jW (X : JX) (f : JF) (h : JH) : Prop := match X with
  | ((p, l, e, R, s), (m, args, below, meth, c), (D, g), (A, nL, n0, a0), (c0, s0, cE, sE), Q) => ∀ (a : Nat → Nat) (ls : Array Slot) (H : Heap) (locs : List Loc) (cells slots : Nat),
    lv_has ls nL (f.2.1.map (fun q => (q.1, tv a q.2))) → jQ ((p, l, e, R, s), (m, args, below, meth, c), (D, g), (A, nL, n0, a0), (c0, s0, cE, sE), Q) a h H locs cells slots → h.2.1 ≤ cE → h.2.2.1 ≤ sE →
    W p l e R s m args below meth c H locs cells slots Q (F0 m f.1 ls (f.2.2.map (tv a)))
/-- a return instruction for an answer of this kind -/
def jRet (i : Instr) (v : Option Value) : Prop := (i = .ireturn ∧ ∃ x, v = some (.int x)) ∨ (i = .lreturn ∧ ∃ x, v = some (.long x)) ∨ (i = .dreturn ∧ ∃ x, v = some (.double x)) ∨ (i = .return_ ∧ v = none)
/-- a run's end with an answer -/
def jEnd (cc : ByteArray) (X : JX) (v : Option Value) (h : JH) : Prop := match X with
  | ((p, l, e, R, s), (m, args, below, meth, c), Dg, An, (c0, s0, cE, sE), Q) => ∀ (a : Nat → Nat) (ls : Array Slot) (H : Heap) (locs : List Loc) (cells slots pc : Nat) (i : Instr),
    jQ ((p, l, e, R, s), (m, args, below, meth, c), Dg, An, (c0, s0, cE, sE), Q) a h H locs cells slots → h.2.1 ≤ cE → h.2.2.1 ≤ sE → decode cc pc = .ok (i, 1) → jRet i v →
    W p l e R s m args below meth c H locs cells slots Q (F0 m pc ls (v.toList.map (tv a)))
/-- .. with an exception -/
def jEndX (X : JX) (E : String) (h : JH) : Prop := match X with
  | ((p, l, e, R, s), (m, args, below, meth, c), Dg, An, (c0, s0, cE, sE), Q) => ∀ (a : Nat → Nat) (H : Heap) (locs : List Loc) (cells slots : Nat),
    jQ ((p, l, e, R, s), (m, args, below, meth, c), Dg, An, (c0, s0, cE, sE), Q) a h H locs cells slots → ∃ (Qc : Array Value → State → Outcome → State → Prop) (XC : String → State → State → Prop) (mc ms : Nat) (free : Addr → Prop),
      Q = vx_MQ below Qc XC args s mc ms free ∧ (∀ x ∈ c.exceptionTable.toList, False) ∧ (∀ t : State, s.vm.Alike t.vm → H.size ≤ t.heap.size → (∀ q : Nat, q < H.size → t.heap[q]? = H[q]?) → XC E s t) ∧ (∀ z ∈ locs, free z.base) ∧ cells + 1 ≤ mc ∧ slots + 6 ≤ ms ∧ mc ≤ R.cells ∧ ms ≤ R.slots
